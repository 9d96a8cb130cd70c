def F_X10_thrown (n : Nat) (M : Mem) : Option Int32 :=
  some (M 0 0)
theorem hd_X10_thrown : yX10_thrown.cls ≠ "java/lang/invoke/MethodHandle" ∧ yX10_thrown.cls ≠ "java/lang/invoke/VarHandle" ∧ (parseMethodDescriptor yX10_thrown.desc).map (fun d => d.parameters.length) = some 0 := ⟨by decide +kernel, by decide +kernel, by decide +kernel⟩
set_option maxHeartbeats 4000000 in
set_option maxRecDepth 100000 in
theorem c_X10_thrown (l : Launch) (g : GG) (X : va_W) (b : Nat → Nat) (sz n : Nat) (M : Mem) {r0 : Int32} (hf : F_X10_thrown n M = some r0) : Met l yX10_thrown (.code yX10_thrown cX10_thrown 1 (some .int) :: LWg) (rmD 0 0 0) (va_Pc [.ref (b 0)] (PreP g X 10 (shM g b) b sz M)) (Qi g X 10 (shM g b) b sz r0 M) 0 0 (AA X b 10 sz) := by
  refine met_go (by decide +kernel) rfl (Nat.le_of_ble_eq_true rfl) ?_
  intro p e s m below meth c ls H locs C0 C1 hr hlocks hnm hsz hl hI
  subst hsz
  have hl : lv_has ls 1 [(0, .ref (b 0))] := hl
  unfold F_X10_thrown at hf
  refine lv_aload_n C0.1 C0.2.1 dX10_thrown_0 rfl (lv_at hl 0 rfl) ?_
  refine r_get (C := RX10) (T := TX10) (N9 := 20) (ci := 11) C0 C1 hI iX10 rfl 0 0 (Nat.le_of_ble_eq_true rfl) (by decide) ((fun _ => rfl) _) rfl rfl w_1691 dX10_thrown_1 ?_
  exact ee_i C0 hI hr hlocks hf dX10_thrown_4

def F_X10_fail (n : Nat) (x1 : Int32) (M : Mem) : Option (Int32 × Mem) :=
  lt' (up2 M 0 0 x1) (fun M_1 => some (0, M_1))
theorem hd_X10_fail : yX10_fail.cls ≠ "java/lang/invoke/MethodHandle" ∧ yX10_fail.cls ≠ "java/lang/invoke/VarHandle" ∧ (parseMethodDescriptor yX10_fail.desc).map (fun d => d.parameters.length) = some 1 := ⟨by decide +kernel, by decide +kernel, by decide +kernel⟩
set_option maxHeartbeats 4000000 in
set_option maxRecDepth 100000 in
theorem c_X10_fail (l : Launch) (g : GG) (X : va_W) (b : Nat → Nat) (sz n : Nat) (M : Mem) (x1 : Int32) {r0 : Int32} {M' : Mem} (hf : F_X10_fail n x1 M = some (r0, M')) : Met l yX10_fail (.code yX10_fail cX10_fail 2 (some .int) :: LWg) (rmD 0 0 0) (va_Pc [.ref (b 0), .int x1] (PreP g X 10 (shM g b) b sz M)) (Qi g X 10 (shM g b) b sz r0 M') 0 0 (AA X b 10 sz) := by
  refine met_go (by decide +kernel) rfl (Nat.le_of_ble_eq_true rfl) ?_
  intro p e s m below meth c ls H locs C0 C1 hr hlocks hnm hsz hl hI
  subst hsz
  have hl : lv_has ls 2 [(0, .ref (b 0)), (1, .int x1)] := hl
  unfold F_X10_fail at hf
  refine lv_aload_n C0.1 C0.2.1 dX10_fail_0 rfl (lv_at hl 0 rfl) ?_
  refine lv_iload_n C0.1 C0.2.1 dX10_fail_1 rfl (lv_at hl 1 rfl) ?_
  refine r_put (C := RX10) (T := TX10) (N9 := 20) (ci := 11) (fs := fM b) (ty := .int) C0 C1 hI iX10 tyX10 tyX10_ok nmX10 rfl 0 0 (Nat.le_of_ble_eq_true rfl) (by decide) (fun _ => rfl) rfl rfl rfl (by decide +kernel) ⟨rfl, rfl⟩ (Nat.le_of_ble_eq_true rfl) w_1691 dX10_fail_2 (fun H locs hI => ?_)
  obtain ⟨M_1, e_2⟩ : ∃ z : Mem, z = up2 M 0 0 x1 := ⟨_, rfl⟩
  rw [← e_2] at hI
  have hf := lt_at e_2 hf
  refine lv_iconst (v := 0) C0.1 C0.2.1 dX10_fail_5 (by decide) ?_
  exact ee_im C0 hI hr hlocks hf dX10_fail_6

def F_X10_isIn (n : Nat) (x0 : Int32) (x1 : Int32) (x2 : Int32) (M : Mem) : Option Int32 :=
  (if x0 < x1 then some 0 else (if x2 < x0 then some 0 else some 1))
theorem hd_X10_isIn : yX10_isIn.cls ≠ "java/lang/invoke/MethodHandle" ∧ yX10_isIn.cls ≠ "java/lang/invoke/VarHandle" ∧ (parseMethodDescriptor yX10_isIn.desc).map (fun d => d.parameters.length) = some 3 := ⟨by decide +kernel, by decide +kernel, by decide +kernel⟩
set_option maxHeartbeats 4000000 in
set_option maxRecDepth 100000 in
theorem c_X10_isIn (l : Launch) (g : GG) (X : va_W) (b : Nat → Nat) (sz n : Nat) (M : Mem) (x0 : Int32) (x1 : Int32) (x2 : Int32) {r0 : Int32} (hf : F_X10_isIn n x0 x1 x2 M = some r0) : Met l yX10_isIn (.code yX10_isIn cX10_isIn 3 (some .boolean) :: LWg) (rmD 0 0 0) (va_Pc [.int x0, .int x1, .int x2] (PreP g X 10 (shM g b) b sz M)) (Qi g X 10 (shM g b) b sz r0 M) 0 0 (AA X b 10 sz) := by
  refine met_go (by decide +kernel) rfl (Nat.le_of_ble_eq_true rfl) ?_
  intro p e s m below meth c ls H locs C0 C1 hr hlocks hnm hsz hl hI
  subst hsz
  have hl : lv_has ls 3 [(0, .int x0), (1, .int x1), (2, .int x2)] := hl
  unfold F_X10_isIn at hf
  refine lv_iload_n C0.1 C0.2.1 dX10_isIn_0 rfl (lv_at hl 0 rfl) ?_
  refine lv_iload_n C0.1 C0.2.1 dX10_isIn_1 rfl (lv_at hl 1 rfl) ?_
  refine lv_icmp_lt (tgt := 14) C0.1 C0.2.1 dX10_isIn_2 (by decide) (fun c_1 => ?_) (fun c_1 => ?_)
  · have hf := (if_pos c_1).symm.trans hf
    refine lv_iconst (v := 0) C0.1 C0.2.1 dX10_isIn_14 (by decide) ?_
    exact ee_z C0 hI hr hlocks rfl hf dX10_isIn_15
  · have hf := (if_neg c_1).symm.trans hf
    refine lv_iload_n C0.1 C0.2.1 dX10_isIn_5 rfl (lv_at hl 0 rfl) ?_
    refine lv_iload_n C0.1 C0.2.1 dX10_isIn_6 rfl (lv_at hl 2 rfl) ?_
    refine lv_icmp_gt (tgt := 14) C0.1 C0.2.1 dX10_isIn_7 (by decide) (fun c_2 => ?_) (fun c_2 => ?_)
    · have hf := (if_pos c_2).symm.trans hf
      refine lv_iconst (v := 0) C0.1 C0.2.1 dX10_isIn_14 (by decide) ?_
      exact ee_z C0 hI hr hlocks rfl hf dX10_isIn_15
    · have hf := (if_neg c_2).symm.trans hf
      refine lv_iconst (v := 1) C0.1 C0.2.1 dX10_isIn_10 (by decide) ?_
      refine lv_goto (tgt := 15) C0.1 C0.2.1 dX10_isIn_11 (by decide) ?_
      exact ee_z C0 hI hr hlocks rfl hf dX10_isIn_15

def F_X10_lays_L2 (n : Nat) (o0 : Nat) (o1 : Nat) : Nat → Int32 → Mem → Option Mem
  | 0, _, _ => none
  | k2 + 1, x2_2, M =>
    (if 407 ≤ x2_2 then some M else chk (inb x2_2 407) (chk (inb x2_2 407) (lt' (up2 M o0 (ix x2_2) (M o1 (ix x2_2))) (fun M_2_6 => lt' (x2_2 + 1) (fun x2_2_8 => F_X10_lays_L2 n o0 o1 k2 x2_2_8 M_2_6)))))
def F_X10_lays (n : Nat) (o0 : Nat) (o1 : Nat) (M : Mem) : Option Mem :=
  F_X10_lays_L2 n o0 o1 n 0 M
theorem hd_X10_lays : yX10_lays.cls ≠ "java/lang/invoke/MethodHandle" ∧ yX10_lays.cls ≠ "java/lang/invoke/VarHandle" ∧ (parseMethodDescriptor yX10_lays.desc).map (fun d => d.parameters.length) = some 2 := ⟨by decide +kernel, by decide +kernel, by decide +kernel⟩
set_option maxHeartbeats 4000000 in
set_option maxRecDepth 100000 in
theorem c_X10_lays (l : Launch) (g : GG) (X : va_W) (b : Nat → Nat) (sz n : Nat) (M : Mem) (o0 : Nat) (ho0 : 0 < o0 ∧ o0 ≤ 3) (o1 : Nat) (ho1 : 0 < o1 ∧ o1 ≤ 3)  {M' : Mem} (hf : F_X10_lays n o0 o1 M = some M') : Met l yX10_lays (.code yX10_lays cX10_lays 3 none :: LWg) (rmD 0 0 0) (va_Pc [.ref (b o0), .ref (b o1)] (PreP g X 10 (shM g b) b sz M)) (Qv g X 10 (shM g b) b sz M') 0 0 (AA X b 10 sz) := by
  refine met_go (by decide +kernel) rfl (Nat.le_of_ble_eq_true rfl) ?_
  intro p e s m below meth c ls H locs C0 C1 hr hlocks hnm hsz hl hI
  subst hsz
  have hl : lv_has ls 3 [(0, .ref (b o0)), (1, .ref (b o1))] := hl
  unfold F_X10_lays at hf
  refine lv_iconst (v := 0) C0.1 C0.2.1 dX10_lays_0 (by decide) ?_
  refine lv_istore_n (lv' := [(2, .int 0), (0, .ref (b o0)), (1, .ref (b o1))]) C0.1 C0.2.1 dX10_lays_1 rfl hl (by decide) rfl (fun ls hl => ?_)
  have L2 : ∀ (k2 : Nat) (x2_2 : Int32) (M : Mem), F_X10_lays_L2 n o0 o1 k2 x2_2 M = some M' → ∀ (H : Heap) (locs : List Loc) (ls : Array Slot), PI g X 10 (shM g b) b s M H locs → lv_has ls 3 [(0, .ref (b o0)), (1, .ref (b o1)), (2, .int x2_2)] → W p l e (rmD 0 0 0) s m ([.ref (b o0), .ref (b o1)] : List Value).toArray below meth c H locs 0 0 (MQ below (Qv g X 10 (shM g b) b s.heap.size M') ([.ref (b o0), .ref (b o1)] : List Value).toArray s 0 0 (AA X b 10 s.heap.size)) (F0 m 2 ls []) := by
    intro k2
    induction k2 with
    | zero => intro x2_2 M hf; exact absurd (show (none : Option Mem) = some M' from hf) (fun h => by cases h)
    | succ k2 ih2 =>
      intro x2_2 M hf H locs ls hI hl
      unfold F_X10_lays_L2 at hf
      refine lv_iload_n C0.1 C0.2.1 dX10_lays_2 rfl (lv_at hl 2 rfl) ?_
      refine lv_sipush (v := 407) C0.1 C0.2.1 dX10_lays_3 (by decide) ?_
      refine lv_icmp_ge (tgt := 21) C0.1 C0.2.1 dX10_lays_6 (by decide) (fun c_2_1 => ?_) (fun c_2_1 => ?_)
      · have hf := (if_pos c_2_1).symm.trans hf
        exact ee_vm C0 hI hr hlocks hf dX10_lays_21
      · have hf := (if_neg c_2_1).symm.trans hf
        refine lv_aload_n C0.1 C0.2.1 dX10_lays_9 rfl (lv_at hl 0 rfl) ?_
        refine lv_iload_n C0.1 C0.2.1 dX10_lays_10 rfl (lv_at hl 2 rfl) ?_
        refine lv_aload_n C0.1 C0.2.1 dX10_lays_11 rfl (lv_at hl 1 rfl) ?_
        refine lv_iload_n C0.1 C0.2.1 dX10_lays_12 rfl (lv_at hl 2 rfl) ?_
        obtain ⟨h_2_2, hf⟩ := chk_some hf
        refine r_iald C0 C1 hI o1 (shM_k ho1) (shM_s ho1) h_2_2 dX10_lays_13 ?_
        obtain ⟨h_2_3, hf⟩ := chk_some hf
        refine r_iast C0 C1 hI o0 (shM_k ho0) (shM_s ho0) h_2_3 dX10_lays_14 (fun H locs hI => ?_)
        obtain ⟨M_2_6, e_2_7⟩ : ∃ z : Mem, z = up2 M o0 (ix x2_2) (M o1 (ix x2_2)) := ⟨_, rfl⟩
        rw [← e_2_7] at hI
        have hf := lt_at e_2_7 hf
        obtain ⟨x2_2_8, e_2_9⟩ : ∃ z : Int32, z = x2_2 + 1 := ⟨_, rfl⟩
        have hf := lt_at e_2_9 hf
        refine lv_iinc (v := x2_2_8) (lv' := [(2, .int x2_2_8), (0, .ref (b o0)), (1, .ref (b o1))]) C0.1 C0.2.1 dX10_lays_15 hl (k := 2) rfl (by rw [e_2_9]; rfl) (by decide) rfl (fun ls hl => ?_)
        refine lv_goto (tgt := 2) C0.1 C0.2.1 dX10_lays_18 (by decide) ?_
        exact ih2 x2_2_8 M_2_6 hf H locs ls hI (lv_sub hl [1, 2, 0] rfl)
  exact L2 n 0 M hf H locs ls hI (lv_sub hl [1, 2, 0] rfl)

def F_X10_begins (n : Nat) (M : Mem) : Option Mem :=
  lt' (up2 M 0 0 0) (fun M_1 => ob (F_X10_lays n 2 1 M_1) (fun M_4 => some M_4))
theorem hd_X10_begins : yX10_begins.cls ≠ "java/lang/invoke/MethodHandle" ∧ yX10_begins.cls ≠ "java/lang/invoke/VarHandle" ∧ (parseMethodDescriptor yX10_begins.desc).map (fun d => d.parameters.length) = some 0 := ⟨by decide +kernel, by decide +kernel, by decide +kernel⟩
set_option maxHeartbeats 4000000 in
set_option maxRecDepth 100000 in
theorem c_X10_begins (l : Launch) (g : GG) (X : va_W) (b : Nat → Nat) (sz n : Nat) (M : Mem)  {M' : Mem} (hf : F_X10_begins n M = some M') : Met l yX10_begins (.code yX10_begins cX10_begins 1 none :: LWg) (rmD 1 0 0) (va_Pc [.ref (b 0)] (PreP g X 10 (shM g b) b sz M)) (Qv g X 10 (shM g b) b sz M') 0 0 (AA X b 10 sz) := by
  refine met_go (by decide +kernel) rfl (Nat.le_of_ble_eq_true rfl) ?_
  intro p e s m below meth c ls H locs C0 C1 hr hlocks hnm hsz hl hI
  subst hsz
  have hl : lv_has ls 1 [(0, .ref (b 0))] := hl
  unfold F_X10_begins at hf
  refine lv_aload_n C0.1 C0.2.1 dX10_begins_0 rfl (lv_at hl 0 rfl) ?_
  refine lv_iconst (v := 0) C0.1 C0.2.1 dX10_begins_1 (by decide) ?_
  refine r_put (C := RX10) (T := TX10) (N9 := 20) (ci := 11) (fs := fM b) (ty := .int) C0 C1 hI iX10 tyX10 tyX10_ok nmX10 rfl 0 0 (Nat.le_of_ble_eq_true rfl) (by decide) (fun _ => rfl) rfl rfl rfl (by decide +kernel) ⟨rfl, rfl⟩ (Nat.le_of_ble_eq_true rfl) w_1691 dX10_begins_2 (fun H locs hI => ?_)
  obtain ⟨M_1, e_2⟩ : ∃ z : Mem, z = up2 M 0 0 0 := ⟨_, rfl⟩
  rw [← e_2] at hI
  have hf := lt_at e_2 hf
  refine lv_aload_n C0.1 C0.2.1 dX10_begins_5 rfl (lv_at hl 0 rfl) ?_
  refine r_get (C := RX10) (T := TX10) (N9 := 20) (ci := 11) C0 C1 hI iX10 rfl 0 6 (Nat.le_of_ble_eq_true rfl) (by decide) ((fun _ => rfl) _) rfl rfl w_1697 dX10_begins_6 ?_
  refine lv_aload_n C0.1 C0.2.1 dX10_begins_9 rfl (lv_at hl 0 rfl) ?_
  refine r_get (C := RX10) (T := TX10) (N9 := 20) (ci := 11) C0 C1 hI iX10 rfl 0 5 (Nat.le_of_ble_eq_true rfl) (by decide) ((fun _ => rfl) _) rfl rfl w_1696 dX10_begins_10 ?_
  obtain ⟨M_4, h_3, hf⟩ := ob_some hf
  refine k_v C1 hI (q_S C0 C1 hI (c_X10_lays l g X b H.size n M_1 2 (by decide) 1 (by decide) h_3) w_1764 w_1765 w_132 w_1766 ⟨rfl, rfl⟩ hd_X10_lays ⟨Nat.le_of_ble_eq_true rfl, Nat.le_of_ble_eq_true rfl⟩ rfl hl.1 rfl (Nat.le_of_ble_eq_true rfl) dX10_begins_13 ⟨Nat.le_of_ble_eq_true rfl, Nat.le_of_ble_eq_true rfl⟩) (fun H locs hI => ?_)
  exact ee_vm C0 hI hr hlocks hf dX10_begins_16

def F_X10_ends_L72 (n : Nat) : Nat → Int32 → Int32 → Mem → Option (Int32 × Mem)
  | 0, _, _, _ => none
  | k72 + 1, x1_72, x2_72, M =>
    (if 407 ≤ x2_72 then lt' (up2 M 0 1 ((M 0 1) + 1)) (fun M_72_2 => some (x1_72, M_72_2)) else chk (inb x2_72 407) (chk (inb (((M 0 1) * 407) + x2_72) 3256) (lt' (up2 M 4 (ix (((M 0 1) * 407) + x2_72)) (M 2 (ix x2_72))) (fun M_72_8 => lt' (x2_72 + 1) (fun x2_72_10 => F_X10_ends_L72 n k72 x1_72 x2_72_10 M_72_8)))))
def F_X10_ends_L31 (n : Nat) : Nat → Int32 → Int32 → Mem → Option (Int32 × Mem)
  | 0, _, _, _ => none
  | k31 + 1, x1_31, x2_31, M =>
    (if 2849 ≤ x2_31 then lt' (up2 M 0 1 ((M 0 1) - 1)) (fun M_31_2 => F_X10_ends_L72 n n x1_31 0 M_31_2) else chk (inb (x2_31 + 407) 3256) (chk (inb x2_31 3256) (lt' (up2 M 4 (ix x2_31) (M 4 (ix (x2_31 + 407)))) (fun M_31_8 => lt' (x2_31 + 1) (fun x2_31_10 => F_X10_ends_L31 n k31 x1_31 x2_31_10 M_31_8)))))
def F_X10_ends (n : Nat) (x1 : Int32) (M : Mem) : Option (Int32 × Mem) :=
  (if (M 0 0) = 0 then (if (M 0 1) = 8 then F_X10_ends_L31 n n x1 0 M else F_X10_ends_L72 n n x1 0 M) else ob (F_X10_lays n 1 2 M) (fun M_4 => some (0, M_4)))
theorem hd_X10_ends : yX10_ends.cls ≠ "java/lang/invoke/MethodHandle" ∧ yX10_ends.cls ≠ "java/lang/invoke/VarHandle" ∧ (parseMethodDescriptor yX10_ends.desc).map (fun d => d.parameters.length) = some 1 := ⟨by decide +kernel, by decide +kernel, by decide +kernel⟩
set_option maxHeartbeats 4000000 in
set_option maxRecDepth 100000 in
theorem c_X10_ends (l : Launch) (g : GG) (X : va_W) (b : Nat → Nat) (sz n : Nat) (M : Mem) (x1 : Int32) {r0 : Int32} {M' : Mem} (hf : F_X10_ends n x1 M = some (r0, M')) : Met l yX10_ends (.code yX10_ends cX10_ends 3 (some .int) :: LWg) (rmD 1 0 0) (va_Pc [.ref (b 0), .int x1] (PreP g X 10 (shM g b) b sz M)) (Qi g X 10 (shM g b) b sz r0 M') 0 0 (AA X b 10 sz) := by
  refine met_go (by decide +kernel) rfl (Nat.le_of_ble_eq_true rfl) ?_
  intro p e s m below meth c ls H locs C0 C1 hr hlocks hnm hsz hl hI
  subst hsz
  have hl : lv_has ls 3 [(0, .ref (b 0)), (1, .int x1)] := hl
  unfold F_X10_ends at hf
  refine lv_aload_n C0.1 C0.2.1 dX10_ends_0 rfl (lv_at hl 0 rfl) ?_
  refine r_get (C := RX10) (T := TX10) (N9 := 20) (ci := 11) C0 C1 hI iX10 rfl 0 0 (Nat.le_of_ble_eq_true rfl) (by decide) ((fun _ => rfl) _) rfl rfl w_1691 dX10_ends_1 ?_
  refine lv_if_eq (tgt := 20) C0.1 C0.2.1 dX10_ends_4 (by decide) (fun c_1 => ?_) (fun c_1 => ?_)
  · have hf := (if_pos c_1).symm.trans hf
    refine lv_aload_n C0.1 C0.2.1 dX10_ends_20 rfl (lv_at hl 0 rfl) ?_
    refine r_get (C := RX10) (T := TX10) (N9 := 20) (ci := 11) C0 C1 hI iX10 rfl 0 1 (Nat.le_of_ble_eq_true rfl) (by decide) ((fun _ => rfl) _) rfl rfl w_1692 dX10_ends_21 ?_
    refine lv_bipush (v := 8) C0.1 C0.2.1 dX10_ends_24 (by decide) ?_
    refine lv_icmp_ne (tgt := 70) C0.1 C0.2.1 dX10_ends_26 (by decide) (fun c_2 => ?_) (fun c_2 => ?_)
    · have hf := (if_neg c_2).symm.trans hf
      refine lv_iconst (v := 0) C0.1 C0.2.1 dX10_ends_70 (by decide) ?_
      refine lv_istore_n (lv' := [(2, .int 0), (0, .ref (b 0)), (1, .int x1)]) C0.1 C0.2.1 dX10_ends_71 rfl hl (by decide) rfl (fun ls hl => ?_)
      have L72 : ∀ (k72 : Nat) (x1_72 : Int32) (x2_72 : Int32) (M : Mem), F_X10_ends_L72 n k72 x1_72 x2_72 M = some (r0, M') → ∀ (H : Heap) (locs : List Loc) (ls : Array Slot), PI g X 10 (shM g b) b s M H locs → lv_has ls 3 [(0, .ref (b 0)), (1, .int x1_72), (2, .int x2_72)] → W p l e (rmD 1 0 0) s m ([.ref (b 0), .int x1] : List Value).toArray below meth c H locs 0 0 (MQ below (Qi g X 10 (shM g b) b s.heap.size r0 M') ([.ref (b 0), .int x1] : List Value).toArray s 0 0 (AA X b 10 s.heap.size)) (F0 m 72 ls []) := by
        intro k72
        induction k72 with
        | zero => intro x1_72 x2_72 M hf; exact absurd (show (none : Option (Int32 × Mem)) = some (r0, M') from hf) (fun h => by cases h)
        | succ k72 ih72 =>
          intro x1_72 x2_72 M hf H locs ls hI hl
          unfold F_X10_ends_L72 at hf
          refine lv_iload_n C0.1 C0.2.1 dX10_ends_72 rfl (lv_at hl 2 rfl) ?_
          refine lv_sipush (v := 407) C0.1 C0.2.1 dX10_ends_73 (by decide) ?_
          refine lv_icmp_ge (tgt := 106) C0.1 C0.2.1 dX10_ends_76 (by decide) (fun c_72_1 => ?_) (fun c_72_1 => ?_)
          · have hf := (if_pos c_72_1).symm.trans hf
            refine lv_aload_n C0.1 C0.2.1 dX10_ends_106 rfl (lv_at hl 0 rfl) ?_
            refine lv_dup C0.1 C0.2.1 dX10_ends_107 rfl ?_
            refine r_get (C := RX10) (T := TX10) (N9 := 20) (ci := 11) C0 C1 hI iX10 rfl 0 1 (Nat.le_of_ble_eq_true rfl) (by decide) ((fun _ => rfl) _) rfl rfl w_1692 dX10_ends_108 ?_
            refine lv_iconst (v := 1) C0.1 C0.2.1 dX10_ends_111 (by decide) ?_
            refine lv_iadd C0.1 C0.2.1 dX10_ends_112 ?_
            refine r_put (C := RX10) (T := TX10) (N9 := 20) (ci := 11) (fs := fM b) (ty := .int) C0 C1 hI iX10 tyX10 tyX10_ok nmX10 rfl 0 1 (Nat.le_of_ble_eq_true rfl) (by decide) (fun _ => rfl) rfl rfl rfl (by decide +kernel) ⟨rfl, rfl⟩ (Nat.le_of_ble_eq_true rfl) w_1692 dX10_ends_113 (fun H locs hI => ?_)
            obtain ⟨M_72_2, e_72_3⟩ : ∃ z : Mem, z = up2 M 0 1 ((M 0 1) + 1) := ⟨_, rfl⟩
            rw [← e_72_3] at hI
            have hf := lt_at e_72_3 hf
            refine lv_iload_n C0.1 C0.2.1 dX10_ends_116 rfl (lv_at hl 1 rfl) ?_
            exact ee_im C0 hI hr hlocks hf dX10_ends_117
          · have hf := (if_neg c_72_1).symm.trans hf
            refine lv_aload_n C0.1 C0.2.1 dX10_ends_79 rfl (lv_at hl 0 rfl) ?_
            refine r_get (C := RX10) (T := TX10) (N9 := 20) (ci := 11) C0 C1 hI iX10 rfl 0 8 (Nat.le_of_ble_eq_true rfl) (by decide) ((fun _ => rfl) _) rfl rfl w_1699 dX10_ends_80 ?_
            refine lv_aload_n C0.1 C0.2.1 dX10_ends_83 rfl (lv_at hl 0 rfl) ?_
            refine r_get (C := RX10) (T := TX10) (N9 := 20) (ci := 11) C0 C1 hI iX10 rfl 0 1 (Nat.le_of_ble_eq_true rfl) (by decide) ((fun _ => rfl) _) rfl rfl w_1692 dX10_ends_84 ?_
            refine lv_sipush (v := 407) C0.1 C0.2.1 dX10_ends_87 (by decide) ?_
            refine lv_imul C0.1 C0.2.1 dX10_ends_90 ?_
            refine lv_iload_n C0.1 C0.2.1 dX10_ends_91 rfl (lv_at hl 2 rfl) ?_
            refine lv_iadd C0.1 C0.2.1 dX10_ends_92 ?_
            refine lv_aload_n C0.1 C0.2.1 dX10_ends_93 rfl (lv_at hl 0 rfl) ?_
            refine r_get (C := RX10) (T := TX10) (N9 := 20) (ci := 11) C0 C1 hI iX10 rfl 0 6 (Nat.le_of_ble_eq_true rfl) (by decide) ((fun _ => rfl) _) rfl rfl w_1697 dX10_ends_94 ?_
            refine lv_iload_n C0.1 C0.2.1 dX10_ends_97 rfl (lv_at hl 2 rfl) ?_
            obtain ⟨h_72_4, hf⟩ := chk_some hf
            refine r_iald C0 C1 hI 2 (Nat.le_of_ble_eq_true rfl) (fun _ => rfl) h_72_4 dX10_ends_98 ?_
            obtain ⟨h_72_5, hf⟩ := chk_some hf
            refine r_iast C0 C1 hI 4 (Nat.le_of_ble_eq_true rfl) (fun _ => rfl) h_72_5 dX10_ends_99 (fun H locs hI => ?_)
            obtain ⟨M_72_8, e_72_9⟩ : ∃ z : Mem, z = up2 M 4 (ix (((M 0 1) * 407) + x2_72)) (M 2 (ix x2_72)) := ⟨_, rfl⟩
            rw [← e_72_9] at hI
            have hf := lt_at e_72_9 hf
            obtain ⟨x2_72_10, e_72_11⟩ : ∃ z : Int32, z = x2_72 + 1 := ⟨_, rfl⟩
            have hf := lt_at e_72_11 hf
            refine lv_iinc (v := x2_72_10) (lv' := [(2, .int x2_72_10), (0, .ref (b 0)), (1, .int x1_72)]) C0.1 C0.2.1 dX10_ends_100 hl (k := 2) rfl (by rw [e_72_11]; rfl) (by decide) rfl (fun ls hl => ?_)
            refine lv_goto (tgt := 72) C0.1 C0.2.1 dX10_ends_103 (by decide) ?_
            exact ih72 x1_72 x2_72_10 M_72_8 hf H locs ls hI (lv_sub hl [1, 2, 0] rfl)
      exact L72 n x1 0 M hf H locs ls hI (lv_sub hl [1, 2, 0] rfl)
    · have hf := (if_pos c_2).symm.trans hf
      refine lv_iconst (v := 0) C0.1 C0.2.1 dX10_ends_29 (by decide) ?_
      refine lv_istore_n (lv' := [(2, .int 0), (0, .ref (b 0)), (1, .int x1)]) C0.1 C0.2.1 dX10_ends_30 rfl hl (by decide) rfl (fun ls hl => ?_)
      have L31 : ∀ (k31 : Nat) (x1_31 : Int32) (x2_31 : Int32) (M : Mem), F_X10_ends_L31 n k31 x1_31 x2_31 M = some (r0, M') → ∀ (H : Heap) (locs : List Loc) (ls : Array Slot), PI g X 10 (shM g b) b s M H locs → lv_has ls 3 [(0, .ref (b 0)), (1, .int x1_31), (2, .int x2_31)] → W p l e (rmD 1 0 0) s m ([.ref (b 0), .int x1] : List Value).toArray below meth c H locs 0 0 (MQ below (Qi g X 10 (shM g b) b s.heap.size r0 M') ([.ref (b 0), .int x1] : List Value).toArray s 0 0 (AA X b 10 s.heap.size)) (F0 m 31 ls []) := by
        intro k31
        induction k31 with
        | zero => intro x1_31 x2_31 M hf; exact absurd (show (none : Option (Int32 × Mem)) = some (r0, M') from hf) (fun h => by cases h)
        | succ k31 ih31 =>
          intro x1_31 x2_31 M hf H locs ls hI hl
          unfold F_X10_ends_L31 at hf
          refine lv_iload_n C0.1 C0.2.1 dX10_ends_31 rfl (lv_at hl 2 rfl) ?_
          refine lv_sipush (v := 2849) C0.1 C0.2.1 dX10_ends_32 (by decide) ?_
          refine lv_icmp_ge (tgt := 60) C0.1 C0.2.1 dX10_ends_35 (by decide) (fun c_31_1 => ?_) (fun c_31_1 => ?_)
          · have hf := (if_pos c_31_1).symm.trans hf
            refine lv_aload_n C0.1 C0.2.1 dX10_ends_60 rfl (lv_at hl 0 rfl) ?_
            refine lv_dup C0.1 C0.2.1 dX10_ends_61 rfl ?_
            refine r_get (C := RX10) (T := TX10) (N9 := 20) (ci := 11) C0 C1 hI iX10 rfl 0 1 (Nat.le_of_ble_eq_true rfl) (by decide) ((fun _ => rfl) _) rfl rfl w_1692 dX10_ends_62 ?_
            refine lv_iconst (v := 1) C0.1 C0.2.1 dX10_ends_65 (by decide) ?_
            refine lv_isub C0.1 C0.2.1 dX10_ends_66 ?_
            refine r_put (C := RX10) (T := TX10) (N9 := 20) (ci := 11) (fs := fM b) (ty := .int) C0 C1 hI iX10 tyX10 tyX10_ok nmX10 rfl 0 1 (Nat.le_of_ble_eq_true rfl) (by decide) (fun _ => rfl) rfl rfl rfl (by decide +kernel) ⟨rfl, rfl⟩ (Nat.le_of_ble_eq_true rfl) w_1692 dX10_ends_67 (fun H locs hI => ?_)
            obtain ⟨M_31_2, e_31_3⟩ : ∃ z : Mem, z = up2 M 0 1 ((M 0 1) - 1) := ⟨_, rfl⟩
            rw [← e_31_3] at hI
            have hf := lt_at e_31_3 hf
            refine lv_iconst (v := 0) C0.1 C0.2.1 dX10_ends_70 (by decide) ?_
            refine lv_istore_n (lv' := [(2, .int 0), (0, .ref (b 0)), (1, .int x1_31)]) C0.1 C0.2.1 dX10_ends_71 rfl hl (by decide) rfl (fun ls hl => ?_)
            have L72 : ∀ (k72 : Nat) (x1_72 : Int32) (x2_72 : Int32) (M : Mem), F_X10_ends_L72 n k72 x1_72 x2_72 M = some (r0, M') → ∀ (H : Heap) (locs : List Loc) (ls : Array Slot), PI g X 10 (shM g b) b s M H locs → lv_has ls 3 [(0, .ref (b 0)), (1, .int x1_72), (2, .int x2_72)] → W p l e (rmD 1 0 0) s m ([.ref (b 0), .int x1] : List Value).toArray below meth c H locs 0 0 (MQ below (Qi g X 10 (shM g b) b s.heap.size r0 M') ([.ref (b 0), .int x1] : List Value).toArray s 0 0 (AA X b 10 s.heap.size)) (F0 m 72 ls []) := by
              intro k72
              induction k72 with
              | zero => intro x1_72 x2_72 M hf; exact absurd (show (none : Option (Int32 × Mem)) = some (r0, M') from hf) (fun h => by cases h)
              | succ k72 ih72 =>
                intro x1_72 x2_72 M hf H locs ls hI hl
                unfold F_X10_ends_L72 at hf
                refine lv_iload_n C0.1 C0.2.1 dX10_ends_72 rfl (lv_at hl 2 rfl) ?_
                refine lv_sipush (v := 407) C0.1 C0.2.1 dX10_ends_73 (by decide) ?_
                refine lv_icmp_ge (tgt := 106) C0.1 C0.2.1 dX10_ends_76 (by decide) (fun c_72_1 => ?_) (fun c_72_1 => ?_)
                · have hf := (if_pos c_72_1).symm.trans hf
                  refine lv_aload_n C0.1 C0.2.1 dX10_ends_106 rfl (lv_at hl 0 rfl) ?_
                  refine lv_dup C0.1 C0.2.1 dX10_ends_107 rfl ?_
                  refine r_get (C := RX10) (T := TX10) (N9 := 20) (ci := 11) C0 C1 hI iX10 rfl 0 1 (Nat.le_of_ble_eq_true rfl) (by decide) ((fun _ => rfl) _) rfl rfl w_1692 dX10_ends_108 ?_
                  refine lv_iconst (v := 1) C0.1 C0.2.1 dX10_ends_111 (by decide) ?_
                  refine lv_iadd C0.1 C0.2.1 dX10_ends_112 ?_
                  refine r_put (C := RX10) (T := TX10) (N9 := 20) (ci := 11) (fs := fM b) (ty := .int) C0 C1 hI iX10 tyX10 tyX10_ok nmX10 rfl 0 1 (Nat.le_of_ble_eq_true rfl) (by decide) (fun _ => rfl) rfl rfl rfl (by decide +kernel) ⟨rfl, rfl⟩ (Nat.le_of_ble_eq_true rfl) w_1692 dX10_ends_113 (fun H locs hI => ?_)
                  obtain ⟨M_72_2, e_72_3⟩ : ∃ z : Mem, z = up2 M 0 1 ((M 0 1) + 1) := ⟨_, rfl⟩
                  rw [← e_72_3] at hI
                  have hf := lt_at e_72_3 hf
                  refine lv_iload_n C0.1 C0.2.1 dX10_ends_116 rfl (lv_at hl 1 rfl) ?_
                  exact ee_im C0 hI hr hlocks hf dX10_ends_117
                · have hf := (if_neg c_72_1).symm.trans hf
                  refine lv_aload_n C0.1 C0.2.1 dX10_ends_79 rfl (lv_at hl 0 rfl) ?_
                  refine r_get (C := RX10) (T := TX10) (N9 := 20) (ci := 11) C0 C1 hI iX10 rfl 0 8 (Nat.le_of_ble_eq_true rfl) (by decide) ((fun _ => rfl) _) rfl rfl w_1699 dX10_ends_80 ?_
                  refine lv_aload_n C0.1 C0.2.1 dX10_ends_83 rfl (lv_at hl 0 rfl) ?_
                  refine r_get (C := RX10) (T := TX10) (N9 := 20) (ci := 11) C0 C1 hI iX10 rfl 0 1 (Nat.le_of_ble_eq_true rfl) (by decide) ((fun _ => rfl) _) rfl rfl w_1692 dX10_ends_84 ?_
                  refine lv_sipush (v := 407) C0.1 C0.2.1 dX10_ends_87 (by decide) ?_
                  refine lv_imul C0.1 C0.2.1 dX10_ends_90 ?_
                  refine lv_iload_n C0.1 C0.2.1 dX10_ends_91 rfl (lv_at hl 2 rfl) ?_
                  refine lv_iadd C0.1 C0.2.1 dX10_ends_92 ?_
                  refine lv_aload_n C0.1 C0.2.1 dX10_ends_93 rfl (lv_at hl 0 rfl) ?_
                  refine r_get (C := RX10) (T := TX10) (N9 := 20) (ci := 11) C0 C1 hI iX10 rfl 0 6 (Nat.le_of_ble_eq_true rfl) (by decide) ((fun _ => rfl) _) rfl rfl w_1697 dX10_ends_94 ?_
                  refine lv_iload_n C0.1 C0.2.1 dX10_ends_97 rfl (lv_at hl 2 rfl) ?_
                  obtain ⟨h_72_4, hf⟩ := chk_some hf
                  refine r_iald C0 C1 hI 2 (Nat.le_of_ble_eq_true rfl) (fun _ => rfl) h_72_4 dX10_ends_98 ?_
                  obtain ⟨h_72_5, hf⟩ := chk_some hf
                  refine r_iast C0 C1 hI 4 (Nat.le_of_ble_eq_true rfl) (fun _ => rfl) h_72_5 dX10_ends_99 (fun H locs hI => ?_)
                  obtain ⟨M_72_8, e_72_9⟩ : ∃ z : Mem, z = up2 M 4 (ix (((M 0 1) * 407) + x2_72)) (M 2 (ix x2_72)) := ⟨_, rfl⟩
                  rw [← e_72_9] at hI
                  have hf := lt_at e_72_9 hf
                  obtain ⟨x2_72_10, e_72_11⟩ : ∃ z : Int32, z = x2_72 + 1 := ⟨_, rfl⟩
                  have hf := lt_at e_72_11 hf
                  refine lv_iinc (v := x2_72_10) (lv' := [(2, .int x2_72_10), (0, .ref (b 0)), (1, .int x1_72)]) C0.1 C0.2.1 dX10_ends_100 hl (k := 2) rfl (by rw [e_72_11]; rfl) (by decide) rfl (fun ls hl => ?_)
                  refine lv_goto (tgt := 72) C0.1 C0.2.1 dX10_ends_103 (by decide) ?_
                  exact ih72 x1_72 x2_72_10 M_72_8 hf H locs ls hI (lv_sub hl [1, 2, 0] rfl)
            exact L72 n x1_31 0 M_31_2 hf H locs ls hI (lv_sub hl [1, 2, 0] rfl)
          · have hf := (if_neg c_31_1).symm.trans hf
            refine lv_aload_n C0.1 C0.2.1 dX10_ends_38 rfl (lv_at hl 0 rfl) ?_
            refine r_get (C := RX10) (T := TX10) (N9 := 20) (ci := 11) C0 C1 hI iX10 rfl 0 8 (Nat.le_of_ble_eq_true rfl) (by decide) ((fun _ => rfl) _) rfl rfl w_1699 dX10_ends_39 ?_
            refine lv_iload_n C0.1 C0.2.1 dX10_ends_42 rfl (lv_at hl 2 rfl) ?_
            refine lv_aload_n C0.1 C0.2.1 dX10_ends_43 rfl (lv_at hl 0 rfl) ?_
            refine r_get (C := RX10) (T := TX10) (N9 := 20) (ci := 11) C0 C1 hI iX10 rfl 0 8 (Nat.le_of_ble_eq_true rfl) (by decide) ((fun _ => rfl) _) rfl rfl w_1699 dX10_ends_44 ?_
            refine lv_iload_n C0.1 C0.2.1 dX10_ends_47 rfl (lv_at hl 2 rfl) ?_
            refine lv_sipush (v := 407) C0.1 C0.2.1 dX10_ends_48 (by decide) ?_
            refine lv_iadd C0.1 C0.2.1 dX10_ends_51 ?_
            obtain ⟨h_31_4, hf⟩ := chk_some hf
            refine r_iald C0 C1 hI 4 (Nat.le_of_ble_eq_true rfl) (fun _ => rfl) h_31_4 dX10_ends_52 ?_
            obtain ⟨h_31_5, hf⟩ := chk_some hf
            refine r_iast C0 C1 hI 4 (Nat.le_of_ble_eq_true rfl) (fun _ => rfl) h_31_5 dX10_ends_53 (fun H locs hI => ?_)
            obtain ⟨M_31_8, e_31_9⟩ : ∃ z : Mem, z = up2 M 4 (ix x2_31) (M 4 (ix (x2_31 + 407))) := ⟨_, rfl⟩
            rw [← e_31_9] at hI
            have hf := lt_at e_31_9 hf
            obtain ⟨x2_31_10, e_31_11⟩ : ∃ z : Int32, z = x2_31 + 1 := ⟨_, rfl⟩
            have hf := lt_at e_31_11 hf
            refine lv_iinc (v := x2_31_10) (lv' := [(2, .int x2_31_10), (0, .ref (b 0)), (1, .int x1_31)]) C0.1 C0.2.1 dX10_ends_54 hl (k := 2) rfl (by rw [e_31_11]; rfl) (by decide) rfl (fun ls hl => ?_)
            refine lv_goto (tgt := 31) C0.1 C0.2.1 dX10_ends_57 (by decide) ?_
            exact ih31 x1_31 x2_31_10 M_31_8 hf H locs ls hI (lv_sub hl [1, 2, 0] rfl)
      exact L31 n x1 0 M hf H locs ls hI (lv_sub hl [1, 2, 0] rfl)
  · have hf := (if_neg c_1).symm.trans hf
    refine lv_aload_n C0.1 C0.2.1 dX10_ends_7 rfl (lv_at hl 0 rfl) ?_
    refine r_get (C := RX10) (T := TX10) (N9 := 20) (ci := 11) C0 C1 hI iX10 rfl 0 5 (Nat.le_of_ble_eq_true rfl) (by decide) ((fun _ => rfl) _) rfl rfl w_1696 dX10_ends_8 ?_
    refine lv_aload_n C0.1 C0.2.1 dX10_ends_11 rfl (lv_at hl 0 rfl) ?_
    refine r_get (C := RX10) (T := TX10) (N9 := 20) (ci := 11) C0 C1 hI iX10 rfl 0 6 (Nat.le_of_ble_eq_true rfl) (by decide) ((fun _ => rfl) _) rfl rfl w_1697 dX10_ends_12 ?_
    obtain ⟨M_4, h_3, hf⟩ := ob_some hf
    refine k_v C1 hI (q_S C0 C1 hI (c_X10_lays l g X b H.size n M 1 (by decide) 2 (by decide) h_3) w_1764 w_1765 w_132 w_1766 ⟨rfl, rfl⟩ hd_X10_lays ⟨Nat.le_of_ble_eq_true rfl, Nat.le_of_ble_eq_true rfl⟩ rfl hl.1 rfl (Nat.le_of_ble_eq_true rfl) dX10_ends_15 ⟨Nat.le_of_ble_eq_true rfl, Nat.le_of_ble_eq_true rfl⟩) (fun H locs hI => ?_)
    refine lv_iconst (v := 0) C0.1 C0.2.1 dX10_ends_18 (by decide) ?_
    exact ee_im C0 hI hr hlocks hf dX10_ends_19

def F_X10_isFrog (n : Nat) (x1 : Int32) (M : Mem) : Option Int32 :=
  chk (inb 0 407) (ob (F_X10_isIn n x1 0 ((M 1 (ix 0)) - 1) M) (fun r_3 => chk (isB r_3) (some r_3)))
theorem hd_X10_isFrog : yX10_isFrog.cls ≠ "java/lang/invoke/MethodHandle" ∧ yX10_isFrog.cls ≠ "java/lang/invoke/VarHandle" ∧ (parseMethodDescriptor yX10_isFrog.desc).map (fun d => d.parameters.length) = some 1 := ⟨by decide +kernel, by decide +kernel, by decide +kernel⟩
set_option maxHeartbeats 4000000 in
set_option maxRecDepth 100000 in
theorem c_X10_isFrog (l : Launch) (g : GG) (X : va_W) (b : Nat → Nat) (sz n : Nat) (M : Mem) (x1 : Int32) {r0 : Int32} (hf : F_X10_isFrog n x1 M = some r0) : Met l yX10_isFrog (.code yX10_isFrog cX10_isFrog 2 (some .boolean) :: LWg) (rmD 1 0 0) (va_Pc [.ref (b 0), .int x1] (PreP g X 10 (shM g b) b sz M)) (Qi g X 10 (shM g b) b sz r0 M) 0 0 (AA X b 10 sz) := by
  refine met_go (by decide +kernel) rfl (Nat.le_of_ble_eq_true rfl) ?_
  intro p e s m below meth c ls H locs C0 C1 hr hlocks hnm hsz hl hI
  subst hsz
  have hl : lv_has ls 2 [(0, .ref (b 0)), (1, .int x1)] := hl
  unfold F_X10_isFrog at hf
  refine lv_iload_n C0.1 C0.2.1 dX10_isFrog_0 rfl (lv_at hl 1 rfl) ?_
  refine lv_iconst (v := 0) C0.1 C0.2.1 dX10_isFrog_1 (by decide) ?_
  refine lv_aload_n C0.1 C0.2.1 dX10_isFrog_2 rfl (lv_at hl 0 rfl) ?_
  refine r_get (C := RX10) (T := TX10) (N9 := 20) (ci := 11) C0 C1 hI iX10 rfl 0 5 (Nat.le_of_ble_eq_true rfl) (by decide) ((fun _ => rfl) _) rfl rfl w_1696 dX10_isFrog_3 ?_
  refine lv_iconst (v := 0) C0.1 C0.2.1 dX10_isFrog_6 (by decide) ?_
  obtain ⟨h_1, hf⟩ := chk_some hf
  refine r_iald C0 C1 hI 1 (Nat.le_of_ble_eq_true rfl) (fun _ => rfl) h_1 dX10_isFrog_7 ?_
  refine lv_iconst (v := 1) C0.1 C0.2.1 dX10_isFrog_8 (by decide) ?_
  refine lv_isub C0.1 C0.2.1 dX10_isFrog_9 ?_
  obtain ⟨r_3, h_2, hf⟩ := ob_some hf
  refine k_i C1 hI (q_S C0 C1 hI (c_X10_isIn l g X b H.size n M x1 0 ((M 1 (ix 0)) - 1) h_2) w_1771 w_1772 w_132 w_1773 ⟨rfl, rfl⟩ hd_X10_isIn ⟨Nat.le_of_ble_eq_true rfl, Nat.le_of_ble_eq_true rfl⟩ rfl hl.1 rfl (Nat.le_of_ble_eq_true rfl) dX10_isFrog_10 ⟨Nat.le_of_ble_eq_true rfl, Nat.le_of_ble_eq_true rfl⟩) (fun H locs hI => ?_)
  obtain ⟨h_4, hf⟩ := chk_some hf
  exact ee_z C0 hI hr hlocks (isB_n h_4).1 hf dX10_isFrog_13

def F_X10_isPad (n : Nat) (x1 : Int32) (M : Mem) : Option Int32 :=
  chk (inb 1 407) (ob (F_X10_isIn n x1 0 ((M 1 (ix 1)) - 1) M) (fun r_3 => chk (isB r_3) (some r_3)))
theorem hd_X10_isPad : yX10_isPad.cls ≠ "java/lang/invoke/MethodHandle" ∧ yX10_isPad.cls ≠ "java/lang/invoke/VarHandle" ∧ (parseMethodDescriptor yX10_isPad.desc).map (fun d => d.parameters.length) = some 1 := ⟨by decide +kernel, by decide +kernel, by decide +kernel⟩
set_option maxHeartbeats 4000000 in
set_option maxRecDepth 100000 in
theorem c_X10_isPad (l : Launch) (g : GG) (X : va_W) (b : Nat → Nat) (sz n : Nat) (M : Mem) (x1 : Int32) {r0 : Int32} (hf : F_X10_isPad n x1 M = some r0) : Met l yX10_isPad (.code yX10_isPad cX10_isPad 2 (some .boolean) :: LWg) (rmD 1 0 0) (va_Pc [.ref (b 0), .int x1] (PreP g X 10 (shM g b) b sz M)) (Qi g X 10 (shM g b) b sz r0 M) 0 0 (AA X b 10 sz) := by
  refine met_go (by decide +kernel) rfl (Nat.le_of_ble_eq_true rfl) ?_
  intro p e s m below meth c ls H locs C0 C1 hr hlocks hnm hsz hl hI
  subst hsz
  have hl : lv_has ls 2 [(0, .ref (b 0)), (1, .int x1)] := hl
  unfold F_X10_isPad at hf
  refine lv_iload_n C0.1 C0.2.1 dX10_isPad_0 rfl (lv_at hl 1 rfl) ?_
  refine lv_iconst (v := 0) C0.1 C0.2.1 dX10_isPad_1 (by decide) ?_
  refine lv_aload_n C0.1 C0.2.1 dX10_isPad_2 rfl (lv_at hl 0 rfl) ?_
  refine r_get (C := RX10) (T := TX10) (N9 := 20) (ci := 11) C0 C1 hI iX10 rfl 0 5 (Nat.le_of_ble_eq_true rfl) (by decide) ((fun _ => rfl) _) rfl rfl w_1696 dX10_isPad_3 ?_
  refine lv_iconst (v := 1) C0.1 C0.2.1 dX10_isPad_6 (by decide) ?_
  obtain ⟨h_1, hf⟩ := chk_some hf
  refine r_iald C0 C1 hI 1 (Nat.le_of_ble_eq_true rfl) (fun _ => rfl) h_1 dX10_isPad_7 ?_
  refine lv_iconst (v := 1) C0.1 C0.2.1 dX10_isPad_8 (by decide) ?_
  refine lv_isub C0.1 C0.2.1 dX10_isPad_9 ?_
  obtain ⟨r_3, h_2, hf⟩ := ob_some hf
  refine k_i C1 hI (q_S C0 C1 hI (c_X10_isIn l g X b H.size n M x1 0 ((M 1 (ix 1)) - 1) h_2) w_1771 w_1772 w_132 w_1773 ⟨rfl, rfl⟩ hd_X10_isIn ⟨Nat.le_of_ble_eq_true rfl, Nat.le_of_ble_eq_true rfl⟩ rfl hl.1 rfl (Nat.le_of_ble_eq_true rfl) dX10_isPad_10 ⟨Nat.le_of_ble_eq_true rfl, Nat.le_of_ble_eq_true rfl⟩) (fun H locs hI => ?_)
  obtain ⟨h_4, hf⟩ := chk_some hf
  exact ee_z C0 hI hr hlocks (isB_n h_4).1 hf dX10_isPad_13

def F_X10_isMotion (n : Nat) (x1 : Int32) (M : Mem) : Option Int32 :=
  chk (inb 2 407) (ob (F_X10_isIn n x1 0 ((M 1 (ix 2)) - 1) M) (fun r_3 => chk (isB r_3) (some r_3)))
theorem hd_X10_isMotion : yX10_isMotion.cls ≠ "java/lang/invoke/MethodHandle" ∧ yX10_isMotion.cls ≠ "java/lang/invoke/VarHandle" ∧ (parseMethodDescriptor yX10_isMotion.desc).map (fun d => d.parameters.length) = some 1 := ⟨by decide +kernel, by decide +kernel, by decide +kernel⟩
set_option maxHeartbeats 4000000 in
set_option maxRecDepth 100000 in
theorem c_X10_isMotion (l : Launch) (g : GG) (X : va_W) (b : Nat → Nat) (sz n : Nat) (M : Mem) (x1 : Int32) {r0 : Int32} (hf : F_X10_isMotion n x1 M = some r0) : Met l yX10_isMotion (.code yX10_isMotion cX10_isMotion 2 (some .boolean) :: LWg) (rmD 1 0 0) (va_Pc [.ref (b 0), .int x1] (PreP g X 10 (shM g b) b sz M)) (Qi g X 10 (shM g b) b sz r0 M) 0 0 (AA X b 10 sz) := by
  refine met_go (by decide +kernel) rfl (Nat.le_of_ble_eq_true rfl) ?_
  intro p e s m below meth c ls H locs C0 C1 hr hlocks hnm hsz hl hI
  subst hsz
  have hl : lv_has ls 2 [(0, .ref (b 0)), (1, .int x1)] := hl
  unfold F_X10_isMotion at hf
  refine lv_iload_n C0.1 C0.2.1 dX10_isMotion_0 rfl (lv_at hl 1 rfl) ?_
  refine lv_iconst (v := 0) C0.1 C0.2.1 dX10_isMotion_1 (by decide) ?_
  refine lv_aload_n C0.1 C0.2.1 dX10_isMotion_2 rfl (lv_at hl 0 rfl) ?_
  refine r_get (C := RX10) (T := TX10) (N9 := 20) (ci := 11) C0 C1 hI iX10 rfl 0 5 (Nat.le_of_ble_eq_true rfl) (by decide) ((fun _ => rfl) _) rfl rfl w_1696 dX10_isMotion_3 ?_
  refine lv_iconst (v := 2) C0.1 C0.2.1 dX10_isMotion_6 (by decide) ?_
  obtain ⟨h_1, hf⟩ := chk_some hf
  refine r_iald C0 C1 hI 1 (Nat.le_of_ble_eq_true rfl) (fun _ => rfl) h_1 dX10_isMotion_7 ?_
  refine lv_iconst (v := 1) C0.1 C0.2.1 dX10_isMotion_8 (by decide) ?_
  refine lv_isub C0.1 C0.2.1 dX10_isMotion_9 ?_
  obtain ⟨r_3, h_2, hf⟩ := ob_some hf
  refine k_i C1 hI (q_S C0 C1 hI (c_X10_isIn l g X b H.size n M x1 0 ((M 1 (ix 2)) - 1) h_2) w_1771 w_1772 w_132 w_1773 ⟨rfl, rfl⟩ hd_X10_isIn ⟨Nat.le_of_ble_eq_true rfl, Nat.le_of_ble_eq_true rfl⟩ rfl hl.1 rfl (Nat.le_of_ble_eq_true rfl) dX10_isMotion_10 ⟨Nat.le_of_ble_eq_true rfl, Nat.le_of_ble_eq_true rfl⟩) (fun H locs hI => ?_)
  obtain ⟨h_4, hf⟩ := chk_some hf
  exact ee_z C0 hI hr hlocks (isB_n h_4).1 hf dX10_isMotion_13

def F_X10_areThere (n : Nat) (x1 : Int32) (x2 : Int32) (M : Mem) : Option Int32 :=
  ob (F_X10_isMotion n x1 M) (fun r_2 => (if r_2 = 0 then some 0 else ob (F_X10_isFrog n x2 M) (fun r_5 => (if r_5 = 0 then some 0 else some 1))))
theorem hd_X10_areThere : yX10_areThere.cls ≠ "java/lang/invoke/MethodHandle" ∧ yX10_areThere.cls ≠ "java/lang/invoke/VarHandle" ∧ (parseMethodDescriptor yX10_areThere.desc).map (fun d => d.parameters.length) = some 2 := ⟨by decide +kernel, by decide +kernel, by decide +kernel⟩
set_option maxHeartbeats 4000000 in
set_option maxRecDepth 100000 in
theorem c_X10_areThere (l : Launch) (g : GG) (X : va_W) (b : Nat → Nat) (sz n : Nat) (M : Mem) (x1 : Int32) (x2 : Int32) {r0 : Int32} (hf : F_X10_areThere n x1 x2 M = some r0) : Met l yX10_areThere (.code yX10_areThere cX10_areThere 3 (some .boolean) :: LWg) (rmD 2 0 0) (va_Pc [.ref (b 0), .int x1, .int x2] (PreP g X 10 (shM g b) b sz M)) (Qi g X 10 (shM g b) b sz r0 M) 0 0 (AA X b 10 sz) := by
  refine met_go (by decide +kernel) rfl (Nat.le_of_ble_eq_true rfl) ?_
  intro p e s m below meth c ls H locs C0 C1 hr hlocks hnm hsz hl hI
  subst hsz
  have hl : lv_has ls 3 [(0, .ref (b 0)), (1, .int x1), (2, .int x2)] := hl
  unfold F_X10_areThere at hf
  refine lv_aload_n C0.1 C0.2.1 dX10_areThere_0 rfl (lv_at hl 0 rfl) ?_
  refine lv_iload_n C0.1 C0.2.1 dX10_areThere_1 rfl (lv_at hl 1 rfl) ?_
  obtain ⟨r_2, h_1, hf⟩ := ob_some hf
  refine k_i C1 hI (q_V C0 C1 hI 0 (c_X10_isMotion l g X b H.size n M x1 h_1) w_1893 w_1895 w_86 w_132 w_1896 ⟨rfl, rfl⟩ hd_X10_isMotion ⟨Nat.le_of_ble_eq_true rfl, Nat.le_of_ble_eq_true rfl⟩ (Nat.le_of_ble_eq_true rfl) ((fun _ => rfl) _) rfl rfl rfl hl.1 rfl (Nat.le_of_ble_eq_true rfl) dX10_areThere_2 ⟨Nat.le_of_ble_eq_true rfl, Nat.le_of_ble_eq_true rfl⟩) (fun H locs hI => ?_)
  refine lv_if_eq (tgt := 20) C0.1 C0.2.1 dX10_areThere_5 (by decide) (fun c_3 => ?_) (fun c_3 => ?_)
  · have hf := (if_pos c_3).symm.trans hf
    refine lv_iconst (v := 0) C0.1 C0.2.1 dX10_areThere_20 (by decide) ?_
    exact ee_z C0 hI hr hlocks rfl hf dX10_areThere_21
  · have hf := (if_neg c_3).symm.trans hf
    refine lv_aload_n C0.1 C0.2.1 dX10_areThere_8 rfl (lv_at hl 0 rfl) ?_
    refine lv_iload_n C0.1 C0.2.1 dX10_areThere_9 rfl (lv_at hl 2 rfl) ?_
    obtain ⟨r_5, h_4, hf⟩ := ob_some hf
    refine k_i C1 hI (q_V C0 C1 hI 0 (c_X10_isFrog l g X b H.size n M x2 h_4) w_1798 w_1800 w_76 w_132 w_1801 ⟨rfl, rfl⟩ hd_X10_isFrog ⟨Nat.le_of_ble_eq_true rfl, Nat.le_of_ble_eq_true rfl⟩ (Nat.le_of_ble_eq_true rfl) ((fun _ => rfl) _) rfl rfl rfl hl.1 rfl (Nat.le_of_ble_eq_true rfl) dX10_areThere_10 ⟨Nat.le_of_ble_eq_true rfl, Nat.le_of_ble_eq_true rfl⟩) (fun H locs hI => ?_)
    refine lv_if_eq (tgt := 20) C0.1 C0.2.1 dX10_areThere_13 (by decide) (fun c_6 => ?_) (fun c_6 => ?_)
    · have hf := (if_pos c_6).symm.trans hf
      refine lv_iconst (v := 0) C0.1 C0.2.1 dX10_areThere_20 (by decide) ?_
      exact ee_z C0 hI hr hlocks rfl hf dX10_areThere_21
    · have hf := (if_neg c_6).symm.trans hf
      refine lv_iconst (v := 1) C0.1 C0.2.1 dX10_areThere_16 (by decide) ?_
      refine lv_goto (tgt := 21) C0.1 C0.2.1 dX10_areThere_17 (by decide) ?_
      exact ee_z C0 hI hr hlocks rfl hf dX10_areThere_21

def F_X10_of (n : Nat) (x0 : Int32) (x1 : Int32) (M : Mem) : Option Int32 :=
  some ((59 + (10 * x0)) + x1)
theorem hd_X10_of : yX10_of.cls ≠ "java/lang/invoke/MethodHandle" ∧ yX10_of.cls ≠ "java/lang/invoke/VarHandle" ∧ (parseMethodDescriptor yX10_of.desc).map (fun d => d.parameters.length) = some 2 := ⟨by decide +kernel, by decide +kernel, by decide +kernel⟩
set_option maxHeartbeats 4000000 in
set_option maxRecDepth 100000 in
theorem c_X10_of (l : Launch) (g : GG) (X : va_W) (b : Nat → Nat) (sz n : Nat) (M : Mem) (x0 : Int32) (x1 : Int32) {r0 : Int32} (hf : F_X10_of n x0 x1 M = some r0) : Met l yX10_of (.code yX10_of cX10_of 2 (some .int) :: LWg) (rmD 0 0 0) (va_Pc [.int x0, .int x1] (PreP g X 10 (shM g b) b sz M)) (Qi g X 10 (shM g b) b sz r0 M) 0 0 (AA X b 10 sz) := by
  refine met_go (by decide +kernel) rfl (Nat.le_of_ble_eq_true rfl) ?_
  intro p e s m below meth c ls H locs C0 C1 hr hlocks hnm hsz hl hI
  subst hsz
  have hl : lv_has ls 2 [(0, .int x0), (1, .int x1)] := hl
  unfold F_X10_of at hf
  refine lv_bipush (v := 59) C0.1 C0.2.1 dX10_of_0 (by decide) ?_
  refine lv_bipush (v := 10) C0.1 C0.2.1 dX10_of_2 (by decide) ?_
  refine lv_iload_n C0.1 C0.2.1 dX10_of_4 rfl (lv_at hl 0 rfl) ?_
  refine lv_imul C0.1 C0.2.1 dX10_of_5 ?_
  refine lv_iadd C0.1 C0.2.1 dX10_of_6 ?_
  refine lv_iload_n C0.1 C0.2.1 dX10_of_7 rfl (lv_at hl 1 rfl) ?_
  refine lv_iadd C0.1 C0.2.1 dX10_of_8 ?_
  exact ee_i C0 hI hr hlocks hf dX10_of_9

def F_X10_listed (n : Nat) (x0 : Int32) (x1 : Int32) (M : Mem) : Option Int32 :=
  some ((119 + (12 * x0)) + x1)
theorem hd_X10_listed : yX10_listed.cls ≠ "java/lang/invoke/MethodHandle" ∧ yX10_listed.cls ≠ "java/lang/invoke/VarHandle" ∧ (parseMethodDescriptor yX10_listed.desc).map (fun d => d.parameters.length) = some 2 := ⟨by decide +kernel, by decide +kernel, by decide +kernel⟩
set_option maxHeartbeats 4000000 in
set_option maxRecDepth 100000 in
theorem c_X10_listed (l : Launch) (g : GG) (X : va_W) (b : Nat → Nat) (sz n : Nat) (M : Mem) (x0 : Int32) (x1 : Int32) {r0 : Int32} (hf : F_X10_listed n x0 x1 M = some r0) : Met l yX10_listed (.code yX10_listed cX10_listed 2 (some .int) :: LWg) (rmD 0 0 0) (va_Pc [.int x0, .int x1] (PreP g X 10 (shM g b) b sz M)) (Qi g X 10 (shM g b) b sz r0 M) 0 0 (AA X b 10 sz) := by
  refine met_go (by decide +kernel) rfl (Nat.le_of_ble_eq_true rfl) ?_
  intro p e s m below meth c ls H locs C0 C1 hr hlocks hnm hsz hl hI
  subst hsz
  have hl : lv_has ls 2 [(0, .int x0), (1, .int x1)] := hl
  unfold F_X10_listed at hf
  refine lv_bipush (v := 119) C0.1 C0.2.1 dX10_listed_0 (by decide) ?_
  refine lv_bipush (v := 12) C0.1 C0.2.1 dX10_listed_2 (by decide) ?_
  refine lv_iload_n C0.1 C0.2.1 dX10_listed_4 rfl (lv_at hl 0 rfl) ?_
  refine lv_imul C0.1 C0.2.1 dX10_listed_5 ?_
  refine lv_iadd C0.1 C0.2.1 dX10_listed_6 ?_
  refine lv_iload_n C0.1 C0.2.1 dX10_listed_7 rfl (lv_at hl 1 rfl) ?_
  refine lv_iadd C0.1 C0.2.1 dX10_listed_8 ?_
  exact ee_i C0 hI hr hlocks hf dX10_listed_9

def F_X10_croaked (n : Nat) (x0 : Int32) (x1 : Int32) (M : Mem) : Option Int32 :=
  some ((191 + (36 * x0)) + (3 * x1))
theorem hd_X10_croaked : yX10_croaked.cls ≠ "java/lang/invoke/MethodHandle" ∧ yX10_croaked.cls ≠ "java/lang/invoke/VarHandle" ∧ (parseMethodDescriptor yX10_croaked.desc).map (fun d => d.parameters.length) = some 2 := ⟨by decide +kernel, by decide +kernel, by decide +kernel⟩
set_option maxHeartbeats 4000000 in
set_option maxRecDepth 100000 in
theorem c_X10_croaked (l : Launch) (g : GG) (X : va_W) (b : Nat → Nat) (sz n : Nat) (M : Mem) (x0 : Int32) (x1 : Int32) {r0 : Int32} (hf : F_X10_croaked n x0 x1 M = some r0) : Met l yX10_croaked (.code yX10_croaked cX10_croaked 2 (some .int) :: LWg) (rmD 0 0 0) (va_Pc [.int x0, .int x1] (PreP g X 10 (shM g b) b sz M)) (Qi g X 10 (shM g b) b sz r0 M) 0 0 (AA X b 10 sz) := by
  refine met_go (by decide +kernel) rfl (Nat.le_of_ble_eq_true rfl) ?_
  intro p e s m below meth c ls H locs C0 C1 hr hlocks hnm hsz hl hI
  subst hsz
  have hl : lv_has ls 2 [(0, .int x0), (1, .int x1)] := hl
  unfold F_X10_croaked at hf
  refine lv_sipush (v := 191) C0.1 C0.2.1 dX10_croaked_0 (by decide) ?_
  refine lv_bipush (v := 36) C0.1 C0.2.1 dX10_croaked_3 (by decide) ?_
  refine lv_iload_n C0.1 C0.2.1 dX10_croaked_5 rfl (lv_at hl 0 rfl) ?_
  refine lv_imul C0.1 C0.2.1 dX10_croaked_6 ?_
  refine lv_iadd C0.1 C0.2.1 dX10_croaked_7 ?_
  refine lv_iconst (v := 3) C0.1 C0.2.1 dX10_croaked_8 (by decide) ?_
  refine lv_iload_n C0.1 C0.2.1 dX10_croaked_9 rfl (lv_at hl 1 rfl) ?_
  refine lv_imul C0.1 C0.2.1 dX10_croaked_10 ?_
  refine lv_iadd C0.1 C0.2.1 dX10_croaked_11 ?_
  exact ee_i C0 hI hr hlocks hf dX10_croaked_12

def F_X10_isOn (n : Nat) (x1 : Int32) (M : Mem) : Option Int32 :=
  chk (inb (29 + x1) 407) ((if (M 1 (ix (29 + x1))) ≤ 0 then some 0 else some 1))
theorem hd_X10_isOn : yX10_isOn.cls ≠ "java/lang/invoke/MethodHandle" ∧ yX10_isOn.cls ≠ "java/lang/invoke/VarHandle" ∧ (parseMethodDescriptor yX10_isOn.desc).map (fun d => d.parameters.length) = some 1 := ⟨by decide +kernel, by decide +kernel, by decide +kernel⟩
set_option maxHeartbeats 4000000 in
set_option maxRecDepth 100000 in
theorem c_X10_isOn (l : Launch) (g : GG) (X : va_W) (b : Nat → Nat) (sz n : Nat) (M : Mem) (x1 : Int32) {r0 : Int32} (hf : F_X10_isOn n x1 M = some r0) : Met l yX10_isOn (.code yX10_isOn cX10_isOn 2 (some .boolean) :: LWg) (rmD 0 0 0) (va_Pc [.ref (b 0), .int x1] (PreP g X 10 (shM g b) b sz M)) (Qi g X 10 (shM g b) b sz r0 M) 0 0 (AA X b 10 sz) := by
  refine met_go (by decide +kernel) rfl (Nat.le_of_ble_eq_true rfl) ?_
  intro p e s m below meth c ls H locs C0 C1 hr hlocks hnm hsz hl hI
  subst hsz
  have hl : lv_has ls 2 [(0, .ref (b 0)), (1, .int x1)] := hl
  unfold F_X10_isOn at hf
  refine lv_aload_n C0.1 C0.2.1 dX10_isOn_0 rfl (lv_at hl 0 rfl) ?_
  refine r_get (C := RX10) (T := TX10) (N9 := 20) (ci := 11) C0 C1 hI iX10 rfl 0 5 (Nat.le_of_ble_eq_true rfl) (by decide) ((fun _ => rfl) _) rfl rfl w_1696 dX10_isOn_1 ?_
  refine lv_bipush (v := 29) C0.1 C0.2.1 dX10_isOn_4 (by decide) ?_
  refine lv_iload_n C0.1 C0.2.1 dX10_isOn_6 rfl (lv_at hl 1 rfl) ?_
  refine lv_iadd C0.1 C0.2.1 dX10_isOn_7 ?_
  obtain ⟨h_1, hf⟩ := chk_some hf
  refine r_iald C0 C1 hI 1 (Nat.le_of_ble_eq_true rfl) (fun _ => rfl) h_1 dX10_isOn_8 ?_
  refine lv_if_le (tgt := 16) C0.1 C0.2.1 dX10_isOn_9 (by decide) (fun c_2 => ?_) (fun c_2 => ?_)
  · have hf := (if_pos c_2).symm.trans hf
    refine lv_iconst (v := 0) C0.1 C0.2.1 dX10_isOn_16 (by decide) ?_
    exact ee_z C0 hI hr hlocks rfl hf dX10_isOn_17
  · have hf := (if_neg c_2).symm.trans hf
    refine lv_iconst (v := 1) C0.1 C0.2.1 dX10_isOn_12 (by decide) ?_
    refine lv_goto (tgt := 17) C0.1 C0.2.1 dX10_isOn_13 (by decide) ?_
    exact ee_z C0 hI hr hlocks rfl hf dX10_isOn_17

def F_X10_on_L4 (n : Nat) (M : Mem) : Nat → Int32 → Int32 → Int32 → Option Int32
  | 0, _, _, _ => none
  | k4 + 1, x1_4, x2_4, x3_4 =>
    chk (inb 0 407) ((if (M 1 (ix 0)) ≤ x3_4 then some x2_4 else chk (inb (29 + x3_4) 407) ((if (M 1 (ix (29 + x3_4))) = (x1_4 + 1) then lt' (x2_4 + 1) (fun x2_4_9 => lt' (x3_4 + 1) (fun x3_4_11 => F_X10_on_L4 n M k4 x1_4 x2_4_9 x3_4_11)) else lt' (x2_4 + 0) (fun x2_4_5 => lt' (x3_4 + 1) (fun x3_4_7 => F_X10_on_L4 n M k4 x1_4 x2_4_5 x3_4_7))))))
def F_X10_on (n : Nat) (x1 : Int32) (M : Mem) : Option Int32 :=
  F_X10_on_L4 n M n x1 0 0
theorem hd_X10_on : yX10_on.cls ≠ "java/lang/invoke/MethodHandle" ∧ yX10_on.cls ≠ "java/lang/invoke/VarHandle" ∧ (parseMethodDescriptor yX10_on.desc).map (fun d => d.parameters.length) = some 1 := ⟨by decide +kernel, by decide +kernel, by decide +kernel⟩
set_option maxHeartbeats 4000000 in
set_option maxRecDepth 100000 in
theorem c_X10_on (l : Launch) (g : GG) (X : va_W) (b : Nat → Nat) (sz n : Nat) (M : Mem) (x1 : Int32) {r0 : Int32} (hf : F_X10_on n x1 M = some r0) : Met l yX10_on (.code yX10_on cX10_on 4 (some .int) :: LWg) (rmD 0 0 0) (va_Pc [.ref (b 0), .int x1] (PreP g X 10 (shM g b) b sz M)) (Qi g X 10 (shM g b) b sz r0 M) 0 0 (AA X b 10 sz) := by
  refine met_go (by decide +kernel) rfl (Nat.le_of_ble_eq_true rfl) ?_
  intro p e s m below meth c ls H locs C0 C1 hr hlocks hnm hsz hl hI
  subst hsz
  have hl : lv_has ls 4 [(0, .ref (b 0)), (1, .int x1)] := hl
  unfold F_X10_on at hf
  refine lv_iconst (v := 0) C0.1 C0.2.1 dX10_on_0 (by decide) ?_
  refine lv_istore_n (lv' := [(2, .int 0), (0, .ref (b 0)), (1, .int x1)]) C0.1 C0.2.1 dX10_on_1 rfl hl (by decide) rfl (fun ls hl => ?_)
  refine lv_iconst (v := 0) C0.1 C0.2.1 dX10_on_2 (by decide) ?_
  refine lv_istore_n (lv' := [(3, .int 0), (2, .int 0), (0, .ref (b 0)), (1, .int x1)]) C0.1 C0.2.1 dX10_on_3 rfl hl (by decide) rfl (fun ls hl => ?_)
  have L4 : ∀ (k4 : Nat) (x1_4 : Int32) (x2_4 : Int32) (x3_4 : Int32), F_X10_on_L4 n M k4 x1_4 x2_4 x3_4 = some r0 → ∀ (H : Heap) (locs : List Loc) (ls : Array Slot), PI g X 10 (shM g b) b s M H locs → lv_has ls 4 [(0, .ref (b 0)), (1, .int x1_4), (2, .int x2_4), (3, .int x3_4)] → W p l e (rmD 0 0 0) s m ([.ref (b 0), .int x1] : List Value).toArray below meth c H locs 0 0 (MQ below (Qi g X 10 (shM g b) b s.heap.size r0 M) ([.ref (b 0), .int x1] : List Value).toArray s 0 0 (AA X b 10 s.heap.size)) (F0 m 4 ls []) := by
    intro k4
    induction k4 with
    | zero => intro x1_4 x2_4 x3_4 hf; exact absurd (show (none : Option Int32) = some r0 from hf) (fun h => by cases h)
    | succ k4 ih4 =>
      intro x1_4 x2_4 x3_4 hf H locs ls hI hl
      unfold F_X10_on_L4 at hf
      refine lv_iload_n C0.1 C0.2.1 dX10_on_4 rfl (lv_at hl 3 rfl) ?_
      refine lv_aload_n C0.1 C0.2.1 dX10_on_5 rfl (lv_at hl 0 rfl) ?_
      refine r_get (C := RX10) (T := TX10) (N9 := 20) (ci := 11) C0 C1 hI iX10 rfl 0 5 (Nat.le_of_ble_eq_true rfl) (by decide) ((fun _ => rfl) _) rfl rfl w_1696 dX10_on_6 ?_
      refine lv_iconst (v := 0) C0.1 C0.2.1 dX10_on_9 (by decide) ?_
      obtain ⟨h_4_1, hf⟩ := chk_some hf
      refine r_iald C0 C1 hI 1 (Nat.le_of_ble_eq_true rfl) (fun _ => rfl) h_4_1 dX10_on_10 ?_
      refine lv_icmp_ge (tgt := 43) C0.1 C0.2.1 dX10_on_11 (by decide) (fun c_4_2 => ?_) (fun c_4_2 => ?_)
      · have hf := (if_pos c_4_2).symm.trans hf
        refine lv_iload_n C0.1 C0.2.1 dX10_on_43 rfl (lv_at hl 2 rfl) ?_
        exact ee_i C0 hI hr hlocks hf dX10_on_44
      · have hf := (if_neg c_4_2).symm.trans hf
        refine lv_iload_n C0.1 C0.2.1 dX10_on_14 rfl (lv_at hl 2 rfl) ?_
        refine lv_aload_n C0.1 C0.2.1 dX10_on_15 rfl (lv_at hl 0 rfl) ?_
        refine r_get (C := RX10) (T := TX10) (N9 := 20) (ci := 11) C0 C1 hI iX10 rfl 0 5 (Nat.le_of_ble_eq_true rfl) (by decide) ((fun _ => rfl) _) rfl rfl w_1696 dX10_on_16 ?_
        refine lv_bipush (v := 29) C0.1 C0.2.1 dX10_on_19 (by decide) ?_
        refine lv_iload_n C0.1 C0.2.1 dX10_on_21 rfl (lv_at hl 3 rfl) ?_
        refine lv_iadd C0.1 C0.2.1 dX10_on_22 ?_
        obtain ⟨h_4_3, hf⟩ := chk_some hf
        refine r_iald C0 C1 hI 1 (Nat.le_of_ble_eq_true rfl) (fun _ => rfl) h_4_3 dX10_on_23 ?_
        refine lv_iload_n C0.1 C0.2.1 dX10_on_24 rfl (lv_at hl 1 rfl) ?_
        refine lv_iconst (v := 1) C0.1 C0.2.1 dX10_on_25 (by decide) ?_
        refine lv_iadd C0.1 C0.2.1 dX10_on_26 ?_
        refine lv_icmp_ne (tgt := 34) C0.1 C0.2.1 dX10_on_27 (by decide) (fun c_4_4 => ?_) (fun c_4_4 => ?_)
        · have hf := (if_neg c_4_4).symm.trans hf
          refine lv_iconst (v := 0) C0.1 C0.2.1 dX10_on_34 (by decide) ?_
          refine lv_iadd C0.1 C0.2.1 dX10_on_35 ?_
          refine lv_topi (fun x2_4_5 e_4_6 => ?_)
          have hf := lt_at e_4_6 hf
          refine lv_istore_n (lv' := [(2, .int x2_4_5), (0, .ref (b 0)), (1, .int x1_4), (3, .int x3_4)]) C0.1 C0.2.1 dX10_on_36 rfl hl (by decide) rfl (fun ls hl => ?_)
          obtain ⟨x3_4_7, e_4_8⟩ : ∃ z : Int32, z = x3_4 + 1 := ⟨_, rfl⟩
          have hf := lt_at e_4_8 hf
          refine lv_iinc (v := x3_4_7) (lv' := [(3, .int x3_4_7), (2, .int x2_4_5), (0, .ref (b 0)), (1, .int x1_4)]) C0.1 C0.2.1 dX10_on_37 hl (k := 3) rfl (by rw [e_4_8]; rfl) (by decide) rfl (fun ls hl => ?_)
          refine lv_goto (tgt := 4) C0.1 C0.2.1 dX10_on_40 (by decide) ?_
          exact ih4 x1_4 x2_4_5 x3_4_7 hf H locs ls hI (lv_sub hl [2, 3, 1, 0] rfl)
        · have hf := (if_pos c_4_4).symm.trans hf
          refine lv_iconst (v := 1) C0.1 C0.2.1 dX10_on_30 (by decide) ?_
          refine lv_goto (tgt := 35) C0.1 C0.2.1 dX10_on_31 (by decide) ?_
          refine lv_iadd C0.1 C0.2.1 dX10_on_35 ?_
          refine lv_topi (fun x2_4_9 e_4_10 => ?_)
          have hf := lt_at e_4_10 hf
          refine lv_istore_n (lv' := [(2, .int x2_4_9), (0, .ref (b 0)), (1, .int x1_4), (3, .int x3_4)]) C0.1 C0.2.1 dX10_on_36 rfl hl (by decide) rfl (fun ls hl => ?_)
          obtain ⟨x3_4_11, e_4_12⟩ : ∃ z : Int32, z = x3_4 + 1 := ⟨_, rfl⟩
          have hf := lt_at e_4_12 hf
          refine lv_iinc (v := x3_4_11) (lv' := [(3, .int x3_4_11), (2, .int x2_4_9), (0, .ref (b 0)), (1, .int x1_4)]) C0.1 C0.2.1 dX10_on_37 hl (k := 3) rfl (by rw [e_4_12]; rfl) (by decide) rfl (fun ls hl => ?_)
          refine lv_goto (tgt := 4) C0.1 C0.2.1 dX10_on_40 (by decide) ?_
          exact ih4 x1_4 x2_4_9 x3_4_11 hf H locs ls hI (lv_sub hl [2, 3, 1, 0] rfl)
  exact L4 n x1 0 0 hf H locs ls hI (lv_sub hl [2, 3, 1, 0] rfl)

def F_X10_isFor (n : Nat) (x1 : Int32) (x2 : Int32) (M : Mem) : Option Int32 :=
  ob (F_X10_of n x1 0 M) (fun r_2 => chk (inb r_2 407) (chk (inb (5 + x2) 407) ((if (((M 1 (ix r_2)) >>> ((M 1 (ix (5 + x2))) &&& 31)) &&& 1) = 1 then some 1 else some 0))))
theorem hd_X10_isFor : yX10_isFor.cls ≠ "java/lang/invoke/MethodHandle" ∧ yX10_isFor.cls ≠ "java/lang/invoke/VarHandle" ∧ (parseMethodDescriptor yX10_isFor.desc).map (fun d => d.parameters.length) = some 2 := ⟨by decide +kernel, by decide +kernel, by decide +kernel⟩
set_option maxHeartbeats 4000000 in
set_option maxRecDepth 100000 in
theorem c_X10_isFor (l : Launch) (g : GG) (X : va_W) (b : Nat → Nat) (sz n : Nat) (M : Mem) (x1 : Int32) (x2 : Int32) {r0 : Int32} (hf : F_X10_isFor n x1 x2 M = some r0) : Met l yX10_isFor (.code yX10_isFor cX10_isFor 3 (some .boolean) :: LWg) (rmD 1 0 0) (va_Pc [.ref (b 0), .int x1, .int x2] (PreP g X 10 (shM g b) b sz M)) (Qi g X 10 (shM g b) b sz r0 M) 0 0 (AA X b 10 sz) := by
  refine met_go (by decide +kernel) rfl (Nat.le_of_ble_eq_true rfl) ?_
  intro p e s m below meth c ls H locs C0 C1 hr hlocks hnm hsz hl hI
  subst hsz
  have hl : lv_has ls 3 [(0, .ref (b 0)), (1, .int x1), (2, .int x2)] := hl
  unfold F_X10_isFor at hf
  refine lv_aload_n C0.1 C0.2.1 dX10_isFor_0 rfl (lv_at hl 0 rfl) ?_
  refine r_get (C := RX10) (T := TX10) (N9 := 20) (ci := 11) C0 C1 hI iX10 rfl 0 5 (Nat.le_of_ble_eq_true rfl) (by decide) ((fun _ => rfl) _) rfl rfl w_1696 dX10_isFor_1 ?_
  refine lv_iload_n C0.1 C0.2.1 dX10_isFor_4 rfl (lv_at hl 1 rfl) ?_
  refine lv_iconst (v := 0) C0.1 C0.2.1 dX10_isFor_5 (by decide) ?_
  obtain ⟨r_2, h_1, hf⟩ := ob_some hf
  refine k_i C1 hI (q_S C0 C1 hI (c_X10_of l g X b H.size n M x1 0 h_1) w_1878 w_1879 w_132 w_1880 ⟨rfl, rfl⟩ hd_X10_of ⟨Nat.le_of_ble_eq_true rfl, Nat.le_of_ble_eq_true rfl⟩ rfl hl.1 rfl (Nat.le_of_ble_eq_true rfl) dX10_isFor_6 ⟨Nat.le_of_ble_eq_true rfl, Nat.le_of_ble_eq_true rfl⟩) (fun H locs hI => ?_)
  obtain ⟨h_3, hf⟩ := chk_some hf
  refine r_iald C0 C1 hI 1 (Nat.le_of_ble_eq_true rfl) (fun _ => rfl) h_3 dX10_isFor_9 ?_
  refine lv_aload_n C0.1 C0.2.1 dX10_isFor_10 rfl (lv_at hl 0 rfl) ?_
  refine r_get (C := RX10) (T := TX10) (N9 := 20) (ci := 11) C0 C1 hI iX10 rfl 0 5 (Nat.le_of_ble_eq_true rfl) (by decide) ((fun _ => rfl) _) rfl rfl w_1696 dX10_isFor_11 ?_
  refine lv_iconst (v := 5) C0.1 C0.2.1 dX10_isFor_14 (by decide) ?_
  refine lv_iload_n C0.1 C0.2.1 dX10_isFor_15 rfl (lv_at hl 2 rfl) ?_
  refine lv_iadd C0.1 C0.2.1 dX10_isFor_16 ?_
  obtain ⟨h_4, hf⟩ := chk_some hf
  refine r_iald C0 C1 hI 1 (Nat.le_of_ble_eq_true rfl) (fun _ => rfl) h_4 dX10_isFor_17 ?_
  refine lv_ishr C0.1 C0.2.1 dX10_isFor_18 ?_
  refine lv_iconst (v := 1) C0.1 C0.2.1 dX10_isFor_19 (by decide) ?_
  refine lv_iand C0.1 C0.2.1 dX10_isFor_20 ?_
  refine lv_iconst (v := 1) C0.1 C0.2.1 dX10_isFor_21 (by decide) ?_
  refine lv_icmp_ne (tgt := 29) C0.1 C0.2.1 dX10_isFor_22 (by decide) (fun c_5 => ?_) (fun c_5 => ?_)
  · have hf := (if_neg c_5).symm.trans hf
    refine lv_iconst (v := 0) C0.1 C0.2.1 dX10_isFor_29 (by decide) ?_
    exact ee_z C0 hI hr hlocks rfl hf dX10_isFor_30
  · have hf := (if_pos c_5).symm.trans hf
    refine lv_iconst (v := 1) C0.1 C0.2.1 dX10_isFor_25 (by decide) ?_
    refine lv_goto (tgt := 30) C0.1 C0.2.1 dX10_isFor_26 (by decide) ?_
    exact ee_z C0 hI hr hlocks rfl hf dX10_isFor_30

def F_X10_place_L2 (n : Nat) (M : Mem) : Nat → Int32 → Int32 → Int32 → Option Int32
  | 0, _, _, _ => none
  | k2 + 1, x1_2, x2_2, x3_2 =>
    ob (F_X10_of n x1_2 5 M) (fun r_2_2 => chk (inb r_2_2 407) ((if (M 1 (ix r_2_2)) ≤ x3_2 then some (-1) else ob (F_X10_listed n x1_2 x3_2 M) (fun r_2_6 => chk (inb r_2_6 407) ((if (M 1 (ix r_2_6)) = x2_2 then some x3_2 else lt' (x3_2 + 1) (fun x3_2_9 => F_X10_place_L2 n M k2 x1_2 x2_2 x3_2_9)))))))
def F_X10_place (n : Nat) (x1 : Int32) (x2 : Int32) (M : Mem) : Option Int32 :=
  F_X10_place_L2 n M n x1 x2 0
theorem hd_X10_place : yX10_place.cls ≠ "java/lang/invoke/MethodHandle" ∧ yX10_place.cls ≠ "java/lang/invoke/VarHandle" ∧ (parseMethodDescriptor yX10_place.desc).map (fun d => d.parameters.length) = some 2 := ⟨by decide +kernel, by decide +kernel, by decide +kernel⟩
set_option maxHeartbeats 4000000 in
set_option maxRecDepth 100000 in
theorem c_X10_place (l : Launch) (g : GG) (X : va_W) (b : Nat → Nat) (sz n : Nat) (M : Mem) (x1 : Int32) (x2 : Int32) {r0 : Int32} (hf : F_X10_place n x1 x2 M = some r0) : Met l yX10_place (.code yX10_place cX10_place 4 (some .int) :: LWg) (rmD 1 0 0) (va_Pc [.ref (b 0), .int x1, .int x2] (PreP g X 10 (shM g b) b sz M)) (Qi g X 10 (shM g b) b sz r0 M) 0 0 (AA X b 10 sz) := by
  refine met_go (by decide +kernel) rfl (Nat.le_of_ble_eq_true rfl) ?_
  intro p e s m below meth c ls H locs C0 C1 hr hlocks hnm hsz hl hI
  subst hsz
  have hl : lv_has ls 4 [(0, .ref (b 0)), (1, .int x1), (2, .int x2)] := hl
  unfold F_X10_place at hf
  refine lv_iconst (v := 0) C0.1 C0.2.1 dX10_place_0 (by decide) ?_
  refine lv_istore_n (lv' := [(3, .int 0), (0, .ref (b 0)), (1, .int x1), (2, .int x2)]) C0.1 C0.2.1 dX10_place_1 rfl hl (by decide) rfl (fun ls hl => ?_)
  have L2 : ∀ (k2 : Nat) (x1_2 : Int32) (x2_2 : Int32) (x3_2 : Int32), F_X10_place_L2 n M k2 x1_2 x2_2 x3_2 = some r0 → ∀ (H : Heap) (locs : List Loc) (ls : Array Slot), PI g X 10 (shM g b) b s M H locs → lv_has ls 4 [(0, .ref (b 0)), (1, .int x1_2), (2, .int x2_2), (3, .int x3_2)] → W p l e (rmD 1 0 0) s m ([.ref (b 0), .int x1, .int x2] : List Value).toArray below meth c H locs 0 0 (MQ below (Qi g X 10 (shM g b) b s.heap.size r0 M) ([.ref (b 0), .int x1, .int x2] : List Value).toArray s 0 0 (AA X b 10 s.heap.size)) (F0 m 2 ls []) := by
    intro k2
    induction k2 with
    | zero => intro x1_2 x2_2 x3_2 hf; exact absurd (show (none : Option Int32) = some r0 from hf) (fun h => by cases h)
    | succ k2 ih2 =>
      intro x1_2 x2_2 x3_2 hf H locs ls hI hl
      unfold F_X10_place_L2 at hf
      refine lv_iload_n C0.1 C0.2.1 dX10_place_2 rfl (lv_at hl 3 rfl) ?_
      refine lv_aload_n C0.1 C0.2.1 dX10_place_3 rfl (lv_at hl 0 rfl) ?_
      refine r_get (C := RX10) (T := TX10) (N9 := 20) (ci := 11) C0 C1 hI iX10 rfl 0 5 (Nat.le_of_ble_eq_true rfl) (by decide) ((fun _ => rfl) _) rfl rfl w_1696 dX10_place_4 ?_
      refine lv_iload_n C0.1 C0.2.1 dX10_place_7 rfl (lv_at hl 1 rfl) ?_
      refine lv_iconst (v := 5) C0.1 C0.2.1 dX10_place_8 (by decide) ?_
      obtain ⟨r_2_2, h_2_1, hf⟩ := ob_some hf
      refine k_i C1 hI (q_S C0 C1 hI (c_X10_of l g X b H.size n M x1_2 5 h_2_1) w_1878 w_1879 w_132 w_1880 ⟨rfl, rfl⟩ hd_X10_of ⟨Nat.le_of_ble_eq_true rfl, Nat.le_of_ble_eq_true rfl⟩ rfl hl.1 rfl (Nat.le_of_ble_eq_true rfl) dX10_place_9 ⟨Nat.le_of_ble_eq_true rfl, Nat.le_of_ble_eq_true rfl⟩) (fun H locs hI => ?_)
      obtain ⟨h_2_3, hf⟩ := chk_some hf
      refine r_iald C0 C1 hI 1 (Nat.le_of_ble_eq_true rfl) (fun _ => rfl) h_2_3 dX10_place_12 ?_
      refine lv_icmp_ge (tgt := 38) C0.1 C0.2.1 dX10_place_13 (by decide) (fun c_2_4 => ?_) (fun c_2_4 => ?_)
      · have hf := (if_pos c_2_4).symm.trans hf
        refine lv_iconst (v := (-1)) C0.1 C0.2.1 dX10_place_38 (by decide) ?_
        exact ee_i C0 hI hr hlocks hf dX10_place_39
      · have hf := (if_neg c_2_4).symm.trans hf
        refine lv_aload_n C0.1 C0.2.1 dX10_place_16 rfl (lv_at hl 0 rfl) ?_
        refine r_get (C := RX10) (T := TX10) (N9 := 20) (ci := 11) C0 C1 hI iX10 rfl 0 5 (Nat.le_of_ble_eq_true rfl) (by decide) ((fun _ => rfl) _) rfl rfl w_1696 dX10_place_17 ?_
        refine lv_iload_n C0.1 C0.2.1 dX10_place_20 rfl (lv_at hl 1 rfl) ?_
        refine lv_iload_n C0.1 C0.2.1 dX10_place_21 rfl (lv_at hl 3 rfl) ?_
        obtain ⟨r_2_6, h_2_5, hf⟩ := ob_some hf
        refine k_i C1 hI (q_S C0 C1 hI (c_X10_listed l g X b H.size n M x1_2 x3_2 h_2_5) w_1917 w_1918 w_132 w_1919 ⟨rfl, rfl⟩ hd_X10_listed ⟨Nat.le_of_ble_eq_true rfl, Nat.le_of_ble_eq_true rfl⟩ rfl hl.1 rfl (Nat.le_of_ble_eq_true rfl) dX10_place_22 ⟨Nat.le_of_ble_eq_true rfl, Nat.le_of_ble_eq_true rfl⟩) (fun H locs hI => ?_)
        obtain ⟨h_2_7, hf⟩ := chk_some hf
        refine r_iald C0 C1 hI 1 (Nat.le_of_ble_eq_true rfl) (fun _ => rfl) h_2_7 dX10_place_25 ?_
        refine lv_iload_n C0.1 C0.2.1 dX10_place_26 rfl (lv_at hl 2 rfl) ?_
        refine lv_icmp_ne (tgt := 32) C0.1 C0.2.1 dX10_place_27 (by decide) (fun c_2_8 => ?_) (fun c_2_8 => ?_)
        · have hf := (if_neg c_2_8).symm.trans hf
          obtain ⟨x3_2_9, e_2_10⟩ : ∃ z : Int32, z = x3_2 + 1 := ⟨_, rfl⟩
          have hf := lt_at e_2_10 hf
          refine lv_iinc (v := x3_2_9) (lv' := [(3, .int x3_2_9), (0, .ref (b 0)), (1, .int x1_2), (2, .int x2_2)]) C0.1 C0.2.1 dX10_place_32 hl (k := 3) rfl (by rw [e_2_10]; rfl) (by decide) rfl (fun ls hl => ?_)
          refine lv_goto (tgt := 2) C0.1 C0.2.1 dX10_place_35 (by decide) ?_
          exact ih2 x1_2 x2_2 x3_2_9 hf H locs ls hI (lv_sub hl [1, 2, 3, 0] rfl)
        · have hf := (if_pos c_2_8).symm.trans hf
          refine lv_iload_n C0.1 C0.2.1 dX10_place_30 rfl (lv_at hl 3 rfl) ?_
          exact ee_i C0 hI hr hlocks hf dX10_place_31
  exact L2 n x1 x2 0 hf H locs ls hI (lv_sub hl [1, 2, 3, 0] rfl)

def F_X10_adds (n : Nat) (x1 : Int32) (x2 : Int32) (M : Mem) : Option (Int32 × Mem) :=
  ob (F_X10_isIn n x1 0 3 M) (fun r_2 => (if r_2 = 0 then ob2 (F_X10_fail n 1 M) (fun r_34 M_35 => some (r_34, M_35)) else ob (F_X10_isIn n x2 1 9 M) (fun r_5 => (if r_5 = 0 then ob2 (F_X10_fail n 2 M) (fun r_31 M_32 => some (r_31, M_32)) else chk (inb 0 407) (lt' (M 1 (ix 0)) (fun x3_8 => (if x3_8 = 12 then ob2 (F_X10_fail n 3 M) (fun r_28 M_29 => some (r_28, M_29)) else chk (inb (5 + x3_8) 407) (lt' (up2 M 1 (ix (5 + x3_8)) x1) (fun M_14 => chk (inb (17 + x3_8) 407) (lt' (up2 M_14 1 (ix (17 + x3_8)) x2) (fun M_19 => chk (inb 0 407) (chk (inb 0 407) (lt' (up2 M_19 1 (ix 0) ((M_19 1 (ix 0)) + 1)) (fun M_25 => some (x3_8, M_25)))))))))))))))
theorem hd_X10_adds : yX10_adds.cls ≠ "java/lang/invoke/MethodHandle" ∧ yX10_adds.cls ≠ "java/lang/invoke/VarHandle" ∧ (parseMethodDescriptor yX10_adds.desc).map (fun d => d.parameters.length) = some 2 := ⟨by decide +kernel, by decide +kernel, by decide +kernel⟩
set_option maxHeartbeats 4000000 in
set_option maxRecDepth 100000 in
theorem c_X10_adds (l : Launch) (g : GG) (X : va_W) (b : Nat → Nat) (sz n : Nat) (M : Mem) (x1 : Int32) (x2 : Int32) {r0 : Int32} {M' : Mem} (hf : F_X10_adds n x1 x2 M = some (r0, M')) : Met l yX10_adds (.code yX10_adds cX10_adds 4 (some .int) :: LWg) (rmD 1 0 0) (va_Pc [.ref (b 0), .int x1, .int x2] (PreP g X 10 (shM g b) b sz M)) (Qi g X 10 (shM g b) b sz r0 M') 0 0 (AA X b 10 sz) := by
  refine met_go (by decide +kernel) rfl (Nat.le_of_ble_eq_true rfl) ?_
  intro p e s m below meth c ls H locs C0 C1 hr hlocks hnm hsz hl hI
  subst hsz
  have hl : lv_has ls 4 [(0, .ref (b 0)), (1, .int x1), (2, .int x2)] := hl
  unfold F_X10_adds at hf
  refine lv_iload_n C0.1 C0.2.1 dX10_adds_0 rfl (lv_at hl 1 rfl) ?_
  refine lv_iconst (v := 0) C0.1 C0.2.1 dX10_adds_1 (by decide) ?_
  refine lv_iconst (v := 3) C0.1 C0.2.1 dX10_adds_2 (by decide) ?_
  obtain ⟨r_2, h_1, hf⟩ := ob_some hf
  refine k_i C1 hI (q_S C0 C1 hI (c_X10_isIn l g X b H.size n M x1 0 3 h_1) w_1771 w_1772 w_132 w_1773 ⟨rfl, rfl⟩ hd_X10_isIn ⟨Nat.le_of_ble_eq_true rfl, Nat.le_of_ble_eq_true rfl⟩ rfl hl.1 rfl (Nat.le_of_ble_eq_true rfl) dX10_adds_3 ⟨Nat.le_of_ble_eq_true rfl, Nat.le_of_ble_eq_true rfl⟩) (fun H locs hI => ?_)
  refine lv_if_ne (tgt := 15) C0.1 C0.2.1 dX10_adds_6 (by decide) (fun c_3 => ?_) (fun c_3 => ?_)
  · have hf := (if_neg c_3).symm.trans hf
    refine lv_iload_n C0.1 C0.2.1 dX10_adds_15 rfl (lv_at hl 2 rfl) ?_
    refine lv_iconst (v := 1) C0.1 C0.2.1 dX10_adds_16 (by decide) ?_
    refine lv_bipush (v := 9) C0.1 C0.2.1 dX10_adds_17 (by decide) ?_
    obtain ⟨r_5, h_4, hf⟩ := ob_some hf
    refine k_i C1 hI (q_S C0 C1 hI (c_X10_isIn l g X b H.size n M x2 1 9 h_4) w_1771 w_1772 w_132 w_1773 ⟨rfl, rfl⟩ hd_X10_isIn ⟨Nat.le_of_ble_eq_true rfl, Nat.le_of_ble_eq_true rfl⟩ rfl hl.1 rfl (Nat.le_of_ble_eq_true rfl) dX10_adds_19 ⟨Nat.le_of_ble_eq_true rfl, Nat.le_of_ble_eq_true rfl⟩) (fun H locs hI => ?_)
    refine lv_if_ne (tgt := 31) C0.1 C0.2.1 dX10_adds_22 (by decide) (fun c_6 => ?_) (fun c_6 => ?_)
    · have hf := (if_neg c_6).symm.trans hf
      refine lv_aload_n C0.1 C0.2.1 dX10_adds_31 rfl (lv_at hl 0 rfl) ?_
      refine r_get (C := RX10) (T := TX10) (N9 := 20) (ci := 11) C0 C1 hI iX10 rfl 0 5 (Nat.le_of_ble_eq_true rfl) (by decide) ((fun _ => rfl) _) rfl rfl w_1696 dX10_adds_32 ?_
      refine lv_iconst (v := 0) C0.1 C0.2.1 dX10_adds_35 (by decide) ?_
      obtain ⟨h_7, hf⟩ := chk_some hf
      refine r_iald C0 C1 hI 1 (Nat.le_of_ble_eq_true rfl) (fun _ => rfl) h_7 dX10_adds_36 ?_
      refine lv_topi (fun x3_8 e_9 => ?_)
      have hf := lt_at e_9 hf
      refine lv_istore_n (lv' := [(3, .int x3_8), (0, .ref (b 0)), (1, .int x1), (2, .int x2)]) C0.1 C0.2.1 dX10_adds_37 rfl hl (by decide) rfl (fun ls hl => ?_)
      refine lv_iload_n C0.1 C0.2.1 dX10_adds_38 rfl (lv_at hl 0 rfl) ?_
      refine lv_bipush (v := 12) C0.1 C0.2.1 dX10_adds_39 (by decide) ?_
      refine lv_icmp_ne (tgt := 50) C0.1 C0.2.1 dX10_adds_41 (by decide) (fun c_10 => ?_) (fun c_10 => ?_)
      · have hf := (if_neg c_10).symm.trans hf
        refine lv_aload_n C0.1 C0.2.1 dX10_adds_50 rfl (lv_at hl 1 rfl) ?_
        refine r_get (C := RX10) (T := TX10) (N9 := 20) (ci := 11) C0 C1 hI iX10 rfl 0 5 (Nat.le_of_ble_eq_true rfl) (by decide) ((fun _ => rfl) _) rfl rfl w_1696 dX10_adds_51 ?_
        refine lv_iconst (v := 5) C0.1 C0.2.1 dX10_adds_54 (by decide) ?_
        refine lv_iload_n C0.1 C0.2.1 dX10_adds_55 rfl (lv_at hl 0 rfl) ?_
        refine lv_iadd C0.1 C0.2.1 dX10_adds_56 ?_
        refine lv_iload_n C0.1 C0.2.1 dX10_adds_57 rfl (lv_at hl 2 rfl) ?_
        obtain ⟨h_11, hf⟩ := chk_some hf
        refine r_iast C0 C1 hI 1 (Nat.le_of_ble_eq_true rfl) (fun _ => rfl) h_11 dX10_adds_58 (fun H locs hI => ?_)
        obtain ⟨M_14, e_15⟩ : ∃ z : Mem, z = up2 M 1 (ix (5 + x3_8)) x1 := ⟨_, rfl⟩
        rw [← e_15] at hI
        have hf := lt_at e_15 hf
        refine lv_aload_n C0.1 C0.2.1 dX10_adds_59 rfl (lv_at hl 1 rfl) ?_
        refine r_get (C := RX10) (T := TX10) (N9 := 20) (ci := 11) C0 C1 hI iX10 rfl 0 5 (Nat.le_of_ble_eq_true rfl) (by decide) ((fun _ => rfl) _) rfl rfl w_1696 dX10_adds_60 ?_
        refine lv_bipush (v := 17) C0.1 C0.2.1 dX10_adds_63 (by decide) ?_
        refine lv_iload_n C0.1 C0.2.1 dX10_adds_65 rfl (lv_at hl 0 rfl) ?_
        refine lv_iadd C0.1 C0.2.1 dX10_adds_66 ?_
        refine lv_iload_n C0.1 C0.2.1 dX10_adds_67 rfl (lv_at hl 3 rfl) ?_
        obtain ⟨h_16, hf⟩ := chk_some hf
        refine r_iast C0 C1 hI 1 (Nat.le_of_ble_eq_true rfl) (fun _ => rfl) h_16 dX10_adds_68 (fun H locs hI => ?_)
        obtain ⟨M_19, e_20⟩ : ∃ z : Mem, z = up2 M_14 1 (ix (17 + x3_8)) x2 := ⟨_, rfl⟩
        rw [← e_20] at hI
        have hf := lt_at e_20 hf
        refine lv_aload_n C0.1 C0.2.1 dX10_adds_69 rfl (lv_at hl 1 rfl) ?_
        refine r_get (C := RX10) (T := TX10) (N9 := 20) (ci := 11) C0 C1 hI iX10 rfl 0 5 (Nat.le_of_ble_eq_true rfl) (by decide) ((fun _ => rfl) _) rfl rfl w_1696 dX10_adds_70 ?_
        refine lv_iconst (v := 0) C0.1 C0.2.1 dX10_adds_73 (by decide) ?_
        refine lv_dup2_11 C0.1 C0.2.1 dX10_adds_74 rfl rfl ?_
        obtain ⟨h_21, hf⟩ := chk_some hf
        refine r_iald C0 C1 hI 1 (Nat.le_of_ble_eq_true rfl) (fun _ => rfl) h_21 dX10_adds_75 ?_
        refine lv_iconst (v := 1) C0.1 C0.2.1 dX10_adds_76 (by decide) ?_
        refine lv_iadd C0.1 C0.2.1 dX10_adds_77 ?_
        obtain ⟨h_22, hf⟩ := chk_some hf
        refine r_iast C0 C1 hI 1 (Nat.le_of_ble_eq_true rfl) (fun _ => rfl) h_22 dX10_adds_78 (fun H locs hI => ?_)
        obtain ⟨M_25, e_26⟩ : ∃ z : Mem, z = up2 M_19 1 (ix 0) ((M_19 1 (ix 0)) + 1) := ⟨_, rfl⟩
        rw [← e_26] at hI
        have hf := lt_at e_26 hf
        refine lv_iload_n C0.1 C0.2.1 dX10_adds_79 rfl (lv_at hl 0 rfl) ?_
        exact ee_im C0 hI hr hlocks hf dX10_adds_80
      · have hf := (if_pos c_10).symm.trans hf
        refine lv_aload_n C0.1 C0.2.1 dX10_adds_44 rfl (lv_at hl 1 rfl) ?_
        refine lv_iconst (v := 3) C0.1 C0.2.1 dX10_adds_45 (by decide) ?_
        obtain ⟨r_28, M_29, h_27, hf⟩ := ob2_some hf
        refine k_i C1 hI (q_V C0 C1 hI 0 (c_X10_fail l g X b H.size n M 3 h_27) w_1774 w_1776 w_72 w_132 w_1777 ⟨rfl, rfl⟩ hd_X10_fail ⟨Nat.le_of_ble_eq_true rfl, Nat.le_of_ble_eq_true rfl⟩ (Nat.le_of_ble_eq_true rfl) ((fun _ => rfl) _) rfl rfl rfl hl.1 rfl (Nat.le_of_ble_eq_true rfl) dX10_adds_46 ⟨Nat.le_of_ble_eq_true rfl, Nat.le_of_ble_eq_true rfl⟩) (fun H locs hI => ?_)
        exact ee_im C0 hI hr hlocks hf dX10_adds_49
    · have hf := (if_pos c_6).symm.trans hf
      refine lv_aload_n C0.1 C0.2.1 dX10_adds_25 rfl (lv_at hl 0 rfl) ?_
      refine lv_iconst (v := 2) C0.1 C0.2.1 dX10_adds_26 (by decide) ?_
      obtain ⟨r_31, M_32, h_30, hf⟩ := ob2_some hf
      refine k_i C1 hI (q_V C0 C1 hI 0 (c_X10_fail l g X b H.size n M 2 h_30) w_1774 w_1776 w_72 w_132 w_1777 ⟨rfl, rfl⟩ hd_X10_fail ⟨Nat.le_of_ble_eq_true rfl, Nat.le_of_ble_eq_true rfl⟩ (Nat.le_of_ble_eq_true rfl) ((fun _ => rfl) _) rfl rfl rfl hl.1 rfl (Nat.le_of_ble_eq_true rfl) dX10_adds_27 ⟨Nat.le_of_ble_eq_true rfl, Nat.le_of_ble_eq_true rfl⟩) (fun H locs hI => ?_)
      exact ee_im C0 hI hr hlocks hf dX10_adds_30
  · have hf := (if_pos c_3).symm.trans hf
    refine lv_aload_n C0.1 C0.2.1 dX10_adds_9 rfl (lv_at hl 0 rfl) ?_
    refine lv_iconst (v := 1) C0.1 C0.2.1 dX10_adds_10 (by decide) ?_
    obtain ⟨r_34, M_35, h_33, hf⟩ := ob2_some hf
    refine k_i C1 hI (q_V C0 C1 hI 0 (c_X10_fail l g X b H.size n M 1 h_33) w_1774 w_1776 w_72 w_132 w_1777 ⟨rfl, rfl⟩ hd_X10_fail ⟨Nat.le_of_ble_eq_true rfl, Nat.le_of_ble_eq_true rfl⟩ (Nat.le_of_ble_eq_true rfl) ((fun _ => rfl) _) rfl rfl rfl hl.1 rfl (Nat.le_of_ble_eq_true rfl) dX10_adds_11 ⟨Nat.le_of_ble_eq_true rfl, Nat.le_of_ble_eq_true rfl⟩) (fun H locs hI => ?_)
    exact ee_im C0 hI hr hlocks hf dX10_adds_14

def F_X10_addFrog (n : Nat) (x1 : Int32) (x2 : Int32) (M : Mem) : Option (Int32 × Mem) :=
  ob (F_X10_begins n M) (fun M_2 => ob2 (F_X10_adds n x1 x2 M_2) (fun r_4 M_5 => ob2 (F_X10_ends n r_4 M_5) (fun r_7 M_8 => some (r_7, M_8))))
theorem hd_X10_addFrog : yX10_addFrog.cls ≠ "java/lang/invoke/MethodHandle" ∧ yX10_addFrog.cls ≠ "java/lang/invoke/VarHandle" ∧ (parseMethodDescriptor yX10_addFrog.desc).map (fun d => d.parameters.length) = some 2 := ⟨by decide +kernel, by decide +kernel, by decide +kernel⟩
set_option maxHeartbeats 4000000 in
set_option maxRecDepth 100000 in
theorem c_X10_addFrog (l : Launch) (g : GG) (X : va_W) (b : Nat → Nat) (sz n : Nat) (M : Mem) (x1 : Int32) (x2 : Int32) {r0 : Int32} {M' : Mem} (hf : F_X10_addFrog n x1 x2 M = some (r0, M')) : Met l yX10_addFrog (.code yX10_addFrog cX10_addFrog 3 (some .int) :: LWg) (rmD 2 0 0) (va_Pc [.ref (b 0), .int x1, .int x2] (PreP g X 10 (shM g b) b sz M)) (Qi g X 10 (shM g b) b sz r0 M') 0 0 (AA X b 10 sz) := by
  refine met_go (by decide +kernel) rfl (Nat.le_of_ble_eq_true rfl) ?_
  intro p e s m below meth c ls H locs C0 C1 hr hlocks hnm hsz hl hI
  subst hsz
  have hl : lv_has ls 3 [(0, .ref (b 0)), (1, .int x1), (2, .int x2)] := hl
  unfold F_X10_addFrog at hf
  refine lv_aload_n C0.1 C0.2.1 dX10_addFrog_0 rfl (lv_at hl 0 rfl) ?_
  obtain ⟨M_2, h_1, hf⟩ := ob_some hf
  refine k_v C1 hI (q_V C0 C1 hI 0 (c_X10_begins l g X b H.size n M h_1) w_1760 w_1762 w_70 w_132 w_1763 ⟨rfl, rfl⟩ hd_X10_begins ⟨Nat.le_of_ble_eq_true rfl, Nat.le_of_ble_eq_true rfl⟩ (Nat.le_of_ble_eq_true rfl) ((fun _ => rfl) _) rfl rfl rfl hl.1 rfl (Nat.le_of_ble_eq_true rfl) dX10_addFrog_1 ⟨Nat.le_of_ble_eq_true rfl, Nat.le_of_ble_eq_true rfl⟩) (fun H locs hI => ?_)
  refine lv_aload_n C0.1 C0.2.1 dX10_addFrog_4 rfl (lv_at hl 0 rfl) ?_
  refine lv_aload_n C0.1 C0.2.1 dX10_addFrog_5 rfl (lv_at hl 0 rfl) ?_
  refine lv_iload_n C0.1 C0.2.1 dX10_addFrog_6 rfl (lv_at hl 1 rfl) ?_
  refine lv_iload_n C0.1 C0.2.1 dX10_addFrog_7 rfl (lv_at hl 2 rfl) ?_
  obtain ⟨r_4, M_5, h_3, hf⟩ := ob2_some hf
  refine k_i C1 hI (q_V C0 C1 hI 0 (c_X10_adds l g X b H.size n M_2 x1 x2 h_3) w_1767 w_1769 w_71 w_132 w_1770 ⟨rfl, rfl⟩ hd_X10_adds ⟨Nat.le_of_ble_eq_true rfl, Nat.le_of_ble_eq_true rfl⟩ (Nat.le_of_ble_eq_true rfl) ((fun _ => rfl) _) rfl rfl rfl hl.1 rfl (Nat.le_of_ble_eq_true rfl) dX10_addFrog_8 ⟨Nat.le_of_ble_eq_true rfl, Nat.le_of_ble_eq_true rfl⟩) (fun H locs hI => ?_)
  obtain ⟨r_7, M_8, h_6, hf⟩ := ob2_some hf
  refine k_i C1 hI (q_V C0 C1 hI 0 (c_X10_ends l g X b H.size n M_5 r_4 h_6) w_1778 w_1780 w_73 w_132 w_1781 ⟨rfl, rfl⟩ hd_X10_ends ⟨Nat.le_of_ble_eq_true rfl, Nat.le_of_ble_eq_true rfl⟩ (Nat.le_of_ble_eq_true rfl) ((fun _ => rfl) _) rfl rfl rfl hl.1 rfl (Nat.le_of_ble_eq_true rfl) dX10_addFrog_11 ⟨Nat.le_of_ble_eq_true rfl, Nat.le_of_ble_eq_true rfl⟩) (fun H locs hI => ?_)
  exact ee_im C0 hI hr hlocks hf dX10_addFrog_14

def F_X10_addsPad (n : Nat) (x1 : Int32) (M : Mem) : Option (Int32 × Mem) :=
  ob (F_X10_isIn n x1 1 4 M) (fun r_2 => (if r_2 = 0 then ob2 (F_X10_fail n 1 M) (fun r_23 M_24 => some (r_23, M_24)) else chk (inb 1 407) (lt' (M 1 (ix 1)) (fun x2_5 => (if x2_5 = 6 then ob2 (F_X10_fail n 2 M) (fun r_20 M_21 => some (r_20, M_21)) else chk (inb (53 + x2_5) 407) (lt' (up2 M 1 (ix (53 + x2_5)) x1) (fun M_11 => chk (inb 1 407) (chk (inb 1 407) (lt' (up2 M_11 1 (ix 1) ((M_11 1 (ix 1)) + 1)) (fun M_17 => some (x2_5, M_17)))))))))))
theorem hd_X10_addsPad : yX10_addsPad.cls ≠ "java/lang/invoke/MethodHandle" ∧ yX10_addsPad.cls ≠ "java/lang/invoke/VarHandle" ∧ (parseMethodDescriptor yX10_addsPad.desc).map (fun d => d.parameters.length) = some 1 := ⟨by decide +kernel, by decide +kernel, by decide +kernel⟩
set_option maxHeartbeats 4000000 in
set_option maxRecDepth 100000 in
theorem c_X10_addsPad (l : Launch) (g : GG) (X : va_W) (b : Nat → Nat) (sz n : Nat) (M : Mem) (x1 : Int32) {r0 : Int32} {M' : Mem} (hf : F_X10_addsPad n x1 M = some (r0, M')) : Met l yX10_addsPad (.code yX10_addsPad cX10_addsPad 3 (some .int) :: LWg) (rmD 1 0 0) (va_Pc [.ref (b 0), .int x1] (PreP g X 10 (shM g b) b sz M)) (Qi g X 10 (shM g b) b sz r0 M') 0 0 (AA X b 10 sz) := by
  refine met_go (by decide +kernel) rfl (Nat.le_of_ble_eq_true rfl) ?_
  intro p e s m below meth c ls H locs C0 C1 hr hlocks hnm hsz hl hI
  subst hsz
  have hl : lv_has ls 3 [(0, .ref (b 0)), (1, .int x1)] := hl
  unfold F_X10_addsPad at hf
  refine lv_iload_n C0.1 C0.2.1 dX10_addsPad_0 rfl (lv_at hl 1 rfl) ?_
  refine lv_iconst (v := 1) C0.1 C0.2.1 dX10_addsPad_1 (by decide) ?_
  refine lv_iconst (v := 4) C0.1 C0.2.1 dX10_addsPad_2 (by decide) ?_
  obtain ⟨r_2, h_1, hf⟩ := ob_some hf
  refine k_i C1 hI (q_S C0 C1 hI (c_X10_isIn l g X b H.size n M x1 1 4 h_1) w_1771 w_1772 w_132 w_1773 ⟨rfl, rfl⟩ hd_X10_isIn ⟨Nat.le_of_ble_eq_true rfl, Nat.le_of_ble_eq_true rfl⟩ rfl hl.1 rfl (Nat.le_of_ble_eq_true rfl) dX10_addsPad_3 ⟨Nat.le_of_ble_eq_true rfl, Nat.le_of_ble_eq_true rfl⟩) (fun H locs hI => ?_)
  refine lv_if_ne (tgt := 15) C0.1 C0.2.1 dX10_addsPad_6 (by decide) (fun c_3 => ?_) (fun c_3 => ?_)
  · have hf := (if_neg c_3).symm.trans hf
    refine lv_aload_n C0.1 C0.2.1 dX10_addsPad_15 rfl (lv_at hl 0 rfl) ?_
    refine r_get (C := RX10) (T := TX10) (N9 := 20) (ci := 11) C0 C1 hI iX10 rfl 0 5 (Nat.le_of_ble_eq_true rfl) (by decide) ((fun _ => rfl) _) rfl rfl w_1696 dX10_addsPad_16 ?_
    refine lv_iconst (v := 1) C0.1 C0.2.1 dX10_addsPad_19 (by decide) ?_
    obtain ⟨h_4, hf⟩ := chk_some hf
    refine r_iald C0 C1 hI 1 (Nat.le_of_ble_eq_true rfl) (fun _ => rfl) h_4 dX10_addsPad_20 ?_
    refine lv_topi (fun x2_5 e_6 => ?_)
    have hf := lt_at e_6 hf
    refine lv_istore_n (lv' := [(2, .int x2_5), (0, .ref (b 0)), (1, .int x1)]) C0.1 C0.2.1 dX10_addsPad_21 rfl hl (by decide) rfl (fun ls hl => ?_)
    refine lv_iload_n C0.1 C0.2.1 dX10_addsPad_22 rfl (lv_at hl 0 rfl) ?_
    refine lv_bipush (v := 6) C0.1 C0.2.1 dX10_addsPad_23 (by decide) ?_
    refine lv_icmp_ne (tgt := 34) C0.1 C0.2.1 dX10_addsPad_25 (by decide) (fun c_7 => ?_) (fun c_7 => ?_)
    · have hf := (if_neg c_7).symm.trans hf
      refine lv_aload_n C0.1 C0.2.1 dX10_addsPad_34 rfl (lv_at hl 1 rfl) ?_
      refine r_get (C := RX10) (T := TX10) (N9 := 20) (ci := 11) C0 C1 hI iX10 rfl 0 5 (Nat.le_of_ble_eq_true rfl) (by decide) ((fun _ => rfl) _) rfl rfl w_1696 dX10_addsPad_35 ?_
      refine lv_bipush (v := 53) C0.1 C0.2.1 dX10_addsPad_38 (by decide) ?_
      refine lv_iload_n C0.1 C0.2.1 dX10_addsPad_40 rfl (lv_at hl 0 rfl) ?_
      refine lv_iadd C0.1 C0.2.1 dX10_addsPad_41 ?_
      refine lv_iload_n C0.1 C0.2.1 dX10_addsPad_42 rfl (lv_at hl 2 rfl) ?_
      obtain ⟨h_8, hf⟩ := chk_some hf
      refine r_iast C0 C1 hI 1 (Nat.le_of_ble_eq_true rfl) (fun _ => rfl) h_8 dX10_addsPad_43 (fun H locs hI => ?_)
      obtain ⟨M_11, e_12⟩ : ∃ z : Mem, z = up2 M 1 (ix (53 + x2_5)) x1 := ⟨_, rfl⟩
      rw [← e_12] at hI
      have hf := lt_at e_12 hf
      refine lv_aload_n C0.1 C0.2.1 dX10_addsPad_44 rfl (lv_at hl 1 rfl) ?_
      refine r_get (C := RX10) (T := TX10) (N9 := 20) (ci := 11) C0 C1 hI iX10 rfl 0 5 (Nat.le_of_ble_eq_true rfl) (by decide) ((fun _ => rfl) _) rfl rfl w_1696 dX10_addsPad_45 ?_
      refine lv_iconst (v := 1) C0.1 C0.2.1 dX10_addsPad_48 (by decide) ?_
      refine lv_dup2_11 C0.1 C0.2.1 dX10_addsPad_49 rfl rfl ?_
      obtain ⟨h_13, hf⟩ := chk_some hf
      refine r_iald C0 C1 hI 1 (Nat.le_of_ble_eq_true rfl) (fun _ => rfl) h_13 dX10_addsPad_50 ?_
      refine lv_iconst (v := 1) C0.1 C0.2.1 dX10_addsPad_51 (by decide) ?_
      refine lv_iadd C0.1 C0.2.1 dX10_addsPad_52 ?_
      obtain ⟨h_14, hf⟩ := chk_some hf
      refine r_iast C0 C1 hI 1 (Nat.le_of_ble_eq_true rfl) (fun _ => rfl) h_14 dX10_addsPad_53 (fun H locs hI => ?_)
      obtain ⟨M_17, e_18⟩ : ∃ z : Mem, z = up2 M_11 1 (ix 1) ((M_11 1 (ix 1)) + 1) := ⟨_, rfl⟩
      rw [← e_18] at hI
      have hf := lt_at e_18 hf
      refine lv_iload_n C0.1 C0.2.1 dX10_addsPad_54 rfl (lv_at hl 0 rfl) ?_
      exact ee_im C0 hI hr hlocks hf dX10_addsPad_55
    · have hf := (if_pos c_7).symm.trans hf
      refine lv_aload_n C0.1 C0.2.1 dX10_addsPad_28 rfl (lv_at hl 1 rfl) ?_
      refine lv_iconst (v := 2) C0.1 C0.2.1 dX10_addsPad_29 (by decide) ?_
      obtain ⟨r_20, M_21, h_19, hf⟩ := ob2_some hf
      refine k_i C1 hI (q_V C0 C1 hI 0 (c_X10_fail l g X b H.size n M 2 h_19) w_1774 w_1776 w_72 w_132 w_1777 ⟨rfl, rfl⟩ hd_X10_fail ⟨Nat.le_of_ble_eq_true rfl, Nat.le_of_ble_eq_true rfl⟩ (Nat.le_of_ble_eq_true rfl) ((fun _ => rfl) _) rfl rfl rfl hl.1 rfl (Nat.le_of_ble_eq_true rfl) dX10_addsPad_30 ⟨Nat.le_of_ble_eq_true rfl, Nat.le_of_ble_eq_true rfl⟩) (fun H locs hI => ?_)
      exact ee_im C0 hI hr hlocks hf dX10_addsPad_33
  · have hf := (if_pos c_3).symm.trans hf
    refine lv_aload_n C0.1 C0.2.1 dX10_addsPad_9 rfl (lv_at hl 0 rfl) ?_
    refine lv_iconst (v := 1) C0.1 C0.2.1 dX10_addsPad_10 (by decide) ?_
    obtain ⟨r_23, M_24, h_22, hf⟩ := ob2_some hf
    refine k_i C1 hI (q_V C0 C1 hI 0 (c_X10_fail l g X b H.size n M 1 h_22) w_1774 w_1776 w_72 w_132 w_1777 ⟨rfl, rfl⟩ hd_X10_fail ⟨Nat.le_of_ble_eq_true rfl, Nat.le_of_ble_eq_true rfl⟩ (Nat.le_of_ble_eq_true rfl) ((fun _ => rfl) _) rfl rfl rfl hl.1 rfl (Nat.le_of_ble_eq_true rfl) dX10_addsPad_11 ⟨Nat.le_of_ble_eq_true rfl, Nat.le_of_ble_eq_true rfl⟩) (fun H locs hI => ?_)
    exact ee_im C0 hI hr hlocks hf dX10_addsPad_14

def F_X10_addPad (n : Nat) (x1 : Int32) (M : Mem) : Option (Int32 × Mem) :=
  ob (F_X10_begins n M) (fun M_2 => ob2 (F_X10_addsPad n x1 M_2) (fun r_4 M_5 => ob2 (F_X10_ends n r_4 M_5) (fun r_7 M_8 => some (r_7, M_8))))
theorem hd_X10_addPad : yX10_addPad.cls ≠ "java/lang/invoke/MethodHandle" ∧ yX10_addPad.cls ≠ "java/lang/invoke/VarHandle" ∧ (parseMethodDescriptor yX10_addPad.desc).map (fun d => d.parameters.length) = some 1 := ⟨by decide +kernel, by decide +kernel, by decide +kernel⟩
set_option maxHeartbeats 4000000 in
set_option maxRecDepth 100000 in
theorem c_X10_addPad (l : Launch) (g : GG) (X : va_W) (b : Nat → Nat) (sz n : Nat) (M : Mem) (x1 : Int32) {r0 : Int32} {M' : Mem} (hf : F_X10_addPad n x1 M = some (r0, M')) : Met l yX10_addPad (.code yX10_addPad cX10_addPad 2 (some .int) :: LWg) (rmD 2 0 0) (va_Pc [.ref (b 0), .int x1] (PreP g X 10 (shM g b) b sz M)) (Qi g X 10 (shM g b) b sz r0 M') 0 0 (AA X b 10 sz) := by
  refine met_go (by decide +kernel) rfl (Nat.le_of_ble_eq_true rfl) ?_
  intro p e s m below meth c ls H locs C0 C1 hr hlocks hnm hsz hl hI
  subst hsz
  have hl : lv_has ls 2 [(0, .ref (b 0)), (1, .int x1)] := hl
  unfold F_X10_addPad at hf
  refine lv_aload_n C0.1 C0.2.1 dX10_addPad_0 rfl (lv_at hl 0 rfl) ?_
  obtain ⟨M_2, h_1, hf⟩ := ob_some hf
  refine k_v C1 hI (q_V C0 C1 hI 0 (c_X10_begins l g X b H.size n M h_1) w_1760 w_1762 w_70 w_132 w_1763 ⟨rfl, rfl⟩ hd_X10_begins ⟨Nat.le_of_ble_eq_true rfl, Nat.le_of_ble_eq_true rfl⟩ (Nat.le_of_ble_eq_true rfl) ((fun _ => rfl) _) rfl rfl rfl hl.1 rfl (Nat.le_of_ble_eq_true rfl) dX10_addPad_1 ⟨Nat.le_of_ble_eq_true rfl, Nat.le_of_ble_eq_true rfl⟩) (fun H locs hI => ?_)
  refine lv_aload_n C0.1 C0.2.1 dX10_addPad_4 rfl (lv_at hl 0 rfl) ?_
  refine lv_aload_n C0.1 C0.2.1 dX10_addPad_5 rfl (lv_at hl 0 rfl) ?_
  refine lv_iload_n C0.1 C0.2.1 dX10_addPad_6 rfl (lv_at hl 1 rfl) ?_
  obtain ⟨r_4, M_5, h_3, hf⟩ := ob2_some hf
  refine k_i C1 hI (q_V C0 C1 hI 0 (c_X10_addsPad l g X b H.size n M_2 x1 h_3) w_1786 w_1788 w_74 w_132 w_1789 ⟨rfl, rfl⟩ hd_X10_addsPad ⟨Nat.le_of_ble_eq_true rfl, Nat.le_of_ble_eq_true rfl⟩ (Nat.le_of_ble_eq_true rfl) ((fun _ => rfl) _) rfl rfl rfl hl.1 rfl (Nat.le_of_ble_eq_true rfl) dX10_addPad_7 ⟨Nat.le_of_ble_eq_true rfl, Nat.le_of_ble_eq_true rfl⟩) (fun H locs hI => ?_)
  obtain ⟨r_7, M_8, h_6, hf⟩ := ob2_some hf
  refine k_i C1 hI (q_V C0 C1 hI 0 (c_X10_ends l g X b H.size n M_5 r_4 h_6) w_1778 w_1780 w_73 w_132 w_1781 ⟨rfl, rfl⟩ hd_X10_ends ⟨Nat.le_of_ble_eq_true rfl, Nat.le_of_ble_eq_true rfl⟩ (Nat.le_of_ble_eq_true rfl) ((fun _ => rfl) _) rfl rfl rfl hl.1 rfl (Nat.le_of_ble_eq_true rfl) dX10_addPad_10 ⟨Nat.le_of_ble_eq_true rfl, Nat.le_of_ble_eq_true rfl⟩) (fun H locs hI => ?_)
  exact ee_im C0 hI hr hlocks hf dX10_addPad_13

def F_X10_hops (n : Nat) (x1 : Int32) (x2 : Int32) (M : Mem) : Option (Int32 × Mem) :=
  ob (F_X10_isFrog n x1 M) (fun r_2 => (if r_2 = 0 then ob2 (F_X10_fail n 1 M) (fun r_5 M_6 => some (r_5, M_6)) else ob (F_X10_isPad n x2 M) (fun r_8 => (if r_8 = 0 then ob2 (F_X10_fail n 1 M) (fun r_30 M_31 => some (r_30, M_31)) else chk (inb (29 + x1) 407) ((if (M 1 (ix (29 + x1))) = (x2 + 1) then ob2 (F_X10_fail n 2 M) (fun r_13 M_14 => some (r_13, M_14)) else ob (F_X10_on n x2 M) (fun r_16 => chk (inb (53 + x2) 407) ((if r_16 = (M 1 (ix (53 + x2))) then ob2 (F_X10_fail n 2 M) (fun r_27 M_28 => some (r_27, M_28)) else chk (inb (29 + x1) 407) (lt' (up2 M 1 (ix (29 + x1)) (x2 + 1)) (fun M_22 => ob (F_X10_on n x2 M_22) (fun r_25 => some (r_25, M_22)))))))))))))
theorem hd_X10_hops : yX10_hops.cls ≠ "java/lang/invoke/MethodHandle" ∧ yX10_hops.cls ≠ "java/lang/invoke/VarHandle" ∧ (parseMethodDescriptor yX10_hops.desc).map (fun d => d.parameters.length) = some 2 := ⟨by decide +kernel, by decide +kernel, by decide +kernel⟩
set_option maxHeartbeats 4000000 in
set_option maxRecDepth 100000 in
theorem c_X10_hops (l : Launch) (g : GG) (X : va_W) (b : Nat → Nat) (sz n : Nat) (M : Mem) (x1 : Int32) (x2 : Int32) {r0 : Int32} {M' : Mem} (hf : F_X10_hops n x1 x2 M = some (r0, M')) : Met l yX10_hops (.code yX10_hops cX10_hops 3 (some .int) :: LWg) (rmD 2 0 0) (va_Pc [.ref (b 0), .int x1, .int x2] (PreP g X 10 (shM g b) b sz M)) (Qi g X 10 (shM g b) b sz r0 M') 0 0 (AA X b 10 sz) := by
  refine met_go (by decide +kernel) rfl (Nat.le_of_ble_eq_true rfl) ?_
  intro p e s m below meth c ls H locs C0 C1 hr hlocks hnm hsz hl hI
  subst hsz
  have hl : lv_has ls 3 [(0, .ref (b 0)), (1, .int x1), (2, .int x2)] := hl
  unfold F_X10_hops at hf
  refine lv_aload_n C0.1 C0.2.1 dX10_hops_0 rfl (lv_at hl 0 rfl) ?_
  refine lv_iload_n C0.1 C0.2.1 dX10_hops_1 rfl (lv_at hl 1 rfl) ?_
  obtain ⟨r_2, h_1, hf⟩ := ob_some hf
  refine k_i C1 hI (q_V C0 C1 hI 0 (c_X10_isFrog l g X b H.size n M x1 h_1) w_1798 w_1800 w_76 w_132 w_1801 ⟨rfl, rfl⟩ hd_X10_isFrog ⟨Nat.le_of_ble_eq_true rfl, Nat.le_of_ble_eq_true rfl⟩ (Nat.le_of_ble_eq_true rfl) ((fun _ => rfl) _) rfl rfl rfl hl.1 rfl (Nat.le_of_ble_eq_true rfl) dX10_hops_2 ⟨Nat.le_of_ble_eq_true rfl, Nat.le_of_ble_eq_true rfl⟩) (fun H locs hI => ?_)
  refine lv_if_eq (tgt := 16) C0.1 C0.2.1 dX10_hops_5 (by decide) (fun c_3 => ?_) (fun c_3 => ?_)
  · have hf := (if_pos c_3).symm.trans hf
    refine lv_aload_n C0.1 C0.2.1 dX10_hops_16 rfl (lv_at hl 0 rfl) ?_
    refine lv_iconst (v := 1) C0.1 C0.2.1 dX10_hops_17 (by decide) ?_
    obtain ⟨r_5, M_6, h_4, hf⟩ := ob2_some hf
    refine k_i C1 hI (q_V C0 C1 hI 0 (c_X10_fail l g X b H.size n M 1 h_4) w_1774 w_1776 w_72 w_132 w_1777 ⟨rfl, rfl⟩ hd_X10_fail ⟨Nat.le_of_ble_eq_true rfl, Nat.le_of_ble_eq_true rfl⟩ (Nat.le_of_ble_eq_true rfl) ((fun _ => rfl) _) rfl rfl rfl hl.1 rfl (Nat.le_of_ble_eq_true rfl) dX10_hops_18 ⟨Nat.le_of_ble_eq_true rfl, Nat.le_of_ble_eq_true rfl⟩) (fun H locs hI => ?_)
    exact ee_im C0 hI hr hlocks hf dX10_hops_21
  · have hf := (if_neg c_3).symm.trans hf
    refine lv_aload_n C0.1 C0.2.1 dX10_hops_8 rfl (lv_at hl 0 rfl) ?_
    refine lv_iload_n C0.1 C0.2.1 dX10_hops_9 rfl (lv_at hl 2 rfl) ?_
    obtain ⟨r_8, h_7, hf⟩ := ob_some hf
    refine k_i C1 hI (q_V C0 C1 hI 0 (c_X10_isPad l g X b H.size n M x2 h_7) w_1802 w_1804 w_77 w_132 w_1805 ⟨rfl, rfl⟩ hd_X10_isPad ⟨Nat.le_of_ble_eq_true rfl, Nat.le_of_ble_eq_true rfl⟩ (Nat.le_of_ble_eq_true rfl) ((fun _ => rfl) _) rfl rfl rfl hl.1 rfl (Nat.le_of_ble_eq_true rfl) dX10_hops_10 ⟨Nat.le_of_ble_eq_true rfl, Nat.le_of_ble_eq_true rfl⟩) (fun H locs hI => ?_)
    refine lv_if_ne (tgt := 22) C0.1 C0.2.1 dX10_hops_13 (by decide) (fun c_9 => ?_) (fun c_9 => ?_)
    · have hf := (if_neg c_9).symm.trans hf
      refine lv_aload_n C0.1 C0.2.1 dX10_hops_22 rfl (lv_at hl 0 rfl) ?_
      refine r_get (C := RX10) (T := TX10) (N9 := 20) (ci := 11) C0 C1 hI iX10 rfl 0 5 (Nat.le_of_ble_eq_true rfl) (by decide) ((fun _ => rfl) _) rfl rfl w_1696 dX10_hops_23 ?_
      refine lv_bipush (v := 29) C0.1 C0.2.1 dX10_hops_26 (by decide) ?_
      refine lv_iload_n C0.1 C0.2.1 dX10_hops_28 rfl (lv_at hl 1 rfl) ?_
      refine lv_iadd C0.1 C0.2.1 dX10_hops_29 ?_
      obtain ⟨h_10, hf⟩ := chk_some hf
      refine r_iald C0 C1 hI 1 (Nat.le_of_ble_eq_true rfl) (fun _ => rfl) h_10 dX10_hops_30 ?_
      refine lv_iload_n C0.1 C0.2.1 dX10_hops_31 rfl (lv_at hl 2 rfl) ?_
      refine lv_iconst (v := 1) C0.1 C0.2.1 dX10_hops_32 (by decide) ?_
      refine lv_iadd C0.1 C0.2.1 dX10_hops_33 ?_
      refine lv_icmp_eq (tgt := 54) C0.1 C0.2.1 dX10_hops_34 (by decide) (fun c_11 => ?_) (fun c_11 => ?_)
      · have hf := (if_pos c_11).symm.trans hf
        refine lv_aload_n C0.1 C0.2.1 dX10_hops_54 rfl (lv_at hl 0 rfl) ?_
        refine lv_iconst (v := 2) C0.1 C0.2.1 dX10_hops_55 (by decide) ?_
        obtain ⟨r_13, M_14, h_12, hf⟩ := ob2_some hf
        refine k_i C1 hI (q_V C0 C1 hI 0 (c_X10_fail l g X b H.size n M 2 h_12) w_1774 w_1776 w_72 w_132 w_1777 ⟨rfl, rfl⟩ hd_X10_fail ⟨Nat.le_of_ble_eq_true rfl, Nat.le_of_ble_eq_true rfl⟩ (Nat.le_of_ble_eq_true rfl) ((fun _ => rfl) _) rfl rfl rfl hl.1 rfl (Nat.le_of_ble_eq_true rfl) dX10_hops_56 ⟨Nat.le_of_ble_eq_true rfl, Nat.le_of_ble_eq_true rfl⟩) (fun H locs hI => ?_)
        exact ee_im C0 hI hr hlocks hf dX10_hops_59
      · have hf := (if_neg c_11).symm.trans hf
        refine lv_aload_n C0.1 C0.2.1 dX10_hops_37 rfl (lv_at hl 0 rfl) ?_
        refine lv_iload_n C0.1 C0.2.1 dX10_hops_38 rfl (lv_at hl 2 rfl) ?_
        obtain ⟨r_16, h_15, hf⟩ := ob_some hf
        refine k_i C1 hI (q_V C0 C1 hI 0 (c_X10_on l g X b H.size n M x2 h_15) w_1806 w_1808 w_78 w_132 w_1809 ⟨rfl, rfl⟩ hd_X10_on ⟨Nat.le_of_ble_eq_true rfl, Nat.le_of_ble_eq_true rfl⟩ (Nat.le_of_ble_eq_true rfl) ((fun _ => rfl) _) rfl rfl rfl hl.1 rfl (Nat.le_of_ble_eq_true rfl) dX10_hops_39 ⟨Nat.le_of_ble_eq_true rfl, Nat.le_of_ble_eq_true rfl⟩) (fun H locs hI => ?_)
        refine lv_aload_n C0.1 C0.2.1 dX10_hops_42 rfl (lv_at hl 0 rfl) ?_
        refine r_get (C := RX10) (T := TX10) (N9 := 20) (ci := 11) C0 C1 hI iX10 rfl 0 5 (Nat.le_of_ble_eq_true rfl) (by decide) ((fun _ => rfl) _) rfl rfl w_1696 dX10_hops_43 ?_
        refine lv_bipush (v := 53) C0.1 C0.2.1 dX10_hops_46 (by decide) ?_
        refine lv_iload_n C0.1 C0.2.1 dX10_hops_48 rfl (lv_at hl 2 rfl) ?_
        refine lv_iadd C0.1 C0.2.1 dX10_hops_49 ?_
        obtain ⟨h_17, hf⟩ := chk_some hf
        refine r_iald C0 C1 hI 1 (Nat.le_of_ble_eq_true rfl) (fun _ => rfl) h_17 dX10_hops_50 ?_
        refine lv_icmp_ne (tgt := 60) C0.1 C0.2.1 dX10_hops_51 (by decide) (fun c_18 => ?_) (fun c_18 => ?_)
        · have hf := (if_neg c_18).symm.trans hf
          refine lv_aload_n C0.1 C0.2.1 dX10_hops_60 rfl (lv_at hl 0 rfl) ?_
          refine r_get (C := RX10) (T := TX10) (N9 := 20) (ci := 11) C0 C1 hI iX10 rfl 0 5 (Nat.le_of_ble_eq_true rfl) (by decide) ((fun _ => rfl) _) rfl rfl w_1696 dX10_hops_61 ?_
          refine lv_bipush (v := 29) C0.1 C0.2.1 dX10_hops_64 (by decide) ?_
          refine lv_iload_n C0.1 C0.2.1 dX10_hops_66 rfl (lv_at hl 1 rfl) ?_
          refine lv_iadd C0.1 C0.2.1 dX10_hops_67 ?_
          refine lv_iload_n C0.1 C0.2.1 dX10_hops_68 rfl (lv_at hl 2 rfl) ?_
          refine lv_iconst (v := 1) C0.1 C0.2.1 dX10_hops_69 (by decide) ?_
          refine lv_iadd C0.1 C0.2.1 dX10_hops_70 ?_
          obtain ⟨h_19, hf⟩ := chk_some hf
          refine r_iast C0 C1 hI 1 (Nat.le_of_ble_eq_true rfl) (fun _ => rfl) h_19 dX10_hops_71 (fun H locs hI => ?_)
          obtain ⟨M_22, e_23⟩ : ∃ z : Mem, z = up2 M 1 (ix (29 + x1)) (x2 + 1) := ⟨_, rfl⟩
          rw [← e_23] at hI
          have hf := lt_at e_23 hf
          refine lv_aload_n C0.1 C0.2.1 dX10_hops_72 rfl (lv_at hl 0 rfl) ?_
          refine lv_iload_n C0.1 C0.2.1 dX10_hops_73 rfl (lv_at hl 2 rfl) ?_
          obtain ⟨r_25, h_24, hf⟩ := ob_some hf
          refine k_i C1 hI (q_V C0 C1 hI 0 (c_X10_on l g X b H.size n M_22 x2 h_24) w_1806 w_1808 w_78 w_132 w_1809 ⟨rfl, rfl⟩ hd_X10_on ⟨Nat.le_of_ble_eq_true rfl, Nat.le_of_ble_eq_true rfl⟩ (Nat.le_of_ble_eq_true rfl) ((fun _ => rfl) _) rfl rfl rfl hl.1 rfl (Nat.le_of_ble_eq_true rfl) dX10_hops_74 ⟨Nat.le_of_ble_eq_true rfl, Nat.le_of_ble_eq_true rfl⟩) (fun H locs hI => ?_)
          exact ee_im C0 hI hr hlocks hf dX10_hops_77
        · have hf := (if_pos c_18).symm.trans hf
          refine lv_aload_n C0.1 C0.2.1 dX10_hops_54 rfl (lv_at hl 0 rfl) ?_
          refine lv_iconst (v := 2) C0.1 C0.2.1 dX10_hops_55 (by decide) ?_
          obtain ⟨r_27, M_28, h_26, hf⟩ := ob2_some hf
          refine k_i C1 hI (q_V C0 C1 hI 0 (c_X10_fail l g X b H.size n M 2 h_26) w_1774 w_1776 w_72 w_132 w_1777 ⟨rfl, rfl⟩ hd_X10_fail ⟨Nat.le_of_ble_eq_true rfl, Nat.le_of_ble_eq_true rfl⟩ (Nat.le_of_ble_eq_true rfl) ((fun _ => rfl) _) rfl rfl rfl hl.1 rfl (Nat.le_of_ble_eq_true rfl) dX10_hops_56 ⟨Nat.le_of_ble_eq_true rfl, Nat.le_of_ble_eq_true rfl⟩) (fun H locs hI => ?_)
          exact ee_im C0 hI hr hlocks hf dX10_hops_59
    · have hf := (if_pos c_9).symm.trans hf
      refine lv_aload_n C0.1 C0.2.1 dX10_hops_16 rfl (lv_at hl 0 rfl) ?_
      refine lv_iconst (v := 1) C0.1 C0.2.1 dX10_hops_17 (by decide) ?_
      obtain ⟨r_30, M_31, h_29, hf⟩ := ob2_some hf
      refine k_i C1 hI (q_V C0 C1 hI 0 (c_X10_fail l g X b H.size n M 1 h_29) w_1774 w_1776 w_72 w_132 w_1777 ⟨rfl, rfl⟩ hd_X10_fail ⟨Nat.le_of_ble_eq_true rfl, Nat.le_of_ble_eq_true rfl⟩ (Nat.le_of_ble_eq_true rfl) ((fun _ => rfl) _) rfl rfl rfl hl.1 rfl (Nat.le_of_ble_eq_true rfl) dX10_hops_18 ⟨Nat.le_of_ble_eq_true rfl, Nat.le_of_ble_eq_true rfl⟩) (fun H locs hI => ?_)
      exact ee_im C0 hI hr hlocks hf dX10_hops_21

def F_X10_hop (n : Nat) (x1 : Int32) (x2 : Int32) (M : Mem) : Option (Int32 × Mem) :=
  ob (F_X10_begins n M) (fun M_2 => ob2 (F_X10_hops n x1 x2 M_2) (fun r_4 M_5 => ob2 (F_X10_ends n r_4 M_5) (fun r_7 M_8 => some (r_7, M_8))))
theorem hd_X10_hop : yX10_hop.cls ≠ "java/lang/invoke/MethodHandle" ∧ yX10_hop.cls ≠ "java/lang/invoke/VarHandle" ∧ (parseMethodDescriptor yX10_hop.desc).map (fun d => d.parameters.length) = some 2 := ⟨by decide +kernel, by decide +kernel, by decide +kernel⟩
set_option maxHeartbeats 4000000 in
set_option maxRecDepth 100000 in
theorem c_X10_hop (l : Launch) (g : GG) (X : va_W) (b : Nat → Nat) (sz n : Nat) (M : Mem) (x1 : Int32) (x2 : Int32) {r0 : Int32} {M' : Mem} (hf : F_X10_hop n x1 x2 M = some (r0, M')) : Met l yX10_hop (.code yX10_hop cX10_hop 3 (some .int) :: LWg) (rmD 3 0 0) (va_Pc [.ref (b 0), .int x1, .int x2] (PreP g X 10 (shM g b) b sz M)) (Qi g X 10 (shM g b) b sz r0 M') 0 0 (AA X b 10 sz) := by
  refine met_go (by decide +kernel) rfl (Nat.le_of_ble_eq_true rfl) ?_
  intro p e s m below meth c ls H locs C0 C1 hr hlocks hnm hsz hl hI
  subst hsz
  have hl : lv_has ls 3 [(0, .ref (b 0)), (1, .int x1), (2, .int x2)] := hl
  unfold F_X10_hop at hf
  refine lv_aload_n C0.1 C0.2.1 dX10_hop_0 rfl (lv_at hl 0 rfl) ?_
  obtain ⟨M_2, h_1, hf⟩ := ob_some hf
  refine k_v C1 hI (q_V C0 C1 hI 0 (c_X10_begins l g X b H.size n M h_1) w_1760 w_1762 w_70 w_132 w_1763 ⟨rfl, rfl⟩ hd_X10_begins ⟨Nat.le_of_ble_eq_true rfl, Nat.le_of_ble_eq_true rfl⟩ (Nat.le_of_ble_eq_true rfl) ((fun _ => rfl) _) rfl rfl rfl hl.1 rfl (Nat.le_of_ble_eq_true rfl) dX10_hop_1 ⟨Nat.le_of_ble_eq_true rfl, Nat.le_of_ble_eq_true rfl⟩) (fun H locs hI => ?_)
  refine lv_aload_n C0.1 C0.2.1 dX10_hop_4 rfl (lv_at hl 0 rfl) ?_
  refine lv_aload_n C0.1 C0.2.1 dX10_hop_5 rfl (lv_at hl 0 rfl) ?_
  refine lv_iload_n C0.1 C0.2.1 dX10_hop_6 rfl (lv_at hl 1 rfl) ?_
  refine lv_iload_n C0.1 C0.2.1 dX10_hop_7 rfl (lv_at hl 2 rfl) ?_
  obtain ⟨r_4, M_5, h_3, hf⟩ := ob2_some hf
  refine k_i C1 hI (q_V C0 C1 hI 0 (c_X10_hops l g X b H.size n M_2 x1 x2 h_3) w_1794 w_1796 w_75 w_132 w_1797 ⟨rfl, rfl⟩ hd_X10_hops ⟨Nat.le_of_ble_eq_true rfl, Nat.le_of_ble_eq_true rfl⟩ (Nat.le_of_ble_eq_true rfl) ((fun _ => rfl) _) rfl rfl rfl hl.1 rfl (Nat.le_of_ble_eq_true rfl) dX10_hop_8 ⟨Nat.le_of_ble_eq_true rfl, Nat.le_of_ble_eq_true rfl⟩) (fun H locs hI => ?_)
  obtain ⟨r_7, M_8, h_6, hf⟩ := ob2_some hf
  refine k_i C1 hI (q_V C0 C1 hI 0 (c_X10_ends l g X b H.size n M_5 r_4 h_6) w_1778 w_1780 w_73 w_132 w_1781 ⟨rfl, rfl⟩ hd_X10_ends ⟨Nat.le_of_ble_eq_true rfl, Nat.le_of_ble_eq_true rfl⟩ (Nat.le_of_ble_eq_true rfl) ((fun _ => rfl) _) rfl rfl rfl hl.1 rfl (Nat.le_of_ble_eq_true rfl) dX10_hop_11 ⟨Nat.le_of_ble_eq_true rfl, Nat.le_of_ble_eq_true rfl⟩) (fun H locs hI => ?_)
  exact ee_im C0 hI hr hlocks hf dX10_hop_14

def F_X10_dives (n : Nat) (x1 : Int32) (M : Mem) : Option (Int32 × Mem) :=
  ob (F_X10_isFrog n x1 M) (fun r_2 => (if r_2 = 0 then ob2 (F_X10_fail n 1 M) (fun r_19 M_20 => some (r_19, M_20)) else ob (F_X10_isOn n x1 M) (fun r_5 => (if r_5 = 0 then ob2 (F_X10_fail n 2 M) (fun r_16 M_17 => some (r_16, M_17)) else chk (inb (29 + x1) 407) (lt' ((M 1 (ix (29 + x1))) - 1) (fun x2_8 => chk (inb (29 + x1) 407) (lt' (up2 M 1 (ix (29 + x1)) 0) (fun M_13 => some (x2_8, M_13)))))))))
theorem hd_X10_dives : yX10_dives.cls ≠ "java/lang/invoke/MethodHandle" ∧ yX10_dives.cls ≠ "java/lang/invoke/VarHandle" ∧ (parseMethodDescriptor yX10_dives.desc).map (fun d => d.parameters.length) = some 1 := ⟨by decide +kernel, by decide +kernel, by decide +kernel⟩
set_option maxHeartbeats 4000000 in
set_option maxRecDepth 100000 in
theorem c_X10_dives (l : Launch) (g : GG) (X : va_W) (b : Nat → Nat) (sz n : Nat) (M : Mem) (x1 : Int32) {r0 : Int32} {M' : Mem} (hf : F_X10_dives n x1 M = some (r0, M')) : Met l yX10_dives (.code yX10_dives cX10_dives 3 (some .int) :: LWg) (rmD 2 0 0) (va_Pc [.ref (b 0), .int x1] (PreP g X 10 (shM g b) b sz M)) (Qi g X 10 (shM g b) b sz r0 M') 0 0 (AA X b 10 sz) := by
  refine met_go (by decide +kernel) rfl (Nat.le_of_ble_eq_true rfl) ?_
  intro p e s m below meth c ls H locs C0 C1 hr hlocks hnm hsz hl hI
  subst hsz
  have hl : lv_has ls 3 [(0, .ref (b 0)), (1, .int x1)] := hl
  unfold F_X10_dives at hf
  refine lv_aload_n C0.1 C0.2.1 dX10_dives_0 rfl (lv_at hl 0 rfl) ?_
  refine lv_iload_n C0.1 C0.2.1 dX10_dives_1 rfl (lv_at hl 1 rfl) ?_
  obtain ⟨r_2, h_1, hf⟩ := ob_some hf
  refine k_i C1 hI (q_V C0 C1 hI 0 (c_X10_isFrog l g X b H.size n M x1 h_1) w_1798 w_1800 w_76 w_132 w_1801 ⟨rfl, rfl⟩ hd_X10_isFrog ⟨Nat.le_of_ble_eq_true rfl, Nat.le_of_ble_eq_true rfl⟩ (Nat.le_of_ble_eq_true rfl) ((fun _ => rfl) _) rfl rfl rfl hl.1 rfl (Nat.le_of_ble_eq_true rfl) dX10_dives_2 ⟨Nat.le_of_ble_eq_true rfl, Nat.le_of_ble_eq_true rfl⟩) (fun H locs hI => ?_)
  refine lv_if_ne (tgt := 14) C0.1 C0.2.1 dX10_dives_5 (by decide) (fun c_3 => ?_) (fun c_3 => ?_)
  · have hf := (if_neg c_3).symm.trans hf
    refine lv_aload_n C0.1 C0.2.1 dX10_dives_14 rfl (lv_at hl 0 rfl) ?_
    refine lv_iload_n C0.1 C0.2.1 dX10_dives_15 rfl (lv_at hl 1 rfl) ?_
    obtain ⟨r_5, h_4, hf⟩ := ob_some hf
    refine k_i C1 hI (q_V C0 C1 hI 0 (c_X10_isOn l g X b H.size n M x1 h_4) w_1818 w_1820 w_80 w_132 w_1821 ⟨rfl, rfl⟩ hd_X10_isOn ⟨Nat.le_of_ble_eq_true rfl, Nat.le_of_ble_eq_true rfl⟩ (Nat.le_of_ble_eq_true rfl) ((fun _ => rfl) _) rfl rfl rfl hl.1 rfl (Nat.le_of_ble_eq_true rfl) dX10_dives_16 ⟨Nat.le_of_ble_eq_true rfl, Nat.le_of_ble_eq_true rfl⟩) (fun H locs hI => ?_)
    refine lv_if_ne (tgt := 28) C0.1 C0.2.1 dX10_dives_19 (by decide) (fun c_6 => ?_) (fun c_6 => ?_)
    · have hf := (if_neg c_6).symm.trans hf
      refine lv_aload_n C0.1 C0.2.1 dX10_dives_28 rfl (lv_at hl 0 rfl) ?_
      refine r_get (C := RX10) (T := TX10) (N9 := 20) (ci := 11) C0 C1 hI iX10 rfl 0 5 (Nat.le_of_ble_eq_true rfl) (by decide) ((fun _ => rfl) _) rfl rfl w_1696 dX10_dives_29 ?_
      refine lv_bipush (v := 29) C0.1 C0.2.1 dX10_dives_32 (by decide) ?_
      refine lv_iload_n C0.1 C0.2.1 dX10_dives_34 rfl (lv_at hl 1 rfl) ?_
      refine lv_iadd C0.1 C0.2.1 dX10_dives_35 ?_
      obtain ⟨h_7, hf⟩ := chk_some hf
      refine r_iald C0 C1 hI 1 (Nat.le_of_ble_eq_true rfl) (fun _ => rfl) h_7 dX10_dives_36 ?_
      refine lv_iconst (v := 1) C0.1 C0.2.1 dX10_dives_37 (by decide) ?_
      refine lv_isub C0.1 C0.2.1 dX10_dives_38 ?_
      refine lv_topi (fun x2_8 e_9 => ?_)
      have hf := lt_at e_9 hf
      refine lv_istore_n (lv' := [(2, .int x2_8), (0, .ref (b 0)), (1, .int x1)]) C0.1 C0.2.1 dX10_dives_39 rfl hl (by decide) rfl (fun ls hl => ?_)
      refine lv_aload_n C0.1 C0.2.1 dX10_dives_40 rfl (lv_at hl 1 rfl) ?_
      refine r_get (C := RX10) (T := TX10) (N9 := 20) (ci := 11) C0 C1 hI iX10 rfl 0 5 (Nat.le_of_ble_eq_true rfl) (by decide) ((fun _ => rfl) _) rfl rfl w_1696 dX10_dives_41 ?_
      refine lv_bipush (v := 29) C0.1 C0.2.1 dX10_dives_44 (by decide) ?_
      refine lv_iload_n C0.1 C0.2.1 dX10_dives_46 rfl (lv_at hl 2 rfl) ?_
      refine lv_iadd C0.1 C0.2.1 dX10_dives_47 ?_
      refine lv_iconst (v := 0) C0.1 C0.2.1 dX10_dives_48 (by decide) ?_
      obtain ⟨h_10, hf⟩ := chk_some hf
      refine r_iast C0 C1 hI 1 (Nat.le_of_ble_eq_true rfl) (fun _ => rfl) h_10 dX10_dives_49 (fun H locs hI => ?_)
      obtain ⟨M_13, e_14⟩ : ∃ z : Mem, z = up2 M 1 (ix (29 + x1)) 0 := ⟨_, rfl⟩
      rw [← e_14] at hI
      have hf := lt_at e_14 hf
      refine lv_iload_n C0.1 C0.2.1 dX10_dives_50 rfl (lv_at hl 0 rfl) ?_
      exact ee_im C0 hI hr hlocks hf dX10_dives_51
    · have hf := (if_pos c_6).symm.trans hf
      refine lv_aload_n C0.1 C0.2.1 dX10_dives_22 rfl (lv_at hl 0 rfl) ?_
      refine lv_iconst (v := 2) C0.1 C0.2.1 dX10_dives_23 (by decide) ?_
      obtain ⟨r_16, M_17, h_15, hf⟩ := ob2_some hf
      refine k_i C1 hI (q_V C0 C1 hI 0 (c_X10_fail l g X b H.size n M 2 h_15) w_1774 w_1776 w_72 w_132 w_1777 ⟨rfl, rfl⟩ hd_X10_fail ⟨Nat.le_of_ble_eq_true rfl, Nat.le_of_ble_eq_true rfl⟩ (Nat.le_of_ble_eq_true rfl) ((fun _ => rfl) _) rfl rfl rfl hl.1 rfl (Nat.le_of_ble_eq_true rfl) dX10_dives_24 ⟨Nat.le_of_ble_eq_true rfl, Nat.le_of_ble_eq_true rfl⟩) (fun H locs hI => ?_)
      exact ee_im C0 hI hr hlocks hf dX10_dives_27
  · have hf := (if_pos c_3).symm.trans hf
    refine lv_aload_n C0.1 C0.2.1 dX10_dives_8 rfl (lv_at hl 0 rfl) ?_
    refine lv_iconst (v := 1) C0.1 C0.2.1 dX10_dives_9 (by decide) ?_
    obtain ⟨r_19, M_20, h_18, hf⟩ := ob2_some hf
    refine k_i C1 hI (q_V C0 C1 hI 0 (c_X10_fail l g X b H.size n M 1 h_18) w_1774 w_1776 w_72 w_132 w_1777 ⟨rfl, rfl⟩ hd_X10_fail ⟨Nat.le_of_ble_eq_true rfl, Nat.le_of_ble_eq_true rfl⟩ (Nat.le_of_ble_eq_true rfl) ((fun _ => rfl) _) rfl rfl rfl hl.1 rfl (Nat.le_of_ble_eq_true rfl) dX10_dives_10 ⟨Nat.le_of_ble_eq_true rfl, Nat.le_of_ble_eq_true rfl⟩) (fun H locs hI => ?_)
    exact ee_im C0 hI hr hlocks hf dX10_dives_13

def F_X10_dive (n : Nat) (x1 : Int32) (M : Mem) : Option (Int32 × Mem) :=
  ob (F_X10_begins n M) (fun M_2 => ob2 (F_X10_dives n x1 M_2) (fun r_4 M_5 => ob2 (F_X10_ends n r_4 M_5) (fun r_7 M_8 => some (r_7, M_8))))
theorem hd_X10_dive : yX10_dive.cls ≠ "java/lang/invoke/MethodHandle" ∧ yX10_dive.cls ≠ "java/lang/invoke/VarHandle" ∧ (parseMethodDescriptor yX10_dive.desc).map (fun d => d.parameters.length) = some 1 := ⟨by decide +kernel, by decide +kernel, by decide +kernel⟩
set_option maxHeartbeats 4000000 in
set_option maxRecDepth 100000 in
theorem c_X10_dive (l : Launch) (g : GG) (X : va_W) (b : Nat → Nat) (sz n : Nat) (M : Mem) (x1 : Int32) {r0 : Int32} {M' : Mem} (hf : F_X10_dive n x1 M = some (r0, M')) : Met l yX10_dive (.code yX10_dive cX10_dive 2 (some .int) :: LWg) (rmD 3 0 0) (va_Pc [.ref (b 0), .int x1] (PreP g X 10 (shM g b) b sz M)) (Qi g X 10 (shM g b) b sz r0 M') 0 0 (AA X b 10 sz) := by
  refine met_go (by decide +kernel) rfl (Nat.le_of_ble_eq_true rfl) ?_
  intro p e s m below meth c ls H locs C0 C1 hr hlocks hnm hsz hl hI
  subst hsz
  have hl : lv_has ls 2 [(0, .ref (b 0)), (1, .int x1)] := hl
  unfold F_X10_dive at hf
  refine lv_aload_n C0.1 C0.2.1 dX10_dive_0 rfl (lv_at hl 0 rfl) ?_
  obtain ⟨M_2, h_1, hf⟩ := ob_some hf
  refine k_v C1 hI (q_V C0 C1 hI 0 (c_X10_begins l g X b H.size n M h_1) w_1760 w_1762 w_70 w_132 w_1763 ⟨rfl, rfl⟩ hd_X10_begins ⟨Nat.le_of_ble_eq_true rfl, Nat.le_of_ble_eq_true rfl⟩ (Nat.le_of_ble_eq_true rfl) ((fun _ => rfl) _) rfl rfl rfl hl.1 rfl (Nat.le_of_ble_eq_true rfl) dX10_dive_1 ⟨Nat.le_of_ble_eq_true rfl, Nat.le_of_ble_eq_true rfl⟩) (fun H locs hI => ?_)
  refine lv_aload_n C0.1 C0.2.1 dX10_dive_4 rfl (lv_at hl 0 rfl) ?_
  refine lv_aload_n C0.1 C0.2.1 dX10_dive_5 rfl (lv_at hl 0 rfl) ?_
  refine lv_iload_n C0.1 C0.2.1 dX10_dive_6 rfl (lv_at hl 1 rfl) ?_
  obtain ⟨r_4, M_5, h_3, hf⟩ := ob2_some hf
  refine k_i C1 hI (q_V C0 C1 hI 0 (c_X10_dives l g X b H.size n M_2 x1 h_3) w_1814 w_1816 w_79 w_132 w_1817 ⟨rfl, rfl⟩ hd_X10_dives ⟨Nat.le_of_ble_eq_true rfl, Nat.le_of_ble_eq_true rfl⟩ (Nat.le_of_ble_eq_true rfl) ((fun _ => rfl) _) rfl rfl rfl hl.1 rfl (Nat.le_of_ble_eq_true rfl) dX10_dive_7 ⟨Nat.le_of_ble_eq_true rfl, Nat.le_of_ble_eq_true rfl⟩) (fun H locs hI => ?_)
  obtain ⟨r_7, M_8, h_6, hf⟩ := ob2_some hf
  refine k_i C1 hI (q_V C0 C1 hI 0 (c_X10_ends l g X b H.size n M_5 r_4 h_6) w_1778 w_1780 w_73 w_132 w_1781 ⟨rfl, rfl⟩ hd_X10_ends ⟨Nat.le_of_ble_eq_true rfl, Nat.le_of_ble_eq_true rfl⟩ (Nat.le_of_ble_eq_true rfl) ((fun _ => rfl) _) rfl rfl rfl hl.1 rfl (Nat.le_of_ble_eq_true rfl) dX10_dive_10 ⟨Nat.le_of_ble_eq_true rfl, Nat.le_of_ble_eq_true rfl⟩) (fun H locs hI => ?_)
  exact ee_im C0 hI hr hlocks hf dX10_dive_13

def F_X10_tells (n : Nat) (x1 : Int32) (M : Mem) : Option (Int32 × Mem) :=
  lt' (up2 M 0 0 0) (fun M_1 => chk (inb x1 407) (some (M_1 1 (ix x1), M_1)))
theorem hd_X10_tells : yX10_tells.cls ≠ "java/lang/invoke/MethodHandle" ∧ yX10_tells.cls ≠ "java/lang/invoke/VarHandle" ∧ (parseMethodDescriptor yX10_tells.desc).map (fun d => d.parameters.length) = some 1 := ⟨by decide +kernel, by decide +kernel, by decide +kernel⟩
set_option maxHeartbeats 4000000 in
set_option maxRecDepth 100000 in
theorem c_X10_tells (l : Launch) (g : GG) (X : va_W) (b : Nat → Nat) (sz n : Nat) (M : Mem) (x1 : Int32) {r0 : Int32} {M' : Mem} (hf : F_X10_tells n x1 M = some (r0, M')) : Met l yX10_tells (.code yX10_tells cX10_tells 2 (some .int) :: LWg) (rmD 0 0 0) (va_Pc [.ref (b 0), .int x1] (PreP g X 10 (shM g b) b sz M)) (Qi g X 10 (shM g b) b sz r0 M') 0 0 (AA X b 10 sz) := by
  refine met_go (by decide +kernel) rfl (Nat.le_of_ble_eq_true rfl) ?_
  intro p e s m below meth c ls H locs C0 C1 hr hlocks hnm hsz hl hI
  subst hsz
  have hl : lv_has ls 2 [(0, .ref (b 0)), (1, .int x1)] := hl
  unfold F_X10_tells at hf
  refine lv_aload_n C0.1 C0.2.1 dX10_tells_0 rfl (lv_at hl 0 rfl) ?_
  refine lv_iconst (v := 0) C0.1 C0.2.1 dX10_tells_1 (by decide) ?_
  refine r_put (C := RX10) (T := TX10) (N9 := 20) (ci := 11) (fs := fM b) (ty := .int) C0 C1 hI iX10 tyX10 tyX10_ok nmX10 rfl 0 0 (Nat.le_of_ble_eq_true rfl) (by decide) (fun _ => rfl) rfl rfl rfl (by decide +kernel) ⟨rfl, rfl⟩ (Nat.le_of_ble_eq_true rfl) w_1691 dX10_tells_2 (fun H locs hI => ?_)
  obtain ⟨M_1, e_2⟩ : ∃ z : Mem, z = up2 M 0 0 0 := ⟨_, rfl⟩
  rw [← e_2] at hI
  have hf := lt_at e_2 hf
  refine lv_aload_n C0.1 C0.2.1 dX10_tells_5 rfl (lv_at hl 0 rfl) ?_
  refine r_get (C := RX10) (T := TX10) (N9 := 20) (ci := 11) C0 C1 hI iX10 rfl 0 5 (Nat.le_of_ble_eq_true rfl) (by decide) ((fun _ => rfl) _) rfl rfl w_1696 dX10_tells_6 ?_
  refine lv_iload_n C0.1 C0.2.1 dX10_tells_9 rfl (lv_at hl 1 rfl) ?_
  obtain ⟨h_3, hf⟩ := chk_some hf
  refine r_iald C0 C1 hI 1 (Nat.le_of_ble_eq_true rfl) (fun _ => rfl) h_3 dX10_tells_10 ?_
  exact ee_im C0 hI hr hlocks hf dX10_tells_11

def F_X10_tellsFrog (n : Nat) (x1 : Int32) (x2 : Int32) (M : Mem) : Option (Int32 × Mem) :=
  ob (F_X10_isFrog n x1 M) (fun r_2 => (if r_2 = 0 then lt' (up2 M 0 0 1) (fun M_4 => (if (M_4 0 0) = 0 then chk (inb (x2 + x1) 407) (some (M_4 1 (ix (x2 + x1)), M_4)) else some (0, M_4))) else lt' (up2 M 0 0 0) (fun M_8 => (if (M_8 0 0) = 0 then chk (inb (x2 + x1) 407) (some (M_8 1 (ix (x2 + x1)), M_8)) else some (0, M_8)))))
theorem hd_X10_tellsFrog : yX10_tellsFrog.cls ≠ "java/lang/invoke/MethodHandle" ∧ yX10_tellsFrog.cls ≠ "java/lang/invoke/VarHandle" ∧ (parseMethodDescriptor yX10_tellsFrog.desc).map (fun d => d.parameters.length) = some 2 := ⟨by decide +kernel, by decide +kernel, by decide +kernel⟩
set_option maxHeartbeats 4000000 in
set_option maxRecDepth 100000 in
theorem c_X10_tellsFrog (l : Launch) (g : GG) (X : va_W) (b : Nat → Nat) (sz n : Nat) (M : Mem) (x1 : Int32) (x2 : Int32) {r0 : Int32} {M' : Mem} (hf : F_X10_tellsFrog n x1 x2 M = some (r0, M')) : Met l yX10_tellsFrog (.code yX10_tellsFrog cX10_tellsFrog 3 (some .int) :: LWg) (rmD 2 0 0) (va_Pc [.ref (b 0), .int x1, .int x2] (PreP g X 10 (shM g b) b sz M)) (Qi g X 10 (shM g b) b sz r0 M') 0 0 (AA X b 10 sz) := by
  refine met_go (by decide +kernel) rfl (Nat.le_of_ble_eq_true rfl) ?_
  intro p e s m below meth c ls H locs C0 C1 hr hlocks hnm hsz hl hI
  subst hsz
  have hl : lv_has ls 3 [(0, .ref (b 0)), (1, .int x1), (2, .int x2)] := hl
  unfold F_X10_tellsFrog at hf
  refine lv_aload_n C0.1 C0.2.1 dX10_tellsFrog_0 rfl (lv_at hl 0 rfl) ?_
  refine lv_aload_n C0.1 C0.2.1 dX10_tellsFrog_1 rfl (lv_at hl 0 rfl) ?_
  refine lv_iload_n C0.1 C0.2.1 dX10_tellsFrog_2 rfl (lv_at hl 1 rfl) ?_
  obtain ⟨r_2, h_1, hf⟩ := ob_some hf
  refine k_i C1 hI (q_V C0 C1 hI 0 (c_X10_isFrog l g X b H.size n M x1 h_1) w_1798 w_1800 w_76 w_132 w_1801 ⟨rfl, rfl⟩ hd_X10_isFrog ⟨Nat.le_of_ble_eq_true rfl, Nat.le_of_ble_eq_true rfl⟩ (Nat.le_of_ble_eq_true rfl) ((fun _ => rfl) _) rfl rfl rfl hl.1 rfl (Nat.le_of_ble_eq_true rfl) dX10_tellsFrog_3 ⟨Nat.le_of_ble_eq_true rfl, Nat.le_of_ble_eq_true rfl⟩) (fun H locs hI => ?_)
  refine lv_if_eq (tgt := 13) C0.1 C0.2.1 dX10_tellsFrog_6 (by decide) (fun c_3 => ?_) (fun c_3 => ?_)
  · have hf := (if_pos c_3).symm.trans hf
    refine lv_iconst (v := 1) C0.1 C0.2.1 dX10_tellsFrog_13 (by decide) ?_
    refine r_put (C := RX10) (T := TX10) (N9 := 20) (ci := 11) (fs := fM b) (ty := .int) C0 C1 hI iX10 tyX10 tyX10_ok nmX10 rfl 0 0 (Nat.le_of_ble_eq_true rfl) (by decide) (fun _ => rfl) rfl rfl rfl (by decide +kernel) ⟨rfl, rfl⟩ (Nat.le_of_ble_eq_true rfl) w_1691 dX10_tellsFrog_14 (fun H locs hI => ?_)
    obtain ⟨M_4, e_5⟩ : ∃ z : Mem, z = up2 M 0 0 1 := ⟨_, rfl⟩
    rw [← e_5] at hI
    have hf := lt_at e_5 hf
    refine lv_aload_n C0.1 C0.2.1 dX10_tellsFrog_17 rfl (lv_at hl 0 rfl) ?_
    refine r_get (C := RX10) (T := TX10) (N9 := 20) (ci := 11) C0 C1 hI iX10 rfl 0 0 (Nat.le_of_ble_eq_true rfl) (by decide) ((fun _ => rfl) _) rfl rfl w_1691 dX10_tellsFrog_18 ?_
    refine lv_if_ne (tgt := 35) C0.1 C0.2.1 dX10_tellsFrog_21 (by decide) (fun c_6 => ?_) (fun c_6 => ?_)
    · have hf := (if_neg c_6).symm.trans hf
      refine lv_iconst (v := 0) C0.1 C0.2.1 dX10_tellsFrog_35 (by decide) ?_
      exact ee_im C0 hI hr hlocks hf dX10_tellsFrog_36
    · have hf := (if_pos c_6).symm.trans hf
      refine lv_aload_n C0.1 C0.2.1 dX10_tellsFrog_24 rfl (lv_at hl 0 rfl) ?_
      refine r_get (C := RX10) (T := TX10) (N9 := 20) (ci := 11) C0 C1 hI iX10 rfl 0 5 (Nat.le_of_ble_eq_true rfl) (by decide) ((fun _ => rfl) _) rfl rfl w_1696 dX10_tellsFrog_25 ?_
      refine lv_iload_n C0.1 C0.2.1 dX10_tellsFrog_28 rfl (lv_at hl 2 rfl) ?_
      refine lv_iload_n C0.1 C0.2.1 dX10_tellsFrog_29 rfl (lv_at hl 1 rfl) ?_
      refine lv_iadd C0.1 C0.2.1 dX10_tellsFrog_30 ?_
      obtain ⟨h_7, hf⟩ := chk_some hf
      refine r_iald C0 C1 hI 1 (Nat.le_of_ble_eq_true rfl) (fun _ => rfl) h_7 dX10_tellsFrog_31 ?_
      refine lv_goto (tgt := 36) C0.1 C0.2.1 dX10_tellsFrog_32 (by decide) ?_
      exact ee_im C0 hI hr hlocks hf dX10_tellsFrog_36
  · have hf := (if_neg c_3).symm.trans hf
    refine lv_iconst (v := 0) C0.1 C0.2.1 dX10_tellsFrog_9 (by decide) ?_
    refine lv_goto (tgt := 14) C0.1 C0.2.1 dX10_tellsFrog_10 (by decide) ?_
    refine r_put (C := RX10) (T := TX10) (N9 := 20) (ci := 11) (fs := fM b) (ty := .int) C0 C1 hI iX10 tyX10 tyX10_ok nmX10 rfl 0 0 (Nat.le_of_ble_eq_true rfl) (by decide) (fun _ => rfl) rfl rfl rfl (by decide +kernel) ⟨rfl, rfl⟩ (Nat.le_of_ble_eq_true rfl) w_1691 dX10_tellsFrog_14 (fun H locs hI => ?_)
    obtain ⟨M_8, e_9⟩ : ∃ z : Mem, z = up2 M 0 0 0 := ⟨_, rfl⟩
    rw [← e_9] at hI
    have hf := lt_at e_9 hf
    refine lv_aload_n C0.1 C0.2.1 dX10_tellsFrog_17 rfl (lv_at hl 0 rfl) ?_
    refine r_get (C := RX10) (T := TX10) (N9 := 20) (ci := 11) C0 C1 hI iX10 rfl 0 0 (Nat.le_of_ble_eq_true rfl) (by decide) ((fun _ => rfl) _) rfl rfl w_1691 dX10_tellsFrog_18 ?_
    refine lv_if_ne (tgt := 35) C0.1 C0.2.1 dX10_tellsFrog_21 (by decide) (fun c_10 => ?_) (fun c_10 => ?_)
    · have hf := (if_neg c_10).symm.trans hf
      refine lv_iconst (v := 0) C0.1 C0.2.1 dX10_tellsFrog_35 (by decide) ?_
      exact ee_im C0 hI hr hlocks hf dX10_tellsFrog_36
    · have hf := (if_pos c_10).symm.trans hf
      refine lv_aload_n C0.1 C0.2.1 dX10_tellsFrog_24 rfl (lv_at hl 0 rfl) ?_
      refine r_get (C := RX10) (T := TX10) (N9 := 20) (ci := 11) C0 C1 hI iX10 rfl 0 5 (Nat.le_of_ble_eq_true rfl) (by decide) ((fun _ => rfl) _) rfl rfl w_1696 dX10_tellsFrog_25 ?_
      refine lv_iload_n C0.1 C0.2.1 dX10_tellsFrog_28 rfl (lv_at hl 2 rfl) ?_
      refine lv_iload_n C0.1 C0.2.1 dX10_tellsFrog_29 rfl (lv_at hl 1 rfl) ?_
      refine lv_iadd C0.1 C0.2.1 dX10_tellsFrog_30 ?_
      obtain ⟨h_11, hf⟩ := chk_some hf
      refine r_iald C0 C1 hI 1 (Nat.le_of_ble_eq_true rfl) (fun _ => rfl) h_11 dX10_tellsFrog_31 ?_
      refine lv_goto (tgt := 36) C0.1 C0.2.1 dX10_tellsFrog_32 (by decide) ?_
      exact ee_im C0 hI hr hlocks hf dX10_tellsFrog_36

def F_X10_frogCount (n : Nat) (M : Mem) : Option (Int32 × Mem) :=
  ob2 (F_X10_tells n 0 M) (fun r_2 M_3 => some (r_2, M_3))
theorem hd_X10_frogCount : yX10_frogCount.cls ≠ "java/lang/invoke/MethodHandle" ∧ yX10_frogCount.cls ≠ "java/lang/invoke/VarHandle" ∧ (parseMethodDescriptor yX10_frogCount.desc).map (fun d => d.parameters.length) = some 0 := ⟨by decide +kernel, by decide +kernel, by decide +kernel⟩
set_option maxHeartbeats 4000000 in
set_option maxRecDepth 100000 in
theorem c_X10_frogCount (l : Launch) (g : GG) (X : va_W) (b : Nat → Nat) (sz n : Nat) (M : Mem) {r0 : Int32} {M' : Mem} (hf : F_X10_frogCount n M = some (r0, M')) : Met l yX10_frogCount (.code yX10_frogCount cX10_frogCount 1 (some .int) :: LWg) (rmD 1 0 0) (va_Pc [.ref (b 0)] (PreP g X 10 (shM g b) b sz M)) (Qi g X 10 (shM g b) b sz r0 M') 0 0 (AA X b 10 sz) := by
  refine met_go (by decide +kernel) rfl (Nat.le_of_ble_eq_true rfl) ?_
  intro p e s m below meth c ls H locs C0 C1 hr hlocks hnm hsz hl hI
  subst hsz
  have hl : lv_has ls 1 [(0, .ref (b 0))] := hl
  unfold F_X10_frogCount at hf
  refine lv_aload_n C0.1 C0.2.1 dX10_frogCount_0 rfl (lv_at hl 0 rfl) ?_
  refine lv_iconst (v := 0) C0.1 C0.2.1 dX10_frogCount_1 (by decide) ?_
  obtain ⟨r_2, M_3, h_1, hf⟩ := ob2_some hf
  refine k_i C1 hI (q_V C0 C1 hI 0 (c_X10_tells l g X b H.size n M 0 h_1) w_1826 w_1828 w_81 w_132 w_1829 ⟨rfl, rfl⟩ hd_X10_tells ⟨Nat.le_of_ble_eq_true rfl, Nat.le_of_ble_eq_true rfl⟩ (Nat.le_of_ble_eq_true rfl) ((fun _ => rfl) _) rfl rfl rfl hl.1 rfl (Nat.le_of_ble_eq_true rfl) dX10_frogCount_2 ⟨Nat.le_of_ble_eq_true rfl, Nat.le_of_ble_eq_true rfl⟩) (fun H locs hI => ?_)
  exact ee_im C0 hI hr hlocks hf dX10_frogCount_5

def F_X10_pondOf (n : Nat) (x1 : Int32) (M : Mem) : Option (Int32 × Mem) :=
  ob2 (F_X10_tellsFrog n x1 5 M) (fun r_2 M_3 => some (r_2, M_3))
theorem hd_X10_pondOf : yX10_pondOf.cls ≠ "java/lang/invoke/MethodHandle" ∧ yX10_pondOf.cls ≠ "java/lang/invoke/VarHandle" ∧ (parseMethodDescriptor yX10_pondOf.desc).map (fun d => d.parameters.length) = some 1 := ⟨by decide +kernel, by decide +kernel, by decide +kernel⟩
set_option maxHeartbeats 4000000 in
set_option maxRecDepth 100000 in
theorem c_X10_pondOf (l : Launch) (g : GG) (X : va_W) (b : Nat → Nat) (sz n : Nat) (M : Mem) (x1 : Int32) {r0 : Int32} {M' : Mem} (hf : F_X10_pondOf n x1 M = some (r0, M')) : Met l yX10_pondOf (.code yX10_pondOf cX10_pondOf 2 (some .int) :: LWg) (rmD 3 0 0) (va_Pc [.ref (b 0), .int x1] (PreP g X 10 (shM g b) b sz M)) (Qi g X 10 (shM g b) b sz r0 M') 0 0 (AA X b 10 sz) := by
  refine met_go (by decide +kernel) rfl (Nat.le_of_ble_eq_true rfl) ?_
  intro p e s m below meth c ls H locs C0 C1 hr hlocks hnm hsz hl hI
  subst hsz
  have hl : lv_has ls 2 [(0, .ref (b 0)), (1, .int x1)] := hl
  unfold F_X10_pondOf at hf
  refine lv_aload_n C0.1 C0.2.1 dX10_pondOf_0 rfl (lv_at hl 0 rfl) ?_
  refine lv_iload_n C0.1 C0.2.1 dX10_pondOf_1 rfl (lv_at hl 1 rfl) ?_
  refine lv_iconst (v := 5) C0.1 C0.2.1 dX10_pondOf_2 (by decide) ?_
  obtain ⟨r_2, M_3, h_1, hf⟩ := ob2_some hf
  refine k_i C1 hI (q_V C0 C1 hI 0 (c_X10_tellsFrog l g X b H.size n M x1 5 h_1) w_1834 w_1836 w_82 w_132 w_1837 ⟨rfl, rfl⟩ hd_X10_tellsFrog ⟨Nat.le_of_ble_eq_true rfl, Nat.le_of_ble_eq_true rfl⟩ (Nat.le_of_ble_eq_true rfl) ((fun _ => rfl) _) rfl rfl rfl hl.1 rfl (Nat.le_of_ble_eq_true rfl) dX10_pondOf_3 ⟨Nat.le_of_ble_eq_true rfl, Nat.le_of_ble_eq_true rfl⟩) (fun H locs hI => ?_)
  exact ee_im C0 hI hr hlocks hf dX10_pondOf_6

def F_X10_weightOf (n : Nat) (x1 : Int32) (M : Mem) : Option (Int32 × Mem) :=
  ob2 (F_X10_tellsFrog n x1 17 M) (fun r_2 M_3 => some (r_2, M_3))
theorem hd_X10_weightOf : yX10_weightOf.cls ≠ "java/lang/invoke/MethodHandle" ∧ yX10_weightOf.cls ≠ "java/lang/invoke/VarHandle" ∧ (parseMethodDescriptor yX10_weightOf.desc).map (fun d => d.parameters.length) = some 1 := ⟨by decide +kernel, by decide +kernel, by decide +kernel⟩
set_option maxHeartbeats 4000000 in
set_option maxRecDepth 100000 in
theorem c_X10_weightOf (l : Launch) (g : GG) (X : va_W) (b : Nat → Nat) (sz n : Nat) (M : Mem) (x1 : Int32) {r0 : Int32} {M' : Mem} (hf : F_X10_weightOf n x1 M = some (r0, M')) : Met l yX10_weightOf (.code yX10_weightOf cX10_weightOf 2 (some .int) :: LWg) (rmD 3 0 0) (va_Pc [.ref (b 0), .int x1] (PreP g X 10 (shM g b) b sz M)) (Qi g X 10 (shM g b) b sz r0 M') 0 0 (AA X b 10 sz) := by
  refine met_go (by decide +kernel) rfl (Nat.le_of_ble_eq_true rfl) ?_
  intro p e s m below meth c ls H locs C0 C1 hr hlocks hnm hsz hl hI
  subst hsz
  have hl : lv_has ls 2 [(0, .ref (b 0)), (1, .int x1)] := hl
  unfold F_X10_weightOf at hf
  refine lv_aload_n C0.1 C0.2.1 dX10_weightOf_0 rfl (lv_at hl 0 rfl) ?_
  refine lv_iload_n C0.1 C0.2.1 dX10_weightOf_1 rfl (lv_at hl 1 rfl) ?_
  refine lv_bipush (v := 17) C0.1 C0.2.1 dX10_weightOf_2 (by decide) ?_
  obtain ⟨r_2, M_3, h_1, hf⟩ := ob2_some hf
  refine k_i C1 hI (q_V C0 C1 hI 0 (c_X10_tellsFrog l g X b H.size n M x1 17 h_1) w_1834 w_1836 w_82 w_132 w_1837 ⟨rfl, rfl⟩ hd_X10_tellsFrog ⟨Nat.le_of_ble_eq_true rfl, Nat.le_of_ble_eq_true rfl⟩ (Nat.le_of_ble_eq_true rfl) ((fun _ => rfl) _) rfl rfl rfl hl.1 rfl (Nat.le_of_ble_eq_true rfl) dX10_weightOf_4 ⟨Nat.le_of_ble_eq_true rfl, Nat.le_of_ble_eq_true rfl⟩) (fun H locs hI => ?_)
  exact ee_im C0 hI hr hlocks hf dX10_weightOf_7

def F_X10_padOf (n : Nat) (x1 : Int32) (M : Mem) : Option (Int32 × Mem) :=
  ob (F_X10_isFrog n x1 M) (fun r_2 => (if r_2 = 0 then lt' (up2 M 0 0 1) (fun M_15 => (if (M_15 0 0) = 0 then chk (inb (29 + x1) 407) (some ((M_15 1 (ix (29 + x1))) - 1, M_15)) else some (0, M_15))) else ob (F_X10_isOn n x1 M) (fun r_5 => (if r_5 = 0 then lt' (up2 M 0 0 2) (fun M_7 => (if (M_7 0 0) = 0 then chk (inb (29 + x1) 407) (some ((M_7 1 (ix (29 + x1))) - 1, M_7)) else some (0, M_7))) else lt' (up2 M 0 0 0) (fun M_11 => (if (M_11 0 0) = 0 then chk (inb (29 + x1) 407) (some ((M_11 1 (ix (29 + x1))) - 1, M_11)) else some (0, M_11)))))))
theorem hd_X10_padOf : yX10_padOf.cls ≠ "java/lang/invoke/MethodHandle" ∧ yX10_padOf.cls ≠ "java/lang/invoke/VarHandle" ∧ (parseMethodDescriptor yX10_padOf.desc).map (fun d => d.parameters.length) = some 1 := ⟨by decide +kernel, by decide +kernel, by decide +kernel⟩
set_option maxHeartbeats 4000000 in
set_option maxRecDepth 100000 in
theorem c_X10_padOf (l : Launch) (g : GG) (X : va_W) (b : Nat → Nat) (sz n : Nat) (M : Mem) (x1 : Int32) {r0 : Int32} {M' : Mem} (hf : F_X10_padOf n x1 M = some (r0, M')) : Met l yX10_padOf (.code yX10_padOf cX10_padOf 2 (some .int) :: LWg) (rmD 2 0 0) (va_Pc [.ref (b 0), .int x1] (PreP g X 10 (shM g b) b sz M)) (Qi g X 10 (shM g b) b sz r0 M') 0 0 (AA X b 10 sz) := by
  refine met_go (by decide +kernel) rfl (Nat.le_of_ble_eq_true rfl) ?_
  intro p e s m below meth c ls H locs C0 C1 hr hlocks hnm hsz hl hI
  subst hsz
  have hl : lv_has ls 2 [(0, .ref (b 0)), (1, .int x1)] := hl
  unfold F_X10_padOf at hf
  refine lv_aload_n C0.1 C0.2.1 dX10_padOf_0 rfl (lv_at hl 0 rfl) ?_
  refine lv_aload_n C0.1 C0.2.1 dX10_padOf_1 rfl (lv_at hl 0 rfl) ?_
  refine lv_iload_n C0.1 C0.2.1 dX10_padOf_2 rfl (lv_at hl 1 rfl) ?_
  obtain ⟨r_2, h_1, hf⟩ := ob_some hf
  refine k_i C1 hI (q_V C0 C1 hI 0 (c_X10_isFrog l g X b H.size n M x1 h_1) w_1798 w_1800 w_76 w_132 w_1801 ⟨rfl, rfl⟩ hd_X10_isFrog ⟨Nat.le_of_ble_eq_true rfl, Nat.le_of_ble_eq_true rfl⟩ (Nat.le_of_ble_eq_true rfl) ((fun _ => rfl) _) rfl rfl rfl hl.1 rfl (Nat.le_of_ble_eq_true rfl) dX10_padOf_3 ⟨Nat.le_of_ble_eq_true rfl, Nat.le_of_ble_eq_true rfl⟩) (fun H locs hI => ?_)
  refine lv_if_ne (tgt := 13) C0.1 C0.2.1 dX10_padOf_6 (by decide) (fun c_3 => ?_) (fun c_3 => ?_)
  · have hf := (if_neg c_3).symm.trans hf
    refine lv_aload_n C0.1 C0.2.1 dX10_padOf_13 rfl (lv_at hl 0 rfl) ?_
    refine lv_iload_n C0.1 C0.2.1 dX10_padOf_14 rfl (lv_at hl 1 rfl) ?_
    obtain ⟨r_5, h_4, hf⟩ := ob_some hf
    refine k_i C1 hI (q_V C0 C1 hI 0 (c_X10_isOn l g X b H.size n M x1 h_4) w_1818 w_1820 w_80 w_132 w_1821 ⟨rfl, rfl⟩ hd_X10_isOn ⟨Nat.le_of_ble_eq_true rfl, Nat.le_of_ble_eq_true rfl⟩ (Nat.le_of_ble_eq_true rfl) ((fun _ => rfl) _) rfl rfl rfl hl.1 rfl (Nat.le_of_ble_eq_true rfl) dX10_padOf_15 ⟨Nat.le_of_ble_eq_true rfl, Nat.le_of_ble_eq_true rfl⟩) (fun H locs hI => ?_)
    refine lv_if_eq (tgt := 25) C0.1 C0.2.1 dX10_padOf_18 (by decide) (fun c_6 => ?_) (fun c_6 => ?_)
    · have hf := (if_pos c_6).symm.trans hf
      refine lv_iconst (v := 2) C0.1 C0.2.1 dX10_padOf_25 (by decide) ?_
      refine r_put (C := RX10) (T := TX10) (N9 := 20) (ci := 11) (fs := fM b) (ty := .int) C0 C1 hI iX10 tyX10 tyX10_ok nmX10 rfl 0 0 (Nat.le_of_ble_eq_true rfl) (by decide) (fun _ => rfl) rfl rfl rfl (by decide +kernel) ⟨rfl, rfl⟩ (Nat.le_of_ble_eq_true rfl) w_1691 dX10_padOf_26 (fun H locs hI => ?_)
      obtain ⟨M_7, e_8⟩ : ∃ z : Mem, z = up2 M 0 0 2 := ⟨_, rfl⟩
      rw [← e_8] at hI
      have hf := lt_at e_8 hf
      refine lv_aload_n C0.1 C0.2.1 dX10_padOf_29 rfl (lv_at hl 0 rfl) ?_
      refine r_get (C := RX10) (T := TX10) (N9 := 20) (ci := 11) C0 C1 hI iX10 rfl 0 0 (Nat.le_of_ble_eq_true rfl) (by decide) ((fun _ => rfl) _) rfl rfl w_1691 dX10_padOf_30 ?_
      refine lv_if_ne (tgt := 50) C0.1 C0.2.1 dX10_padOf_33 (by decide) (fun c_9 => ?_) (fun c_9 => ?_)
      · have hf := (if_neg c_9).symm.trans hf
        refine lv_iconst (v := 0) C0.1 C0.2.1 dX10_padOf_50 (by decide) ?_
        exact ee_im C0 hI hr hlocks hf dX10_padOf_51
      · have hf := (if_pos c_9).symm.trans hf
        refine lv_aload_n C0.1 C0.2.1 dX10_padOf_36 rfl (lv_at hl 0 rfl) ?_
        refine r_get (C := RX10) (T := TX10) (N9 := 20) (ci := 11) C0 C1 hI iX10 rfl 0 5 (Nat.le_of_ble_eq_true rfl) (by decide) ((fun _ => rfl) _) rfl rfl w_1696 dX10_padOf_37 ?_
        refine lv_bipush (v := 29) C0.1 C0.2.1 dX10_padOf_40 (by decide) ?_
        refine lv_iload_n C0.1 C0.2.1 dX10_padOf_42 rfl (lv_at hl 1 rfl) ?_
        refine lv_iadd C0.1 C0.2.1 dX10_padOf_43 ?_
        obtain ⟨h_10, hf⟩ := chk_some hf
        refine r_iald C0 C1 hI 1 (Nat.le_of_ble_eq_true rfl) (fun _ => rfl) h_10 dX10_padOf_44 ?_
        refine lv_iconst (v := 1) C0.1 C0.2.1 dX10_padOf_45 (by decide) ?_
        refine lv_isub C0.1 C0.2.1 dX10_padOf_46 ?_
        refine lv_goto (tgt := 51) C0.1 C0.2.1 dX10_padOf_47 (by decide) ?_
        exact ee_im C0 hI hr hlocks hf dX10_padOf_51
    · have hf := (if_neg c_6).symm.trans hf
      refine lv_iconst (v := 0) C0.1 C0.2.1 dX10_padOf_21 (by decide) ?_
      refine lv_goto (tgt := 26) C0.1 C0.2.1 dX10_padOf_22 (by decide) ?_
      refine r_put (C := RX10) (T := TX10) (N9 := 20) (ci := 11) (fs := fM b) (ty := .int) C0 C1 hI iX10 tyX10 tyX10_ok nmX10 rfl 0 0 (Nat.le_of_ble_eq_true rfl) (by decide) (fun _ => rfl) rfl rfl rfl (by decide +kernel) ⟨rfl, rfl⟩ (Nat.le_of_ble_eq_true rfl) w_1691 dX10_padOf_26 (fun H locs hI => ?_)
      obtain ⟨M_11, e_12⟩ : ∃ z : Mem, z = up2 M 0 0 0 := ⟨_, rfl⟩
      rw [← e_12] at hI
      have hf := lt_at e_12 hf
      refine lv_aload_n C0.1 C0.2.1 dX10_padOf_29 rfl (lv_at hl 0 rfl) ?_
      refine r_get (C := RX10) (T := TX10) (N9 := 20) (ci := 11) C0 C1 hI iX10 rfl 0 0 (Nat.le_of_ble_eq_true rfl) (by decide) ((fun _ => rfl) _) rfl rfl w_1691 dX10_padOf_30 ?_
      refine lv_if_ne (tgt := 50) C0.1 C0.2.1 dX10_padOf_33 (by decide) (fun c_13 => ?_) (fun c_13 => ?_)
      · have hf := (if_neg c_13).symm.trans hf
        refine lv_iconst (v := 0) C0.1 C0.2.1 dX10_padOf_50 (by decide) ?_
        exact ee_im C0 hI hr hlocks hf dX10_padOf_51
      · have hf := (if_pos c_13).symm.trans hf
        refine lv_aload_n C0.1 C0.2.1 dX10_padOf_36 rfl (lv_at hl 0 rfl) ?_
        refine r_get (C := RX10) (T := TX10) (N9 := 20) (ci := 11) C0 C1 hI iX10 rfl 0 5 (Nat.le_of_ble_eq_true rfl) (by decide) ((fun _ => rfl) _) rfl rfl w_1696 dX10_padOf_37 ?_
        refine lv_bipush (v := 29) C0.1 C0.2.1 dX10_padOf_40 (by decide) ?_
        refine lv_iload_n C0.1 C0.2.1 dX10_padOf_42 rfl (lv_at hl 1 rfl) ?_
        refine lv_iadd C0.1 C0.2.1 dX10_padOf_43 ?_
        obtain ⟨h_14, hf⟩ := chk_some hf
        refine r_iald C0 C1 hI 1 (Nat.le_of_ble_eq_true rfl) (fun _ => rfl) h_14 dX10_padOf_44 ?_
        refine lv_iconst (v := 1) C0.1 C0.2.1 dX10_padOf_45 (by decide) ?_
        refine lv_isub C0.1 C0.2.1 dX10_padOf_46 ?_
        refine lv_goto (tgt := 51) C0.1 C0.2.1 dX10_padOf_47 (by decide) ?_
        exact ee_im C0 hI hr hlocks hf dX10_padOf_51
  · have hf := (if_pos c_3).symm.trans hf
    refine lv_iconst (v := 1) C0.1 C0.2.1 dX10_padOf_9 (by decide) ?_
    refine lv_goto (tgt := 26) C0.1 C0.2.1 dX10_padOf_10 (by decide) ?_
    refine r_put (C := RX10) (T := TX10) (N9 := 20) (ci := 11) (fs := fM b) (ty := .int) C0 C1 hI iX10 tyX10 tyX10_ok nmX10 rfl 0 0 (Nat.le_of_ble_eq_true rfl) (by decide) (fun _ => rfl) rfl rfl rfl (by decide +kernel) ⟨rfl, rfl⟩ (Nat.le_of_ble_eq_true rfl) w_1691 dX10_padOf_26 (fun H locs hI => ?_)
    obtain ⟨M_15, e_16⟩ : ∃ z : Mem, z = up2 M 0 0 1 := ⟨_, rfl⟩
    rw [← e_16] at hI
    have hf := lt_at e_16 hf
    refine lv_aload_n C0.1 C0.2.1 dX10_padOf_29 rfl (lv_at hl 0 rfl) ?_
    refine r_get (C := RX10) (T := TX10) (N9 := 20) (ci := 11) C0 C1 hI iX10 rfl 0 0 (Nat.le_of_ble_eq_true rfl) (by decide) ((fun _ => rfl) _) rfl rfl w_1691 dX10_padOf_30 ?_
    refine lv_if_ne (tgt := 50) C0.1 C0.2.1 dX10_padOf_33 (by decide) (fun c_17 => ?_) (fun c_17 => ?_)
    · have hf := (if_neg c_17).symm.trans hf
      refine lv_iconst (v := 0) C0.1 C0.2.1 dX10_padOf_50 (by decide) ?_
      exact ee_im C0 hI hr hlocks hf dX10_padOf_51
    · have hf := (if_pos c_17).symm.trans hf
      refine lv_aload_n C0.1 C0.2.1 dX10_padOf_36 rfl (lv_at hl 0 rfl) ?_
      refine r_get (C := RX10) (T := TX10) (N9 := 20) (ci := 11) C0 C1 hI iX10 rfl 0 5 (Nat.le_of_ble_eq_true rfl) (by decide) ((fun _ => rfl) _) rfl rfl w_1696 dX10_padOf_37 ?_
      refine lv_bipush (v := 29) C0.1 C0.2.1 dX10_padOf_40 (by decide) ?_
      refine lv_iload_n C0.1 C0.2.1 dX10_padOf_42 rfl (lv_at hl 1 rfl) ?_
      refine lv_iadd C0.1 C0.2.1 dX10_padOf_43 ?_
      obtain ⟨h_18, hf⟩ := chk_some hf
      refine r_iald C0 C1 hI 1 (Nat.le_of_ble_eq_true rfl) (fun _ => rfl) h_18 dX10_padOf_44 ?_
      refine lv_iconst (v := 1) C0.1 C0.2.1 dX10_padOf_45 (by decide) ?_
      refine lv_isub C0.1 C0.2.1 dX10_padOf_46 ?_
      refine lv_goto (tgt := 51) C0.1 C0.2.1 dX10_padOf_47 (by decide) ?_
      exact ee_im C0 hI hr hlocks hf dX10_padOf_51

def F_X10_padCount (n : Nat) (M : Mem) : Option (Int32 × Mem) :=
  ob2 (F_X10_tells n 1 M) (fun r_2 M_3 => some (r_2, M_3))
theorem hd_X10_padCount : yX10_padCount.cls ≠ "java/lang/invoke/MethodHandle" ∧ yX10_padCount.cls ≠ "java/lang/invoke/VarHandle" ∧ (parseMethodDescriptor yX10_padCount.desc).map (fun d => d.parameters.length) = some 0 := ⟨by decide +kernel, by decide +kernel, by decide +kernel⟩
set_option maxHeartbeats 4000000 in
set_option maxRecDepth 100000 in
theorem c_X10_padCount (l : Launch) (g : GG) (X : va_W) (b : Nat → Nat) (sz n : Nat) (M : Mem) {r0 : Int32} {M' : Mem} (hf : F_X10_padCount n M = some (r0, M')) : Met l yX10_padCount (.code yX10_padCount cX10_padCount 1 (some .int) :: LWg) (rmD 1 0 0) (va_Pc [.ref (b 0)] (PreP g X 10 (shM g b) b sz M)) (Qi g X 10 (shM g b) b sz r0 M') 0 0 (AA X b 10 sz) := by
  refine met_go (by decide +kernel) rfl (Nat.le_of_ble_eq_true rfl) ?_
  intro p e s m below meth c ls H locs C0 C1 hr hlocks hnm hsz hl hI
  subst hsz
  have hl : lv_has ls 1 [(0, .ref (b 0))] := hl
  unfold F_X10_padCount at hf
  refine lv_aload_n C0.1 C0.2.1 dX10_padCount_0 rfl (lv_at hl 0 rfl) ?_
  refine lv_iconst (v := 1) C0.1 C0.2.1 dX10_padCount_1 (by decide) ?_
  obtain ⟨r_2, M_3, h_1, hf⟩ := ob2_some hf
  refine k_i C1 hI (q_V C0 C1 hI 0 (c_X10_tells l g X b H.size n M 1 h_1) w_1826 w_1828 w_81 w_132 w_1829 ⟨rfl, rfl⟩ hd_X10_tells ⟨Nat.le_of_ble_eq_true rfl, Nat.le_of_ble_eq_true rfl⟩ (Nat.le_of_ble_eq_true rfl) ((fun _ => rfl) _) rfl rfl rfl hl.1 rfl (Nat.le_of_ble_eq_true rfl) dX10_padCount_2 ⟨Nat.le_of_ble_eq_true rfl, Nat.le_of_ble_eq_true rfl⟩) (fun H locs hI => ?_)
  exact ee_im C0 hI hr hlocks hf dX10_padCount_5

def F_X10_frogsOn (n : Nat) (x1 : Int32) (M : Mem) : Option (Int32 × Mem) :=
  ob (F_X10_isPad n x1 M) (fun r_2 => (if r_2 = 0 then lt' (up2 M 0 0 1) (fun M_4 => (if (M_4 0 0) = 0 then ob (F_X10_on n x1 M_4) (fun r_8 => some (r_8, M_4)) else some (0, M_4))) else lt' (up2 M 0 0 0) (fun M_9 => (if (M_9 0 0) = 0 then ob (F_X10_on n x1 M_9) (fun r_13 => some (r_13, M_9)) else some (0, M_9)))))
theorem hd_X10_frogsOn : yX10_frogsOn.cls ≠ "java/lang/invoke/MethodHandle" ∧ yX10_frogsOn.cls ≠ "java/lang/invoke/VarHandle" ∧ (parseMethodDescriptor yX10_frogsOn.desc).map (fun d => d.parameters.length) = some 1 := ⟨by decide +kernel, by decide +kernel, by decide +kernel⟩
set_option maxHeartbeats 4000000 in
set_option maxRecDepth 100000 in
theorem c_X10_frogsOn (l : Launch) (g : GG) (X : va_W) (b : Nat → Nat) (sz n : Nat) (M : Mem) (x1 : Int32) {r0 : Int32} {M' : Mem} (hf : F_X10_frogsOn n x1 M = some (r0, M')) : Met l yX10_frogsOn (.code yX10_frogsOn cX10_frogsOn 2 (some .int) :: LWg) (rmD 2 0 0) (va_Pc [.ref (b 0), .int x1] (PreP g X 10 (shM g b) b sz M)) (Qi g X 10 (shM g b) b sz r0 M') 0 0 (AA X b 10 sz) := by
  refine met_go (by decide +kernel) rfl (Nat.le_of_ble_eq_true rfl) ?_
  intro p e s m below meth c ls H locs C0 C1 hr hlocks hnm hsz hl hI
  subst hsz
  have hl : lv_has ls 2 [(0, .ref (b 0)), (1, .int x1)] := hl
  unfold F_X10_frogsOn at hf
  refine lv_aload_n C0.1 C0.2.1 dX10_frogsOn_0 rfl (lv_at hl 0 rfl) ?_
  refine lv_aload_n C0.1 C0.2.1 dX10_frogsOn_1 rfl (lv_at hl 0 rfl) ?_
  refine lv_iload_n C0.1 C0.2.1 dX10_frogsOn_2 rfl (lv_at hl 1 rfl) ?_
  obtain ⟨r_2, h_1, hf⟩ := ob_some hf
  refine k_i C1 hI (q_V C0 C1 hI 0 (c_X10_isPad l g X b H.size n M x1 h_1) w_1802 w_1804 w_77 w_132 w_1805 ⟨rfl, rfl⟩ hd_X10_isPad ⟨Nat.le_of_ble_eq_true rfl, Nat.le_of_ble_eq_true rfl⟩ (Nat.le_of_ble_eq_true rfl) ((fun _ => rfl) _) rfl rfl rfl hl.1 rfl (Nat.le_of_ble_eq_true rfl) dX10_frogsOn_3 ⟨Nat.le_of_ble_eq_true rfl, Nat.le_of_ble_eq_true rfl⟩) (fun H locs hI => ?_)
  refine lv_if_eq (tgt := 13) C0.1 C0.2.1 dX10_frogsOn_6 (by decide) (fun c_3 => ?_) (fun c_3 => ?_)
  · have hf := (if_pos c_3).symm.trans hf
    refine lv_iconst (v := 1) C0.1 C0.2.1 dX10_frogsOn_13 (by decide) ?_
    refine r_put (C := RX10) (T := TX10) (N9 := 20) (ci := 11) (fs := fM b) (ty := .int) C0 C1 hI iX10 tyX10 tyX10_ok nmX10 rfl 0 0 (Nat.le_of_ble_eq_true rfl) (by decide) (fun _ => rfl) rfl rfl rfl (by decide +kernel) ⟨rfl, rfl⟩ (Nat.le_of_ble_eq_true rfl) w_1691 dX10_frogsOn_14 (fun H locs hI => ?_)
    obtain ⟨M_4, e_5⟩ : ∃ z : Mem, z = up2 M 0 0 1 := ⟨_, rfl⟩
    rw [← e_5] at hI
    have hf := lt_at e_5 hf
    refine lv_aload_n C0.1 C0.2.1 dX10_frogsOn_17 rfl (lv_at hl 0 rfl) ?_
    refine r_get (C := RX10) (T := TX10) (N9 := 20) (ci := 11) C0 C1 hI iX10 rfl 0 0 (Nat.le_of_ble_eq_true rfl) (by decide) ((fun _ => rfl) _) rfl rfl w_1691 dX10_frogsOn_18 ?_
    refine lv_if_ne (tgt := 32) C0.1 C0.2.1 dX10_frogsOn_21 (by decide) (fun c_6 => ?_) (fun c_6 => ?_)
    · have hf := (if_neg c_6).symm.trans hf
      refine lv_iconst (v := 0) C0.1 C0.2.1 dX10_frogsOn_32 (by decide) ?_
      exact ee_im C0 hI hr hlocks hf dX10_frogsOn_33
    · have hf := (if_pos c_6).symm.trans hf
      refine lv_aload_n C0.1 C0.2.1 dX10_frogsOn_24 rfl (lv_at hl 0 rfl) ?_
      refine lv_iload_n C0.1 C0.2.1 dX10_frogsOn_25 rfl (lv_at hl 1 rfl) ?_
      obtain ⟨r_8, h_7, hf⟩ := ob_some hf
      refine k_i C1 hI (q_V C0 C1 hI 0 (c_X10_on l g X b H.size n M_4 x1 h_7) w_1806 w_1808 w_78 w_132 w_1809 ⟨rfl, rfl⟩ hd_X10_on ⟨Nat.le_of_ble_eq_true rfl, Nat.le_of_ble_eq_true rfl⟩ (Nat.le_of_ble_eq_true rfl) ((fun _ => rfl) _) rfl rfl rfl hl.1 rfl (Nat.le_of_ble_eq_true rfl) dX10_frogsOn_26 ⟨Nat.le_of_ble_eq_true rfl, Nat.le_of_ble_eq_true rfl⟩) (fun H locs hI => ?_)
      refine lv_goto (tgt := 33) C0.1 C0.2.1 dX10_frogsOn_29 (by decide) ?_
      exact ee_im C0 hI hr hlocks hf dX10_frogsOn_33
  · have hf := (if_neg c_3).symm.trans hf
    refine lv_iconst (v := 0) C0.1 C0.2.1 dX10_frogsOn_9 (by decide) ?_
    refine lv_goto (tgt := 14) C0.1 C0.2.1 dX10_frogsOn_10 (by decide) ?_
    refine r_put (C := RX10) (T := TX10) (N9 := 20) (ci := 11) (fs := fM b) (ty := .int) C0 C1 hI iX10 tyX10 tyX10_ok nmX10 rfl 0 0 (Nat.le_of_ble_eq_true rfl) (by decide) (fun _ => rfl) rfl rfl rfl (by decide +kernel) ⟨rfl, rfl⟩ (Nat.le_of_ble_eq_true rfl) w_1691 dX10_frogsOn_14 (fun H locs hI => ?_)
    obtain ⟨M_9, e_10⟩ : ∃ z : Mem, z = up2 M 0 0 0 := ⟨_, rfl⟩
    rw [← e_10] at hI
    have hf := lt_at e_10 hf
    refine lv_aload_n C0.1 C0.2.1 dX10_frogsOn_17 rfl (lv_at hl 0 rfl) ?_
    refine r_get (C := RX10) (T := TX10) (N9 := 20) (ci := 11) C0 C1 hI iX10 rfl 0 0 (Nat.le_of_ble_eq_true rfl) (by decide) ((fun _ => rfl) _) rfl rfl w_1691 dX10_frogsOn_18 ?_
    refine lv_if_ne (tgt := 32) C0.1 C0.2.1 dX10_frogsOn_21 (by decide) (fun c_11 => ?_) (fun c_11 => ?_)
    · have hf := (if_neg c_11).symm.trans hf
      refine lv_iconst (v := 0) C0.1 C0.2.1 dX10_frogsOn_32 (by decide) ?_
      exact ee_im C0 hI hr hlocks hf dX10_frogsOn_33
    · have hf := (if_pos c_11).symm.trans hf
      refine lv_aload_n C0.1 C0.2.1 dX10_frogsOn_24 rfl (lv_at hl 0 rfl) ?_
      refine lv_iload_n C0.1 C0.2.1 dX10_frogsOn_25 rfl (lv_at hl 1 rfl) ?_
      obtain ⟨r_13, h_12, hf⟩ := ob_some hf
      refine k_i C1 hI (q_V C0 C1 hI 0 (c_X10_on l g X b H.size n M_9 x1 h_12) w_1806 w_1808 w_78 w_132 w_1809 ⟨rfl, rfl⟩ hd_X10_on ⟨Nat.le_of_ble_eq_true rfl, Nat.le_of_ble_eq_true rfl⟩ (Nat.le_of_ble_eq_true rfl) ((fun _ => rfl) _) rfl rfl rfl hl.1 rfl (Nat.le_of_ble_eq_true rfl) dX10_frogsOn_26 ⟨Nat.le_of_ble_eq_true rfl, Nat.le_of_ble_eq_true rfl⟩) (fun H locs hI => ?_)
      refine lv_goto (tgt := 33) C0.1 C0.2.1 dX10_frogsOn_29 (by decide) ?_
      exact ee_im C0 hI hr hlocks hf dX10_frogsOn_33

def F_X10_padWeight_L21 (n : Nat) : Nat → Int32 → Int32 → Int32 → Mem → Option (Int32 × Mem)
  | 0, _, _, _, _ => none
  | k21 + 1, x1_21, x2_21, x3_21, M =>
    chk (inb 0 407) ((if (M 1 (ix 0)) ≤ x3_21 then (if (M 0 0) = 0 then some (x2_21, M) else some (0, M)) else chk (inb (29 + x3_21) 407) ((if (M 1 (ix (29 + x3_21))) = (x1_21 + 1) then chk (inb (17 + x3_21) 407) (lt' (x2_21 + (M 1 (ix (17 + x3_21)))) (fun x2_21_11 => lt' (x3_21 + 1) (fun x3_21_13 => F_X10_padWeight_L21 n k21 x1_21 x2_21_11 x3_21_13 M))) else lt' (x2_21 + 0) (fun x2_21_6 => lt' (x3_21 + 1) (fun x3_21_8 => F_X10_padWeight_L21 n k21 x1_21 x2_21_6 x3_21_8 M))))))
def F_X10_padWeight (n : Nat) (x1 : Int32) (M : Mem) : Option (Int32 × Mem) :=
  ob (F_X10_isPad n x1 M) (fun r_2 => (if r_2 = 0 then lt' (up2 M 0 0 1) (fun M_4 => F_X10_padWeight_L21 n n x1 0 0 M_4) else lt' (up2 M 0 0 0) (fun M_6 => F_X10_padWeight_L21 n n x1 0 0 M_6)))
theorem hd_X10_padWeight : yX10_padWeight.cls ≠ "java/lang/invoke/MethodHandle" ∧ yX10_padWeight.cls ≠ "java/lang/invoke/VarHandle" ∧ (parseMethodDescriptor yX10_padWeight.desc).map (fun d => d.parameters.length) = some 1 := ⟨by decide +kernel, by decide +kernel, by decide +kernel⟩
set_option maxHeartbeats 4000000 in
set_option maxRecDepth 100000 in
theorem c_X10_padWeight (l : Launch) (g : GG) (X : va_W) (b : Nat → Nat) (sz n : Nat) (M : Mem) (x1 : Int32) {r0 : Int32} {M' : Mem} (hf : F_X10_padWeight n x1 M = some (r0, M')) : Met l yX10_padWeight (.code yX10_padWeight cX10_padWeight 4 (some .int) :: LWg) (rmD 2 0 0) (va_Pc [.ref (b 0), .int x1] (PreP g X 10 (shM g b) b sz M)) (Qi g X 10 (shM g b) b sz r0 M') 0 0 (AA X b 10 sz) := by
  refine met_go (by decide +kernel) rfl (Nat.le_of_ble_eq_true rfl) ?_
  intro p e s m below meth c ls H locs C0 C1 hr hlocks hnm hsz hl hI
  subst hsz
  have hl : lv_has ls 4 [(0, .ref (b 0)), (1, .int x1)] := hl
  unfold F_X10_padWeight at hf
  refine lv_aload_n C0.1 C0.2.1 dX10_padWeight_0 rfl (lv_at hl 0 rfl) ?_
  refine lv_aload_n C0.1 C0.2.1 dX10_padWeight_1 rfl (lv_at hl 0 rfl) ?_
  refine lv_iload_n C0.1 C0.2.1 dX10_padWeight_2 rfl (lv_at hl 1 rfl) ?_
  obtain ⟨r_2, h_1, hf⟩ := ob_some hf
  refine k_i C1 hI (q_V C0 C1 hI 0 (c_X10_isPad l g X b H.size n M x1 h_1) w_1802 w_1804 w_77 w_132 w_1805 ⟨rfl, rfl⟩ hd_X10_isPad ⟨Nat.le_of_ble_eq_true rfl, Nat.le_of_ble_eq_true rfl⟩ (Nat.le_of_ble_eq_true rfl) ((fun _ => rfl) _) rfl rfl rfl hl.1 rfl (Nat.le_of_ble_eq_true rfl) dX10_padWeight_3 ⟨Nat.le_of_ble_eq_true rfl, Nat.le_of_ble_eq_true rfl⟩) (fun H locs hI => ?_)
  refine lv_if_eq (tgt := 13) C0.1 C0.2.1 dX10_padWeight_6 (by decide) (fun c_3 => ?_) (fun c_3 => ?_)
  · have hf := (if_pos c_3).symm.trans hf
    refine lv_iconst (v := 1) C0.1 C0.2.1 dX10_padWeight_13 (by decide) ?_
    refine r_put (C := RX10) (T := TX10) (N9 := 20) (ci := 11) (fs := fM b) (ty := .int) C0 C1 hI iX10 tyX10 tyX10_ok nmX10 rfl 0 0 (Nat.le_of_ble_eq_true rfl) (by decide) (fun _ => rfl) rfl rfl rfl (by decide +kernel) ⟨rfl, rfl⟩ (Nat.le_of_ble_eq_true rfl) w_1691 dX10_padWeight_14 (fun H locs hI => ?_)
    obtain ⟨M_4, e_5⟩ : ∃ z : Mem, z = up2 M 0 0 1 := ⟨_, rfl⟩
    rw [← e_5] at hI
    have hf := lt_at e_5 hf
    refine lv_iconst (v := 0) C0.1 C0.2.1 dX10_padWeight_17 (by decide) ?_
    refine lv_istore_n (lv' := [(2, .int 0), (0, .ref (b 0)), (1, .int x1)]) C0.1 C0.2.1 dX10_padWeight_18 rfl hl (by decide) rfl (fun ls hl => ?_)
    refine lv_iconst (v := 0) C0.1 C0.2.1 dX10_padWeight_19 (by decide) ?_
    refine lv_istore_n (lv' := [(3, .int 0), (2, .int 0), (0, .ref (b 0)), (1, .int x1)]) C0.1 C0.2.1 dX10_padWeight_20 rfl hl (by decide) rfl (fun ls hl => ?_)
    have L21 : ∀ (k21 : Nat) (x1_21 : Int32) (x2_21 : Int32) (x3_21 : Int32) (M : Mem), F_X10_padWeight_L21 n k21 x1_21 x2_21 x3_21 M = some (r0, M') → ∀ (H : Heap) (locs : List Loc) (ls : Array Slot), PI g X 10 (shM g b) b s M H locs → lv_has ls 4 [(0, .ref (b 0)), (1, .int x1_21), (2, .int x2_21), (3, .int x3_21)] → W p l e (rmD 2 0 0) s m ([.ref (b 0), .int x1] : List Value).toArray below meth c H locs 0 0 (MQ below (Qi g X 10 (shM g b) b s.heap.size r0 M') ([.ref (b 0), .int x1] : List Value).toArray s 0 0 (AA X b 10 s.heap.size)) (F0 m 21 ls []) := by
      intro k21
      induction k21 with
      | zero => intro x1_21 x2_21 x3_21 M hf; exact absurd (show (none : Option (Int32 × Mem)) = some (r0, M') from hf) (fun h => by cases h)
      | succ k21 ih21 =>
        intro x1_21 x2_21 x3_21 M hf H locs ls hI hl
        unfold F_X10_padWeight_L21 at hf
        refine lv_iload_n C0.1 C0.2.1 dX10_padWeight_21 rfl (lv_at hl 3 rfl) ?_
        refine lv_aload_n C0.1 C0.2.1 dX10_padWeight_22 rfl (lv_at hl 0 rfl) ?_
        refine r_get (C := RX10) (T := TX10) (N9 := 20) (ci := 11) C0 C1 hI iX10 rfl 0 5 (Nat.le_of_ble_eq_true rfl) (by decide) ((fun _ => rfl) _) rfl rfl w_1696 dX10_padWeight_23 ?_
        refine lv_iconst (v := 0) C0.1 C0.2.1 dX10_padWeight_26 (by decide) ?_
        obtain ⟨h_21_1, hf⟩ := chk_some hf
        refine r_iald C0 C1 hI 1 (Nat.le_of_ble_eq_true rfl) (fun _ => rfl) h_21_1 dX10_padWeight_27 ?_
        refine lv_icmp_ge (tgt := 68) C0.1 C0.2.1 dX10_padWeight_28 (by decide) (fun c_21_2 => ?_) (fun c_21_2 => ?_)
        · have hf := (if_pos c_21_2).symm.trans hf
          refine lv_aload_n C0.1 C0.2.1 dX10_padWeight_68 rfl (lv_at hl 0 rfl) ?_
          refine r_get (C := RX10) (T := TX10) (N9 := 20) (ci := 11) C0 C1 hI iX10 rfl 0 0 (Nat.le_of_ble_eq_true rfl) (by decide) ((fun _ => rfl) _) rfl rfl w_1691 dX10_padWeight_69 ?_
          refine lv_if_ne (tgt := 79) C0.1 C0.2.1 dX10_padWeight_72 (by decide) (fun c_21_3 => ?_) (fun c_21_3 => ?_)
          · have hf := (if_neg c_21_3).symm.trans hf
            refine lv_iconst (v := 0) C0.1 C0.2.1 dX10_padWeight_79 (by decide) ?_
            exact ee_im C0 hI hr hlocks hf dX10_padWeight_80
          · have hf := (if_pos c_21_3).symm.trans hf
            refine lv_iload_n C0.1 C0.2.1 dX10_padWeight_75 rfl (lv_at hl 2 rfl) ?_
            refine lv_goto (tgt := 80) C0.1 C0.2.1 dX10_padWeight_76 (by decide) ?_
            exact ee_im C0 hI hr hlocks hf dX10_padWeight_80
        · have hf := (if_neg c_21_2).symm.trans hf
          refine lv_iload_n C0.1 C0.2.1 dX10_padWeight_31 rfl (lv_at hl 2 rfl) ?_
          refine lv_aload_n C0.1 C0.2.1 dX10_padWeight_32 rfl (lv_at hl 0 rfl) ?_
          refine r_get (C := RX10) (T := TX10) (N9 := 20) (ci := 11) C0 C1 hI iX10 rfl 0 5 (Nat.le_of_ble_eq_true rfl) (by decide) ((fun _ => rfl) _) rfl rfl w_1696 dX10_padWeight_33 ?_
          refine lv_bipush (v := 29) C0.1 C0.2.1 dX10_padWeight_36 (by decide) ?_
          refine lv_iload_n C0.1 C0.2.1 dX10_padWeight_38 rfl (lv_at hl 3 rfl) ?_
          refine lv_iadd C0.1 C0.2.1 dX10_padWeight_39 ?_
          obtain ⟨h_21_4, hf⟩ := chk_some hf
          refine r_iald C0 C1 hI 1 (Nat.le_of_ble_eq_true rfl) (fun _ => rfl) h_21_4 dX10_padWeight_40 ?_
          refine lv_iload_n C0.1 C0.2.1 dX10_padWeight_41 rfl (lv_at hl 1 rfl) ?_
          refine lv_iconst (v := 1) C0.1 C0.2.1 dX10_padWeight_42 (by decide) ?_
          refine lv_iadd C0.1 C0.2.1 dX10_padWeight_43 ?_
          refine lv_icmp_ne (tgt := 59) C0.1 C0.2.1 dX10_padWeight_44 (by decide) (fun c_21_5 => ?_) (fun c_21_5 => ?_)
          · have hf := (if_neg c_21_5).symm.trans hf
            refine lv_iconst (v := 0) C0.1 C0.2.1 dX10_padWeight_59 (by decide) ?_
            refine lv_iadd C0.1 C0.2.1 dX10_padWeight_60 ?_
            refine lv_topi (fun x2_21_6 e_21_7 => ?_)
            have hf := lt_at e_21_7 hf
            refine lv_istore_n (lv' := [(2, .int x2_21_6), (0, .ref (b 0)), (1, .int x1_21), (3, .int x3_21)]) C0.1 C0.2.1 dX10_padWeight_61 rfl hl (by decide) rfl (fun ls hl => ?_)
            obtain ⟨x3_21_8, e_21_9⟩ : ∃ z : Int32, z = x3_21 + 1 := ⟨_, rfl⟩
            have hf := lt_at e_21_9 hf
            refine lv_iinc (v := x3_21_8) (lv' := [(3, .int x3_21_8), (2, .int x2_21_6), (0, .ref (b 0)), (1, .int x1_21)]) C0.1 C0.2.1 dX10_padWeight_62 hl (k := 3) rfl (by rw [e_21_9]; rfl) (by decide) rfl (fun ls hl => ?_)
            refine lv_goto (tgt := 21) C0.1 C0.2.1 dX10_padWeight_65 (by decide) ?_
            exact ih21 x1_21 x2_21_6 x3_21_8 M hf H locs ls hI (lv_sub hl [2, 3, 1, 0] rfl)
          · have hf := (if_pos c_21_5).symm.trans hf
            refine lv_aload_n C0.1 C0.2.1 dX10_padWeight_47 rfl (lv_at hl 0 rfl) ?_
            refine r_get (C := RX10) (T := TX10) (N9 := 20) (ci := 11) C0 C1 hI iX10 rfl 0 5 (Nat.le_of_ble_eq_true rfl) (by decide) ((fun _ => rfl) _) rfl rfl w_1696 dX10_padWeight_48 ?_
            refine lv_bipush (v := 17) C0.1 C0.2.1 dX10_padWeight_51 (by decide) ?_
            refine lv_iload_n C0.1 C0.2.1 dX10_padWeight_53 rfl (lv_at hl 3 rfl) ?_
            refine lv_iadd C0.1 C0.2.1 dX10_padWeight_54 ?_
            obtain ⟨h_21_10, hf⟩ := chk_some hf
            refine r_iald C0 C1 hI 1 (Nat.le_of_ble_eq_true rfl) (fun _ => rfl) h_21_10 dX10_padWeight_55 ?_
            refine lv_goto (tgt := 60) C0.1 C0.2.1 dX10_padWeight_56 (by decide) ?_
            refine lv_iadd C0.1 C0.2.1 dX10_padWeight_60 ?_
            refine lv_topi (fun x2_21_11 e_21_12 => ?_)
            have hf := lt_at e_21_12 hf
            refine lv_istore_n (lv' := [(2, .int x2_21_11), (0, .ref (b 0)), (1, .int x1_21), (3, .int x3_21)]) C0.1 C0.2.1 dX10_padWeight_61 rfl hl (by decide) rfl (fun ls hl => ?_)
            obtain ⟨x3_21_13, e_21_14⟩ : ∃ z : Int32, z = x3_21 + 1 := ⟨_, rfl⟩
            have hf := lt_at e_21_14 hf
            refine lv_iinc (v := x3_21_13) (lv' := [(3, .int x3_21_13), (2, .int x2_21_11), (0, .ref (b 0)), (1, .int x1_21)]) C0.1 C0.2.1 dX10_padWeight_62 hl (k := 3) rfl (by rw [e_21_14]; rfl) (by decide) rfl (fun ls hl => ?_)
            refine lv_goto (tgt := 21) C0.1 C0.2.1 dX10_padWeight_65 (by decide) ?_
            exact ih21 x1_21 x2_21_11 x3_21_13 M hf H locs ls hI (lv_sub hl [2, 3, 1, 0] rfl)
    exact L21 n x1 0 0 M_4 hf H locs ls hI (lv_sub hl [2, 3, 1, 0] rfl)
  · have hf := (if_neg c_3).symm.trans hf
    refine lv_iconst (v := 0) C0.1 C0.2.1 dX10_padWeight_9 (by decide) ?_
    refine lv_goto (tgt := 14) C0.1 C0.2.1 dX10_padWeight_10 (by decide) ?_
    refine r_put (C := RX10) (T := TX10) (N9 := 20) (ci := 11) (fs := fM b) (ty := .int) C0 C1 hI iX10 tyX10 tyX10_ok nmX10 rfl 0 0 (Nat.le_of_ble_eq_true rfl) (by decide) (fun _ => rfl) rfl rfl rfl (by decide +kernel) ⟨rfl, rfl⟩ (Nat.le_of_ble_eq_true rfl) w_1691 dX10_padWeight_14 (fun H locs hI => ?_)
    obtain ⟨M_6, e_7⟩ : ∃ z : Mem, z = up2 M 0 0 0 := ⟨_, rfl⟩
    rw [← e_7] at hI
    have hf := lt_at e_7 hf
    refine lv_iconst (v := 0) C0.1 C0.2.1 dX10_padWeight_17 (by decide) ?_
    refine lv_istore_n (lv' := [(2, .int 0), (0, .ref (b 0)), (1, .int x1)]) C0.1 C0.2.1 dX10_padWeight_18 rfl hl (by decide) rfl (fun ls hl => ?_)
    refine lv_iconst (v := 0) C0.1 C0.2.1 dX10_padWeight_19 (by decide) ?_
    refine lv_istore_n (lv' := [(3, .int 0), (2, .int 0), (0, .ref (b 0)), (1, .int x1)]) C0.1 C0.2.1 dX10_padWeight_20 rfl hl (by decide) rfl (fun ls hl => ?_)
    have L21 : ∀ (k21 : Nat) (x1_21 : Int32) (x2_21 : Int32) (x3_21 : Int32) (M : Mem), F_X10_padWeight_L21 n k21 x1_21 x2_21 x3_21 M = some (r0, M') → ∀ (H : Heap) (locs : List Loc) (ls : Array Slot), PI g X 10 (shM g b) b s M H locs → lv_has ls 4 [(0, .ref (b 0)), (1, .int x1_21), (2, .int x2_21), (3, .int x3_21)] → W p l e (rmD 2 0 0) s m ([.ref (b 0), .int x1] : List Value).toArray below meth c H locs 0 0 (MQ below (Qi g X 10 (shM g b) b s.heap.size r0 M') ([.ref (b 0), .int x1] : List Value).toArray s 0 0 (AA X b 10 s.heap.size)) (F0 m 21 ls []) := by
      intro k21
      induction k21 with
      | zero => intro x1_21 x2_21 x3_21 M hf; exact absurd (show (none : Option (Int32 × Mem)) = some (r0, M') from hf) (fun h => by cases h)
      | succ k21 ih21 =>
        intro x1_21 x2_21 x3_21 M hf H locs ls hI hl
        unfold F_X10_padWeight_L21 at hf
        refine lv_iload_n C0.1 C0.2.1 dX10_padWeight_21 rfl (lv_at hl 3 rfl) ?_
        refine lv_aload_n C0.1 C0.2.1 dX10_padWeight_22 rfl (lv_at hl 0 rfl) ?_
        refine r_get (C := RX10) (T := TX10) (N9 := 20) (ci := 11) C0 C1 hI iX10 rfl 0 5 (Nat.le_of_ble_eq_true rfl) (by decide) ((fun _ => rfl) _) rfl rfl w_1696 dX10_padWeight_23 ?_
        refine lv_iconst (v := 0) C0.1 C0.2.1 dX10_padWeight_26 (by decide) ?_
        obtain ⟨h_21_1, hf⟩ := chk_some hf
        refine r_iald C0 C1 hI 1 (Nat.le_of_ble_eq_true rfl) (fun _ => rfl) h_21_1 dX10_padWeight_27 ?_
        refine lv_icmp_ge (tgt := 68) C0.1 C0.2.1 dX10_padWeight_28 (by decide) (fun c_21_2 => ?_) (fun c_21_2 => ?_)
        · have hf := (if_pos c_21_2).symm.trans hf
          refine lv_aload_n C0.1 C0.2.1 dX10_padWeight_68 rfl (lv_at hl 0 rfl) ?_
          refine r_get (C := RX10) (T := TX10) (N9 := 20) (ci := 11) C0 C1 hI iX10 rfl 0 0 (Nat.le_of_ble_eq_true rfl) (by decide) ((fun _ => rfl) _) rfl rfl w_1691 dX10_padWeight_69 ?_
          refine lv_if_ne (tgt := 79) C0.1 C0.2.1 dX10_padWeight_72 (by decide) (fun c_21_3 => ?_) (fun c_21_3 => ?_)
          · have hf := (if_neg c_21_3).symm.trans hf
            refine lv_iconst (v := 0) C0.1 C0.2.1 dX10_padWeight_79 (by decide) ?_
            exact ee_im C0 hI hr hlocks hf dX10_padWeight_80
          · have hf := (if_pos c_21_3).symm.trans hf
            refine lv_iload_n C0.1 C0.2.1 dX10_padWeight_75 rfl (lv_at hl 2 rfl) ?_
            refine lv_goto (tgt := 80) C0.1 C0.2.1 dX10_padWeight_76 (by decide) ?_
            exact ee_im C0 hI hr hlocks hf dX10_padWeight_80
        · have hf := (if_neg c_21_2).symm.trans hf
          refine lv_iload_n C0.1 C0.2.1 dX10_padWeight_31 rfl (lv_at hl 2 rfl) ?_
          refine lv_aload_n C0.1 C0.2.1 dX10_padWeight_32 rfl (lv_at hl 0 rfl) ?_
          refine r_get (C := RX10) (T := TX10) (N9 := 20) (ci := 11) C0 C1 hI iX10 rfl 0 5 (Nat.le_of_ble_eq_true rfl) (by decide) ((fun _ => rfl) _) rfl rfl w_1696 dX10_padWeight_33 ?_
          refine lv_bipush (v := 29) C0.1 C0.2.1 dX10_padWeight_36 (by decide) ?_
          refine lv_iload_n C0.1 C0.2.1 dX10_padWeight_38 rfl (lv_at hl 3 rfl) ?_
          refine lv_iadd C0.1 C0.2.1 dX10_padWeight_39 ?_
          obtain ⟨h_21_4, hf⟩ := chk_some hf
          refine r_iald C0 C1 hI 1 (Nat.le_of_ble_eq_true rfl) (fun _ => rfl) h_21_4 dX10_padWeight_40 ?_
          refine lv_iload_n C0.1 C0.2.1 dX10_padWeight_41 rfl (lv_at hl 1 rfl) ?_
          refine lv_iconst (v := 1) C0.1 C0.2.1 dX10_padWeight_42 (by decide) ?_
          refine lv_iadd C0.1 C0.2.1 dX10_padWeight_43 ?_
          refine lv_icmp_ne (tgt := 59) C0.1 C0.2.1 dX10_padWeight_44 (by decide) (fun c_21_5 => ?_) (fun c_21_5 => ?_)
          · have hf := (if_neg c_21_5).symm.trans hf
            refine lv_iconst (v := 0) C0.1 C0.2.1 dX10_padWeight_59 (by decide) ?_
            refine lv_iadd C0.1 C0.2.1 dX10_padWeight_60 ?_
            refine lv_topi (fun x2_21_6 e_21_7 => ?_)
            have hf := lt_at e_21_7 hf
            refine lv_istore_n (lv' := [(2, .int x2_21_6), (0, .ref (b 0)), (1, .int x1_21), (3, .int x3_21)]) C0.1 C0.2.1 dX10_padWeight_61 rfl hl (by decide) rfl (fun ls hl => ?_)
            obtain ⟨x3_21_8, e_21_9⟩ : ∃ z : Int32, z = x3_21 + 1 := ⟨_, rfl⟩
            have hf := lt_at e_21_9 hf
            refine lv_iinc (v := x3_21_8) (lv' := [(3, .int x3_21_8), (2, .int x2_21_6), (0, .ref (b 0)), (1, .int x1_21)]) C0.1 C0.2.1 dX10_padWeight_62 hl (k := 3) rfl (by rw [e_21_9]; rfl) (by decide) rfl (fun ls hl => ?_)
            refine lv_goto (tgt := 21) C0.1 C0.2.1 dX10_padWeight_65 (by decide) ?_
            exact ih21 x1_21 x2_21_6 x3_21_8 M hf H locs ls hI (lv_sub hl [2, 3, 1, 0] rfl)
          · have hf := (if_pos c_21_5).symm.trans hf
            refine lv_aload_n C0.1 C0.2.1 dX10_padWeight_47 rfl (lv_at hl 0 rfl) ?_
            refine r_get (C := RX10) (T := TX10) (N9 := 20) (ci := 11) C0 C1 hI iX10 rfl 0 5 (Nat.le_of_ble_eq_true rfl) (by decide) ((fun _ => rfl) _) rfl rfl w_1696 dX10_padWeight_48 ?_
            refine lv_bipush (v := 17) C0.1 C0.2.1 dX10_padWeight_51 (by decide) ?_
            refine lv_iload_n C0.1 C0.2.1 dX10_padWeight_53 rfl (lv_at hl 3 rfl) ?_
            refine lv_iadd C0.1 C0.2.1 dX10_padWeight_54 ?_
            obtain ⟨h_21_10, hf⟩ := chk_some hf
            refine r_iald C0 C1 hI 1 (Nat.le_of_ble_eq_true rfl) (fun _ => rfl) h_21_10 dX10_padWeight_55 ?_
            refine lv_goto (tgt := 60) C0.1 C0.2.1 dX10_padWeight_56 (by decide) ?_
            refine lv_iadd C0.1 C0.2.1 dX10_padWeight_60 ?_
            refine lv_topi (fun x2_21_11 e_21_12 => ?_)
            have hf := lt_at e_21_12 hf
            refine lv_istore_n (lv' := [(2, .int x2_21_11), (0, .ref (b 0)), (1, .int x1_21), (3, .int x3_21)]) C0.1 C0.2.1 dX10_padWeight_61 rfl hl (by decide) rfl (fun ls hl => ?_)
            obtain ⟨x3_21_13, e_21_14⟩ : ∃ z : Int32, z = x3_21 + 1 := ⟨_, rfl⟩
            have hf := lt_at e_21_14 hf
            refine lv_iinc (v := x3_21_13) (lv' := [(3, .int x3_21_13), (2, .int x2_21_11), (0, .ref (b 0)), (1, .int x1_21)]) C0.1 C0.2.1 dX10_padWeight_62 hl (k := 3) rfl (by rw [e_21_14]; rfl) (by decide) rfl (fun ls hl => ?_)
            refine lv_goto (tgt := 21) C0.1 C0.2.1 dX10_padWeight_65 (by decide) ?_
            exact ih21 x1_21 x2_21_11 x3_21_13 M hf H locs ls hI (lv_sub hl [2, 3, 1, 0] rfl)
    exact L21 n x1 0 0 M_6 hf H locs ls hI (lv_sub hl [2, 3, 1, 0] rfl)

def F_X10_sitting_L4 (n : Nat) (M : Mem) : Nat → Int32 → Int32 → Option Int32
  | 0, _, _ => none
  | k4 + 1, x1_4, x2_4 =>
    chk (inb 0 407) ((if (M 1 (ix 0)) ≤ x2_4 then some x1_4 else ob (F_X10_isOn n x2_4 M) (fun r_4_4 => (if r_4_4 = 0 then lt' (x1_4 + 0) (fun x1_4_6 => lt' (x2_4 + 1) (fun x2_4_8 => F_X10_sitting_L4 n M k4 x1_4_6 x2_4_8)) else lt' (x1_4 + 1) (fun x1_4_10 => lt' (x2_4 + 1) (fun x2_4_12 => F_X10_sitting_L4 n M k4 x1_4_10 x2_4_12))))))
def F_X10_sitting (n : Nat) (M : Mem) : Option Int32 :=
  F_X10_sitting_L4 n M n 0 0
theorem hd_X10_sitting : yX10_sitting.cls ≠ "java/lang/invoke/MethodHandle" ∧ yX10_sitting.cls ≠ "java/lang/invoke/VarHandle" ∧ (parseMethodDescriptor yX10_sitting.desc).map (fun d => d.parameters.length) = some 0 := ⟨by decide +kernel, by decide +kernel, by decide +kernel⟩
set_option maxHeartbeats 4000000 in
set_option maxRecDepth 100000 in
theorem c_X10_sitting (l : Launch) (g : GG) (X : va_W) (b : Nat → Nat) (sz n : Nat) (M : Mem) {r0 : Int32} (hf : F_X10_sitting n M = some r0) : Met l yX10_sitting (.code yX10_sitting cX10_sitting 3 (some .int) :: LWg) (rmD 1 0 0) (va_Pc [.ref (b 0)] (PreP g X 10 (shM g b) b sz M)) (Qi g X 10 (shM g b) b sz r0 M) 0 0 (AA X b 10 sz) := by
  refine met_go (by decide +kernel) rfl (Nat.le_of_ble_eq_true rfl) ?_
  intro p e s m below meth c ls H locs C0 C1 hr hlocks hnm hsz hl hI
  subst hsz
  have hl : lv_has ls 3 [(0, .ref (b 0))] := hl
  unfold F_X10_sitting at hf
  refine lv_iconst (v := 0) C0.1 C0.2.1 dX10_sitting_0 (by decide) ?_
  refine lv_istore_n (lv' := [(1, .int 0), (0, .ref (b 0))]) C0.1 C0.2.1 dX10_sitting_1 rfl hl (by decide) rfl (fun ls hl => ?_)
  refine lv_iconst (v := 0) C0.1 C0.2.1 dX10_sitting_2 (by decide) ?_
  refine lv_istore_n (lv' := [(2, .int 0), (1, .int 0), (0, .ref (b 0))]) C0.1 C0.2.1 dX10_sitting_3 rfl hl (by decide) rfl (fun ls hl => ?_)
  have L4 : ∀ (k4 : Nat) (x1_4 : Int32) (x2_4 : Int32), F_X10_sitting_L4 n M k4 x1_4 x2_4 = some r0 → ∀ (H : Heap) (locs : List Loc) (ls : Array Slot), PI g X 10 (shM g b) b s M H locs → lv_has ls 3 [(0, .ref (b 0)), (1, .int x1_4), (2, .int x2_4)] → W p l e (rmD 1 0 0) s m ([.ref (b 0)] : List Value).toArray below meth c H locs 0 0 (MQ below (Qi g X 10 (shM g b) b s.heap.size r0 M) ([.ref (b 0)] : List Value).toArray s 0 0 (AA X b 10 s.heap.size)) (F0 m 4 ls []) := by
    intro k4
    induction k4 with
    | zero => intro x1_4 x2_4 hf; exact absurd (show (none : Option Int32) = some r0 from hf) (fun h => by cases h)
    | succ k4 ih4 =>
      intro x1_4 x2_4 hf H locs ls hI hl
      unfold F_X10_sitting_L4 at hf
      refine lv_iload_n C0.1 C0.2.1 dX10_sitting_4 rfl (lv_at hl 2 rfl) ?_
      refine lv_aload_n C0.1 C0.2.1 dX10_sitting_5 rfl (lv_at hl 0 rfl) ?_
      refine r_get (C := RX10) (T := TX10) (N9 := 20) (ci := 11) C0 C1 hI iX10 rfl 0 5 (Nat.le_of_ble_eq_true rfl) (by decide) ((fun _ => rfl) _) rfl rfl w_1696 dX10_sitting_6 ?_
      refine lv_iconst (v := 0) C0.1 C0.2.1 dX10_sitting_9 (by decide) ?_
      obtain ⟨h_4_1, hf⟩ := chk_some hf
      refine r_iald C0 C1 hI 1 (Nat.le_of_ble_eq_true rfl) (fun _ => rfl) h_4_1 dX10_sitting_10 ?_
      refine lv_icmp_ge (tgt := 36) C0.1 C0.2.1 dX10_sitting_11 (by decide) (fun c_4_2 => ?_) (fun c_4_2 => ?_)
      · have hf := (if_pos c_4_2).symm.trans hf
        refine lv_iload_n C0.1 C0.2.1 dX10_sitting_36 rfl (lv_at hl 1 rfl) ?_
        exact ee_i C0 hI hr hlocks hf dX10_sitting_37
      · have hf := (if_neg c_4_2).symm.trans hf
        refine lv_iload_n C0.1 C0.2.1 dX10_sitting_14 rfl (lv_at hl 1 rfl) ?_
        refine lv_aload_n C0.1 C0.2.1 dX10_sitting_15 rfl (lv_at hl 0 rfl) ?_
        refine lv_iload_n C0.1 C0.2.1 dX10_sitting_16 rfl (lv_at hl 2 rfl) ?_
        obtain ⟨r_4_4, h_4_3, hf⟩ := ob_some hf
        refine k_i C1 hI (q_V C0 C1 hI 0 (c_X10_isOn l g X b H.size n M x2_4 h_4_3) w_1818 w_1820 w_80 w_132 w_1821 ⟨rfl, rfl⟩ hd_X10_isOn ⟨Nat.le_of_ble_eq_true rfl, Nat.le_of_ble_eq_true rfl⟩ (Nat.le_of_ble_eq_true rfl) ((fun _ => rfl) _) rfl rfl rfl hl.1 rfl (Nat.le_of_ble_eq_true rfl) dX10_sitting_17 ⟨Nat.le_of_ble_eq_true rfl, Nat.le_of_ble_eq_true rfl⟩) (fun H locs hI => ?_)
        refine lv_if_eq (tgt := 27) C0.1 C0.2.1 dX10_sitting_20 (by decide) (fun c_4_5 => ?_) (fun c_4_5 => ?_)
        · have hf := (if_pos c_4_5).symm.trans hf
          refine lv_iconst (v := 0) C0.1 C0.2.1 dX10_sitting_27 (by decide) ?_
          refine lv_iadd C0.1 C0.2.1 dX10_sitting_28 ?_
          refine lv_topi (fun x1_4_6 e_4_7 => ?_)
          have hf := lt_at e_4_7 hf
          refine lv_istore_n (lv' := [(1, .int x1_4_6), (0, .ref (b 0)), (2, .int x2_4)]) C0.1 C0.2.1 dX10_sitting_29 rfl hl (by decide) rfl (fun ls hl => ?_)
          obtain ⟨x2_4_8, e_4_9⟩ : ∃ z : Int32, z = x2_4 + 1 := ⟨_, rfl⟩
          have hf := lt_at e_4_9 hf
          refine lv_iinc (v := x2_4_8) (lv' := [(2, .int x2_4_8), (1, .int x1_4_6), (0, .ref (b 0))]) C0.1 C0.2.1 dX10_sitting_30 hl (k := 2) rfl (by rw [e_4_9]; rfl) (by decide) rfl (fun ls hl => ?_)
          refine lv_goto (tgt := 4) C0.1 C0.2.1 dX10_sitting_33 (by decide) ?_
          exact ih4 x1_4_6 x2_4_8 hf H locs ls hI (lv_sub hl [2, 1, 0] rfl)
        · have hf := (if_neg c_4_5).symm.trans hf
          refine lv_iconst (v := 1) C0.1 C0.2.1 dX10_sitting_23 (by decide) ?_
          refine lv_goto (tgt := 28) C0.1 C0.2.1 dX10_sitting_24 (by decide) ?_
          refine lv_iadd C0.1 C0.2.1 dX10_sitting_28 ?_
          refine lv_topi (fun x1_4_10 e_4_11 => ?_)
          have hf := lt_at e_4_11 hf
          refine lv_istore_n (lv' := [(1, .int x1_4_10), (0, .ref (b 0)), (2, .int x2_4)]) C0.1 C0.2.1 dX10_sitting_29 rfl hl (by decide) rfl (fun ls hl => ?_)
          obtain ⟨x2_4_12, e_4_13⟩ : ∃ z : Int32, z = x2_4 + 1 := ⟨_, rfl⟩
          have hf := lt_at e_4_13 hf
          refine lv_iinc (v := x2_4_12) (lv' := [(2, .int x2_4_12), (1, .int x1_4_10), (0, .ref (b 0))]) C0.1 C0.2.1 dX10_sitting_30 hl (k := 2) rfl (by rw [e_4_13]; rfl) (by decide) rfl (fun ls hl => ?_)
          refine lv_goto (tgt := 4) C0.1 C0.2.1 dX10_sitting_33 (by decide) ?_
          exact ih4 x1_4_10 x2_4_12 hf H locs ls hI (lv_sub hl [2, 1, 0] rfl)
  exact L4 n 0 0 hf H locs ls hI (lv_sub hl [2, 1, 0] rfl)

def F_X10_sittingCount (n : Nat) (M : Mem) : Option (Int32 × Mem) :=
  lt' (up2 M 0 0 0) (fun M_1 => ob (F_X10_sitting n M_1) (fun r_4 => some (r_4, M_1)))
theorem hd_X10_sittingCount : yX10_sittingCount.cls ≠ "java/lang/invoke/MethodHandle" ∧ yX10_sittingCount.cls ≠ "java/lang/invoke/VarHandle" ∧ (parseMethodDescriptor yX10_sittingCount.desc).map (fun d => d.parameters.length) = some 0 := ⟨by decide +kernel, by decide +kernel, by decide +kernel⟩
set_option maxHeartbeats 4000000 in
set_option maxRecDepth 100000 in
theorem c_X10_sittingCount (l : Launch) (g : GG) (X : va_W) (b : Nat → Nat) (sz n : Nat) (M : Mem) {r0 : Int32} {M' : Mem} (hf : F_X10_sittingCount n M = some (r0, M')) : Met l yX10_sittingCount (.code yX10_sittingCount cX10_sittingCount 1 (some .int) :: LWg) (rmD 2 0 0) (va_Pc [.ref (b 0)] (PreP g X 10 (shM g b) b sz M)) (Qi g X 10 (shM g b) b sz r0 M') 0 0 (AA X b 10 sz) := by
  refine met_go (by decide +kernel) rfl (Nat.le_of_ble_eq_true rfl) ?_
  intro p e s m below meth c ls H locs C0 C1 hr hlocks hnm hsz hl hI
  subst hsz
  have hl : lv_has ls 1 [(0, .ref (b 0))] := hl
  unfold F_X10_sittingCount at hf
  refine lv_aload_n C0.1 C0.2.1 dX10_sittingCount_0 rfl (lv_at hl 0 rfl) ?_
  refine lv_iconst (v := 0) C0.1 C0.2.1 dX10_sittingCount_1 (by decide) ?_
  refine r_put (C := RX10) (T := TX10) (N9 := 20) (ci := 11) (fs := fM b) (ty := .int) C0 C1 hI iX10 tyX10 tyX10_ok nmX10 rfl 0 0 (Nat.le_of_ble_eq_true rfl) (by decide) (fun _ => rfl) rfl rfl rfl (by decide +kernel) ⟨rfl, rfl⟩ (Nat.le_of_ble_eq_true rfl) w_1691 dX10_sittingCount_2 (fun H locs hI => ?_)
  obtain ⟨M_1, e_2⟩ : ∃ z : Mem, z = up2 M 0 0 0 := ⟨_, rfl⟩
  rw [← e_2] at hI
  have hf := lt_at e_2 hf
  refine lv_aload_n C0.1 C0.2.1 dX10_sittingCount_5 rfl (lv_at hl 0 rfl) ?_
  obtain ⟨r_4, h_3, hf⟩ := ob_some hf
  refine k_i C1 hI (q_V C0 C1 hI 0 (c_X10_sitting l g X b H.size n M_1 h_3) w_1862 w_1864 w_83 w_132 w_1865 ⟨rfl, rfl⟩ hd_X10_sitting ⟨Nat.le_of_ble_eq_true rfl, Nat.le_of_ble_eq_true rfl⟩ (Nat.le_of_ble_eq_true rfl) ((fun _ => rfl) _) rfl rfl rfl hl.1 rfl (Nat.le_of_ble_eq_true rfl) dX10_sittingCount_6 ⟨Nat.le_of_ble_eq_true rfl, Nat.le_of_ble_eq_true rfl⟩) (fun H locs hI => ?_)
  exact ee_im C0 hI hr hlocks hf dX10_sittingCount_9

def F_X10_sittingCountBySet (n : Nat) (M : Mem) : Option (Int32 × Mem) :=
  lt' (up2 M 0 0 0) (fun M_1 => ob (F_X10_sitting n M_1) (fun r_4 => some (r_4, M_1)))
theorem hd_X10_sittingCountBySet : yX10_sittingCountBySet.cls ≠ "java/lang/invoke/MethodHandle" ∧ yX10_sittingCountBySet.cls ≠ "java/lang/invoke/VarHandle" ∧ (parseMethodDescriptor yX10_sittingCountBySet.desc).map (fun d => d.parameters.length) = some 0 := ⟨by decide +kernel, by decide +kernel, by decide +kernel⟩
set_option maxHeartbeats 4000000 in
set_option maxRecDepth 100000 in
theorem c_X10_sittingCountBySet (l : Launch) (g : GG) (X : va_W) (b : Nat → Nat) (sz n : Nat) (M : Mem) {r0 : Int32} {M' : Mem} (hf : F_X10_sittingCountBySet n M = some (r0, M')) : Met l yX10_sittingCountBySet (.code yX10_sittingCountBySet cX10_sittingCountBySet 1 (some .int) :: LWg) (rmD 2 0 0) (va_Pc [.ref (b 0)] (PreP g X 10 (shM g b) b sz M)) (Qi g X 10 (shM g b) b sz r0 M') 0 0 (AA X b 10 sz) := by
  refine met_go (by decide +kernel) rfl (Nat.le_of_ble_eq_true rfl) ?_
  intro p e s m below meth c ls H locs C0 C1 hr hlocks hnm hsz hl hI
  subst hsz
  have hl : lv_has ls 1 [(0, .ref (b 0))] := hl
  unfold F_X10_sittingCountBySet at hf
  refine lv_aload_n C0.1 C0.2.1 dX10_sittingCountBySet_0 rfl (lv_at hl 0 rfl) ?_
  refine lv_iconst (v := 0) C0.1 C0.2.1 dX10_sittingCountBySet_1 (by decide) ?_
  refine r_put (C := RX10) (T := TX10) (N9 := 20) (ci := 11) (fs := fM b) (ty := .int) C0 C1 hI iX10 tyX10 tyX10_ok nmX10 rfl 0 0 (Nat.le_of_ble_eq_true rfl) (by decide) (fun _ => rfl) rfl rfl rfl (by decide +kernel) ⟨rfl, rfl⟩ (Nat.le_of_ble_eq_true rfl) w_1691 dX10_sittingCountBySet_2 (fun H locs hI => ?_)
  obtain ⟨M_1, e_2⟩ : ∃ z : Mem, z = up2 M 0 0 0 := ⟨_, rfl⟩
  rw [← e_2] at hI
  have hf := lt_at e_2 hf
  refine lv_aload_n C0.1 C0.2.1 dX10_sittingCountBySet_5 rfl (lv_at hl 0 rfl) ?_
  obtain ⟨r_4, h_3, hf⟩ := ob_some hf
  refine k_i C1 hI (q_V C0 C1 hI 0 (c_X10_sitting l g X b H.size n M_1 h_3) w_1862 w_1864 w_83 w_132 w_1865 ⟨rfl, rfl⟩ hd_X10_sitting ⟨Nat.le_of_ble_eq_true rfl, Nat.le_of_ble_eq_true rfl⟩ (Nat.le_of_ble_eq_true rfl) ((fun _ => rfl) _) rfl rfl rfl hl.1 rfl (Nat.le_of_ble_eq_true rfl) dX10_sittingCountBySet_6 ⟨Nat.le_of_ble_eq_true rfl, Nat.le_of_ble_eq_true rfl⟩) (fun H locs hI => ?_)
  exact ee_im C0 hI hr hlocks hf dX10_sittingCountBySet_9

def F_X10_moves (n : Nat) (x1 : Int32) (M : Mem) : Option (Int32 × Mem) :=
  ob (F_X10_isIn n x1 1 15 M) (fun r_2 => (if r_2 = 0 then ob2 (F_X10_fail n 1 M) (fun r_25 M_26 => some (r_25, M_26)) else chk (inb 2 407) (lt' (M 1 (ix 2)) (fun x2_5 => (if x2_5 = 6 then ob2 (F_X10_fail n 2 M) (fun r_22 M_23 => some (r_22, M_23)) else ob (F_X10_of n x2_5 0 M) (fun r_9 => chk (inb r_9 407) (lt' (up2 M 1 (ix r_9) x1) (fun M_13 => chk (inb 2 407) (chk (inb 2 407) (lt' (up2 M_13 1 (ix 2) ((M_13 1 (ix 2)) + 1)) (fun M_19 => some (x2_5, M_19))))))))))))
theorem hd_X10_moves : yX10_moves.cls ≠ "java/lang/invoke/MethodHandle" ∧ yX10_moves.cls ≠ "java/lang/invoke/VarHandle" ∧ (parseMethodDescriptor yX10_moves.desc).map (fun d => d.parameters.length) = some 1 := ⟨by decide +kernel, by decide +kernel, by decide +kernel⟩
set_option maxHeartbeats 4000000 in
set_option maxRecDepth 100000 in
theorem c_X10_moves (l : Launch) (g : GG) (X : va_W) (b : Nat → Nat) (sz n : Nat) (M : Mem) (x1 : Int32) {r0 : Int32} {M' : Mem} (hf : F_X10_moves n x1 M = some (r0, M')) : Met l yX10_moves (.code yX10_moves cX10_moves 3 (some .int) :: LWg) (rmD 1 0 0) (va_Pc [.ref (b 0), .int x1] (PreP g X 10 (shM g b) b sz M)) (Qi g X 10 (shM g b) b sz r0 M') 0 0 (AA X b 10 sz) := by
  refine met_go (by decide +kernel) rfl (Nat.le_of_ble_eq_true rfl) ?_
  intro p e s m below meth c ls H locs C0 C1 hr hlocks hnm hsz hl hI
  subst hsz
  have hl : lv_has ls 3 [(0, .ref (b 0)), (1, .int x1)] := hl
  unfold F_X10_moves at hf
  refine lv_iload_n C0.1 C0.2.1 dX10_moves_0 rfl (lv_at hl 1 rfl) ?_
  refine lv_iconst (v := 1) C0.1 C0.2.1 dX10_moves_1 (by decide) ?_
  refine lv_bipush (v := 15) C0.1 C0.2.1 dX10_moves_2 (by decide) ?_
  obtain ⟨r_2, h_1, hf⟩ := ob_some hf
  refine k_i C1 hI (q_S C0 C1 hI (c_X10_isIn l g X b H.size n M x1 1 15 h_1) w_1771 w_1772 w_132 w_1773 ⟨rfl, rfl⟩ hd_X10_isIn ⟨Nat.le_of_ble_eq_true rfl, Nat.le_of_ble_eq_true rfl⟩ rfl hl.1 rfl (Nat.le_of_ble_eq_true rfl) dX10_moves_4 ⟨Nat.le_of_ble_eq_true rfl, Nat.le_of_ble_eq_true rfl⟩) (fun H locs hI => ?_)
  refine lv_if_ne (tgt := 16) C0.1 C0.2.1 dX10_moves_7 (by decide) (fun c_3 => ?_) (fun c_3 => ?_)
  · have hf := (if_neg c_3).symm.trans hf
    refine lv_aload_n C0.1 C0.2.1 dX10_moves_16 rfl (lv_at hl 0 rfl) ?_
    refine r_get (C := RX10) (T := TX10) (N9 := 20) (ci := 11) C0 C1 hI iX10 rfl 0 5 (Nat.le_of_ble_eq_true rfl) (by decide) ((fun _ => rfl) _) rfl rfl w_1696 dX10_moves_17 ?_
    refine lv_iconst (v := 2) C0.1 C0.2.1 dX10_moves_20 (by decide) ?_
    obtain ⟨h_4, hf⟩ := chk_some hf
    refine r_iald C0 C1 hI 1 (Nat.le_of_ble_eq_true rfl) (fun _ => rfl) h_4 dX10_moves_21 ?_
    refine lv_topi (fun x2_5 e_6 => ?_)
    have hf := lt_at e_6 hf
    refine lv_istore_n (lv' := [(2, .int x2_5), (0, .ref (b 0)), (1, .int x1)]) C0.1 C0.2.1 dX10_moves_22 rfl hl (by decide) rfl (fun ls hl => ?_)
    refine lv_iload_n C0.1 C0.2.1 dX10_moves_23 rfl (lv_at hl 0 rfl) ?_
    refine lv_bipush (v := 6) C0.1 C0.2.1 dX10_moves_24 (by decide) ?_
    refine lv_icmp_ne (tgt := 35) C0.1 C0.2.1 dX10_moves_26 (by decide) (fun c_7 => ?_) (fun c_7 => ?_)
    · have hf := (if_neg c_7).symm.trans hf
      refine lv_aload_n C0.1 C0.2.1 dX10_moves_35 rfl (lv_at hl 1 rfl) ?_
      refine r_get (C := RX10) (T := TX10) (N9 := 20) (ci := 11) C0 C1 hI iX10 rfl 0 5 (Nat.le_of_ble_eq_true rfl) (by decide) ((fun _ => rfl) _) rfl rfl w_1696 dX10_moves_36 ?_
      refine lv_iload_n C0.1 C0.2.1 dX10_moves_39 rfl (lv_at hl 0 rfl) ?_
      refine lv_iconst (v := 0) C0.1 C0.2.1 dX10_moves_40 (by decide) ?_
      obtain ⟨r_9, h_8, hf⟩ := ob_some hf
      refine k_i C1 hI (q_S C0 C1 hI (c_X10_of l g X b H.size n M x2_5 0 h_8) w_1878 w_1879 w_132 w_1880 ⟨rfl, rfl⟩ hd_X10_of ⟨Nat.le_of_ble_eq_true rfl, Nat.le_of_ble_eq_true rfl⟩ rfl hl.1 rfl (Nat.le_of_ble_eq_true rfl) dX10_moves_41 ⟨Nat.le_of_ble_eq_true rfl, Nat.le_of_ble_eq_true rfl⟩) (fun H locs hI => ?_)
      refine lv_iload_n C0.1 C0.2.1 dX10_moves_44 rfl (lv_at hl 2 rfl) ?_
      obtain ⟨h_10, hf⟩ := chk_some hf
      refine r_iast C0 C1 hI 1 (Nat.le_of_ble_eq_true rfl) (fun _ => rfl) h_10 dX10_moves_45 (fun H locs hI => ?_)
      obtain ⟨M_13, e_14⟩ : ∃ z : Mem, z = up2 M 1 (ix r_9) x1 := ⟨_, rfl⟩
      rw [← e_14] at hI
      have hf := lt_at e_14 hf
      refine lv_aload_n C0.1 C0.2.1 dX10_moves_46 rfl (lv_at hl 1 rfl) ?_
      refine r_get (C := RX10) (T := TX10) (N9 := 20) (ci := 11) C0 C1 hI iX10 rfl 0 5 (Nat.le_of_ble_eq_true rfl) (by decide) ((fun _ => rfl) _) rfl rfl w_1696 dX10_moves_47 ?_
      refine lv_iconst (v := 2) C0.1 C0.2.1 dX10_moves_50 (by decide) ?_
      refine lv_dup2_11 C0.1 C0.2.1 dX10_moves_51 rfl rfl ?_
      obtain ⟨h_15, hf⟩ := chk_some hf
      refine r_iald C0 C1 hI 1 (Nat.le_of_ble_eq_true rfl) (fun _ => rfl) h_15 dX10_moves_52 ?_
      refine lv_iconst (v := 1) C0.1 C0.2.1 dX10_moves_53 (by decide) ?_
      refine lv_iadd C0.1 C0.2.1 dX10_moves_54 ?_
      obtain ⟨h_16, hf⟩ := chk_some hf
      refine r_iast C0 C1 hI 1 (Nat.le_of_ble_eq_true rfl) (fun _ => rfl) h_16 dX10_moves_55 (fun H locs hI => ?_)
      obtain ⟨M_19, e_20⟩ : ∃ z : Mem, z = up2 M_13 1 (ix 2) ((M_13 1 (ix 2)) + 1) := ⟨_, rfl⟩
      rw [← e_20] at hI
      have hf := lt_at e_20 hf
      refine lv_iload_n C0.1 C0.2.1 dX10_moves_56 rfl (lv_at hl 0 rfl) ?_
      exact ee_im C0 hI hr hlocks hf dX10_moves_57
    · have hf := (if_pos c_7).symm.trans hf
      refine lv_aload_n C0.1 C0.2.1 dX10_moves_29 rfl (lv_at hl 1 rfl) ?_
      refine lv_iconst (v := 2) C0.1 C0.2.1 dX10_moves_30 (by decide) ?_
      obtain ⟨r_22, M_23, h_21, hf⟩ := ob2_some hf
      refine k_i C1 hI (q_V C0 C1 hI 0 (c_X10_fail l g X b H.size n M 2 h_21) w_1774 w_1776 w_72 w_132 w_1777 ⟨rfl, rfl⟩ hd_X10_fail ⟨Nat.le_of_ble_eq_true rfl, Nat.le_of_ble_eq_true rfl⟩ (Nat.le_of_ble_eq_true rfl) ((fun _ => rfl) _) rfl rfl rfl hl.1 rfl (Nat.le_of_ble_eq_true rfl) dX10_moves_31 ⟨Nat.le_of_ble_eq_true rfl, Nat.le_of_ble_eq_true rfl⟩) (fun H locs hI => ?_)
      exact ee_im C0 hI hr hlocks hf dX10_moves_34
  · have hf := (if_pos c_3).symm.trans hf
    refine lv_aload_n C0.1 C0.2.1 dX10_moves_10 rfl (lv_at hl 0 rfl) ?_
    refine lv_iconst (v := 1) C0.1 C0.2.1 dX10_moves_11 (by decide) ?_
    obtain ⟨r_25, M_26, h_24, hf⟩ := ob2_some hf
    refine k_i C1 hI (q_V C0 C1 hI 0 (c_X10_fail l g X b H.size n M 1 h_24) w_1774 w_1776 w_72 w_132 w_1777 ⟨rfl, rfl⟩ hd_X10_fail ⟨Nat.le_of_ble_eq_true rfl, Nat.le_of_ble_eq_true rfl⟩ (Nat.le_of_ble_eq_true rfl) ((fun _ => rfl) _) rfl rfl rfl hl.1 rfl (Nat.le_of_ble_eq_true rfl) dX10_moves_12 ⟨Nat.le_of_ble_eq_true rfl, Nat.le_of_ble_eq_true rfl⟩) (fun H locs hI => ?_)
    exact ee_im C0 hI hr hlocks hf dX10_moves_15

def F_X10_addMotion (n : Nat) (x1 : Int32) (M : Mem) : Option (Int32 × Mem) :=
  ob (F_X10_begins n M) (fun M_2 => ob2 (F_X10_moves n x1 M_2) (fun r_4 M_5 => ob2 (F_X10_ends n r_4 M_5) (fun r_7 M_8 => some (r_7, M_8))))
theorem hd_X10_addMotion : yX10_addMotion.cls ≠ "java/lang/invoke/MethodHandle" ∧ yX10_addMotion.cls ≠ "java/lang/invoke/VarHandle" ∧ (parseMethodDescriptor yX10_addMotion.desc).map (fun d => d.parameters.length) = some 1 := ⟨by decide +kernel, by decide +kernel, by decide +kernel⟩
set_option maxHeartbeats 4000000 in
set_option maxRecDepth 100000 in
theorem c_X10_addMotion (l : Launch) (g : GG) (X : va_W) (b : Nat → Nat) (sz n : Nat) (M : Mem) (x1 : Int32) {r0 : Int32} {M' : Mem} (hf : F_X10_addMotion n x1 M = some (r0, M')) : Met l yX10_addMotion (.code yX10_addMotion cX10_addMotion 2 (some .int) :: LWg) (rmD 2 0 0) (va_Pc [.ref (b 0), .int x1] (PreP g X 10 (shM g b) b sz M)) (Qi g X 10 (shM g b) b sz r0 M') 0 0 (AA X b 10 sz) := by
  refine met_go (by decide +kernel) rfl (Nat.le_of_ble_eq_true rfl) ?_
  intro p e s m below meth c ls H locs C0 C1 hr hlocks hnm hsz hl hI
  subst hsz
  have hl : lv_has ls 2 [(0, .ref (b 0)), (1, .int x1)] := hl
  unfold F_X10_addMotion at hf
  refine lv_aload_n C0.1 C0.2.1 dX10_addMotion_0 rfl (lv_at hl 0 rfl) ?_
  obtain ⟨M_2, h_1, hf⟩ := ob_some hf
  refine k_v C1 hI (q_V C0 C1 hI 0 (c_X10_begins l g X b H.size n M h_1) w_1760 w_1762 w_70 w_132 w_1763 ⟨rfl, rfl⟩ hd_X10_begins ⟨Nat.le_of_ble_eq_true rfl, Nat.le_of_ble_eq_true rfl⟩ (Nat.le_of_ble_eq_true rfl) ((fun _ => rfl) _) rfl rfl rfl hl.1 rfl (Nat.le_of_ble_eq_true rfl) dX10_addMotion_1 ⟨Nat.le_of_ble_eq_true rfl, Nat.le_of_ble_eq_true rfl⟩) (fun H locs hI => ?_)
  refine lv_aload_n C0.1 C0.2.1 dX10_addMotion_4 rfl (lv_at hl 0 rfl) ?_
  refine lv_aload_n C0.1 C0.2.1 dX10_addMotion_5 rfl (lv_at hl 0 rfl) ?_
  refine lv_iload_n C0.1 C0.2.1 dX10_addMotion_6 rfl (lv_at hl 1 rfl) ?_
  obtain ⟨r_4, M_5, h_3, hf⟩ := ob2_some hf
  refine k_i C1 hI (q_V C0 C1 hI 0 (c_X10_moves l g X b H.size n M_2 x1 h_3) w_1874 w_1876 w_84 w_132 w_1877 ⟨rfl, rfl⟩ hd_X10_moves ⟨Nat.le_of_ble_eq_true rfl, Nat.le_of_ble_eq_true rfl⟩ (Nat.le_of_ble_eq_true rfl) ((fun _ => rfl) _) rfl rfl rfl hl.1 rfl (Nat.le_of_ble_eq_true rfl) dX10_addMotion_7 ⟨Nat.le_of_ble_eq_true rfl, Nat.le_of_ble_eq_true rfl⟩) (fun H locs hI => ?_)
  obtain ⟨r_7, M_8, h_6, hf⟩ := ob2_some hf
  refine k_i C1 hI (q_V C0 C1 hI 0 (c_X10_ends l g X b H.size n M_5 r_4 h_6) w_1778 w_1780 w_73 w_132 w_1781 ⟨rfl, rfl⟩ hd_X10_ends ⟨Nat.le_of_ble_eq_true rfl, Nat.le_of_ble_eq_true rfl⟩ (Nat.le_of_ble_eq_true rfl) ((fun _ => rfl) _) rfl rfl rfl hl.1 rfl (Nat.le_of_ble_eq_true rfl) dX10_addMotion_10 ⟨Nat.le_of_ble_eq_true rfl, Nat.le_of_ble_eq_true rfl⟩) (fun H locs hI => ?_)
  exact ee_im C0 hI hr hlocks hf dX10_addMotion_13

def F_X10_motionCount (n : Nat) (M : Mem) : Option (Int32 × Mem) :=
  ob2 (F_X10_tells n 2 M) (fun r_2 M_3 => some (r_2, M_3))
theorem hd_X10_motionCount : yX10_motionCount.cls ≠ "java/lang/invoke/MethodHandle" ∧ yX10_motionCount.cls ≠ "java/lang/invoke/VarHandle" ∧ (parseMethodDescriptor yX10_motionCount.desc).map (fun d => d.parameters.length) = some 0 := ⟨by decide +kernel, by decide +kernel, by decide +kernel⟩
set_option maxHeartbeats 4000000 in
set_option maxRecDepth 100000 in
theorem c_X10_motionCount (l : Launch) (g : GG) (X : va_W) (b : Nat → Nat) (sz n : Nat) (M : Mem) {r0 : Int32} {M' : Mem} (hf : F_X10_motionCount n M = some (r0, M')) : Met l yX10_motionCount (.code yX10_motionCount cX10_motionCount 1 (some .int) :: LWg) (rmD 1 0 0) (va_Pc [.ref (b 0)] (PreP g X 10 (shM g b) b sz M)) (Qi g X 10 (shM g b) b sz r0 M') 0 0 (AA X b 10 sz) := by
  refine met_go (by decide +kernel) rfl (Nat.le_of_ble_eq_true rfl) ?_
  intro p e s m below meth c ls H locs C0 C1 hr hlocks hnm hsz hl hI
  subst hsz
  have hl : lv_has ls 1 [(0, .ref (b 0))] := hl
  unfold F_X10_motionCount at hf
  refine lv_aload_n C0.1 C0.2.1 dX10_motionCount_0 rfl (lv_at hl 0 rfl) ?_
  refine lv_iconst (v := 2) C0.1 C0.2.1 dX10_motionCount_1 (by decide) ?_
  obtain ⟨r_2, M_3, h_1, hf⟩ := ob2_some hf
  refine k_i C1 hI (q_V C0 C1 hI 0 (c_X10_tells l g X b H.size n M 2 h_1) w_1826 w_1828 w_81 w_132 w_1829 ⟨rfl, rfl⟩ hd_X10_tells ⟨Nat.le_of_ble_eq_true rfl, Nat.le_of_ble_eq_true rfl⟩ (Nat.le_of_ble_eq_true rfl) ((fun _ => rfl) _) rfl rfl rfl hl.1 rfl (Nat.le_of_ble_eq_true rfl) dX10_motionCount_2 ⟨Nat.le_of_ble_eq_true rfl, Nat.le_of_ble_eq_true rfl⟩) (fun H locs hI => ?_)
  exact ee_im C0 hI hr hlocks hf dX10_motionCount_5

def F_X10_isEntitled (n : Nat) (x1 : Int32) (x2 : Int32) (M : Mem) : Option (Int32 × Mem) :=
  ob (F_X10_areThere n x1 x2 M) (fun r_2 => (if r_2 = 0 then lt' (up2 M 0 0 1) (fun M_4 => (if (M_4 0 0) = 0 then ob (F_X10_isFor n x1 x2 M_4) (fun r_8 => (if r_8 = 0 then some (0, M_4) else some (1, M_4))) else some (0, M_4))) else lt' (up2 M 0 0 0) (fun M_10 => (if (M_10 0 0) = 0 then ob (F_X10_isFor n x1 x2 M_10) (fun r_14 => (if r_14 = 0 then some (0, M_10) else some (1, M_10))) else some (0, M_10)))))
theorem hd_X10_isEntitled : yX10_isEntitled.cls ≠ "java/lang/invoke/MethodHandle" ∧ yX10_isEntitled.cls ≠ "java/lang/invoke/VarHandle" ∧ (parseMethodDescriptor yX10_isEntitled.desc).map (fun d => d.parameters.length) = some 2 := ⟨by decide +kernel, by decide +kernel, by decide +kernel⟩
set_option maxHeartbeats 4000000 in
set_option maxRecDepth 100000 in
theorem c_X10_isEntitled (l : Launch) (g : GG) (X : va_W) (b : Nat → Nat) (sz n : Nat) (M : Mem) (x1 : Int32) (x2 : Int32) {r0 : Int32} {M' : Mem} (hf : F_X10_isEntitled n x1 x2 M = some (r0, M')) : Met l yX10_isEntitled (.code yX10_isEntitled cX10_isEntitled 3 (some .boolean) :: LWg) (rmD 3 0 0) (va_Pc [.ref (b 0), .int x1, .int x2] (PreP g X 10 (shM g b) b sz M)) (Qi g X 10 (shM g b) b sz r0 M') 0 0 (AA X b 10 sz) := by
  refine met_go (by decide +kernel) rfl (Nat.le_of_ble_eq_true rfl) ?_
  intro p e s m below meth c ls H locs C0 C1 hr hlocks hnm hsz hl hI
  subst hsz
  have hl : lv_has ls 3 [(0, .ref (b 0)), (1, .int x1), (2, .int x2)] := hl
  unfold F_X10_isEntitled at hf
  refine lv_aload_n C0.1 C0.2.1 dX10_isEntitled_0 rfl (lv_at hl 0 rfl) ?_
  refine lv_aload_n C0.1 C0.2.1 dX10_isEntitled_1 rfl (lv_at hl 0 rfl) ?_
  refine lv_iload_n C0.1 C0.2.1 dX10_isEntitled_2 rfl (lv_at hl 1 rfl) ?_
  refine lv_iload_n C0.1 C0.2.1 dX10_isEntitled_3 rfl (lv_at hl 2 rfl) ?_
  obtain ⟨r_2, h_1, hf⟩ := ob_some hf
  refine k_i C1 hI (q_V C0 C1 hI 0 (c_X10_areThere l g X b H.size n M x1 x2 h_1) w_1889 w_1891 w_85 w_132 w_1892 ⟨rfl, rfl⟩ hd_X10_areThere ⟨Nat.le_of_ble_eq_true rfl, Nat.le_of_ble_eq_true rfl⟩ (Nat.le_of_ble_eq_true rfl) ((fun _ => rfl) _) rfl rfl rfl hl.1 rfl (Nat.le_of_ble_eq_true rfl) dX10_isEntitled_4 ⟨Nat.le_of_ble_eq_true rfl, Nat.le_of_ble_eq_true rfl⟩) (fun H locs hI => ?_)
  refine lv_if_eq (tgt := 14) C0.1 C0.2.1 dX10_isEntitled_7 (by decide) (fun c_3 => ?_) (fun c_3 => ?_)
  · have hf := (if_pos c_3).symm.trans hf
    refine lv_iconst (v := 1) C0.1 C0.2.1 dX10_isEntitled_14 (by decide) ?_
    refine r_put (C := RX10) (T := TX10) (N9 := 20) (ci := 11) (fs := fM b) (ty := .int) C0 C1 hI iX10 tyX10 tyX10_ok nmX10 rfl 0 0 (Nat.le_of_ble_eq_true rfl) (by decide) (fun _ => rfl) rfl rfl rfl (by decide +kernel) ⟨rfl, rfl⟩ (Nat.le_of_ble_eq_true rfl) w_1691 dX10_isEntitled_15 (fun H locs hI => ?_)
    obtain ⟨M_4, e_5⟩ : ∃ z : Mem, z = up2 M 0 0 1 := ⟨_, rfl⟩
    rw [← e_5] at hI
    have hf := lt_at e_5 hf
    refine lv_aload_n C0.1 C0.2.1 dX10_isEntitled_18 rfl (lv_at hl 0 rfl) ?_
    refine r_get (C := RX10) (T := TX10) (N9 := 20) (ci := 11) C0 C1 hI iX10 rfl 0 0 (Nat.le_of_ble_eq_true rfl) (by decide) ((fun _ => rfl) _) rfl rfl w_1691 dX10_isEntitled_19 ?_
    refine lv_if_ne (tgt := 38) C0.1 C0.2.1 dX10_isEntitled_22 (by decide) (fun c_6 => ?_) (fun c_6 => ?_)
    · have hf := (if_neg c_6).symm.trans hf
      refine lv_iconst (v := 0) C0.1 C0.2.1 dX10_isEntitled_38 (by decide) ?_
      exact ee_zm C0 hI hr hlocks rfl hf dX10_isEntitled_39
    · have hf := (if_pos c_6).symm.trans hf
      refine lv_aload_n C0.1 C0.2.1 dX10_isEntitled_25 rfl (lv_at hl 0 rfl) ?_
      refine lv_iload_n C0.1 C0.2.1 dX10_isEntitled_26 rfl (lv_at hl 1 rfl) ?_
      refine lv_iload_n C0.1 C0.2.1 dX10_isEntitled_27 rfl (lv_at hl 2 rfl) ?_
      obtain ⟨r_8, h_7, hf⟩ := ob_some hf
      refine k_i C1 hI (q_V C0 C1 hI 0 (c_X10_isFor l g X b H.size n M_4 x1 x2 h_7) w_1897 w_1899 w_87 w_132 w_1900 ⟨rfl, rfl⟩ hd_X10_isFor ⟨Nat.le_of_ble_eq_true rfl, Nat.le_of_ble_eq_true rfl⟩ (Nat.le_of_ble_eq_true rfl) ((fun _ => rfl) _) rfl rfl rfl hl.1 rfl (Nat.le_of_ble_eq_true rfl) dX10_isEntitled_28 ⟨Nat.le_of_ble_eq_true rfl, Nat.le_of_ble_eq_true rfl⟩) (fun H locs hI => ?_)
      refine lv_if_eq (tgt := 38) C0.1 C0.2.1 dX10_isEntitled_31 (by decide) (fun c_9 => ?_) (fun c_9 => ?_)
      · have hf := (if_pos c_9).symm.trans hf
        refine lv_iconst (v := 0) C0.1 C0.2.1 dX10_isEntitled_38 (by decide) ?_
        exact ee_zm C0 hI hr hlocks rfl hf dX10_isEntitled_39
      · have hf := (if_neg c_9).symm.trans hf
        refine lv_iconst (v := 1) C0.1 C0.2.1 dX10_isEntitled_34 (by decide) ?_
        refine lv_goto (tgt := 39) C0.1 C0.2.1 dX10_isEntitled_35 (by decide) ?_
        exact ee_zm C0 hI hr hlocks rfl hf dX10_isEntitled_39
  · have hf := (if_neg c_3).symm.trans hf
    refine lv_iconst (v := 0) C0.1 C0.2.1 dX10_isEntitled_10 (by decide) ?_
    refine lv_goto (tgt := 15) C0.1 C0.2.1 dX10_isEntitled_11 (by decide) ?_
    refine r_put (C := RX10) (T := TX10) (N9 := 20) (ci := 11) (fs := fM b) (ty := .int) C0 C1 hI iX10 tyX10 tyX10_ok nmX10 rfl 0 0 (Nat.le_of_ble_eq_true rfl) (by decide) (fun _ => rfl) rfl rfl rfl (by decide +kernel) ⟨rfl, rfl⟩ (Nat.le_of_ble_eq_true rfl) w_1691 dX10_isEntitled_15 (fun H locs hI => ?_)
    obtain ⟨M_10, e_11⟩ : ∃ z : Mem, z = up2 M 0 0 0 := ⟨_, rfl⟩
    rw [← e_11] at hI
    have hf := lt_at e_11 hf
    refine lv_aload_n C0.1 C0.2.1 dX10_isEntitled_18 rfl (lv_at hl 0 rfl) ?_
    refine r_get (C := RX10) (T := TX10) (N9 := 20) (ci := 11) C0 C1 hI iX10 rfl 0 0 (Nat.le_of_ble_eq_true rfl) (by decide) ((fun _ => rfl) _) rfl rfl w_1691 dX10_isEntitled_19 ?_
    refine lv_if_ne (tgt := 38) C0.1 C0.2.1 dX10_isEntitled_22 (by decide) (fun c_12 => ?_) (fun c_12 => ?_)
    · have hf := (if_neg c_12).symm.trans hf
      refine lv_iconst (v := 0) C0.1 C0.2.1 dX10_isEntitled_38 (by decide) ?_
      exact ee_zm C0 hI hr hlocks rfl hf dX10_isEntitled_39
    · have hf := (if_pos c_12).symm.trans hf
      refine lv_aload_n C0.1 C0.2.1 dX10_isEntitled_25 rfl (lv_at hl 0 rfl) ?_
      refine lv_iload_n C0.1 C0.2.1 dX10_isEntitled_26 rfl (lv_at hl 1 rfl) ?_
      refine lv_iload_n C0.1 C0.2.1 dX10_isEntitled_27 rfl (lv_at hl 2 rfl) ?_
      obtain ⟨r_14, h_13, hf⟩ := ob_some hf
      refine k_i C1 hI (q_V C0 C1 hI 0 (c_X10_isFor l g X b H.size n M_10 x1 x2 h_13) w_1897 w_1899 w_87 w_132 w_1900 ⟨rfl, rfl⟩ hd_X10_isFor ⟨Nat.le_of_ble_eq_true rfl, Nat.le_of_ble_eq_true rfl⟩ (Nat.le_of_ble_eq_true rfl) ((fun _ => rfl) _) rfl rfl rfl hl.1 rfl (Nat.le_of_ble_eq_true rfl) dX10_isEntitled_28 ⟨Nat.le_of_ble_eq_true rfl, Nat.le_of_ble_eq_true rfl⟩) (fun H locs hI => ?_)
      refine lv_if_eq (tgt := 38) C0.1 C0.2.1 dX10_isEntitled_31 (by decide) (fun c_15 => ?_) (fun c_15 => ?_)
      · have hf := (if_pos c_15).symm.trans hf
        refine lv_iconst (v := 0) C0.1 C0.2.1 dX10_isEntitled_38 (by decide) ?_
        exact ee_zm C0 hI hr hlocks rfl hf dX10_isEntitled_39
      · have hf := (if_neg c_15).symm.trans hf
        refine lv_iconst (v := 1) C0.1 C0.2.1 dX10_isEntitled_34 (by decide) ?_
        refine lv_goto (tgt := 39) C0.1 C0.2.1 dX10_isEntitled_35 (by decide) ?_
        exact ee_zm C0 hI hr hlocks rfl hf dX10_isEntitled_39

def F_X10_isShut (n : Nat) (x1 : Int32) (M : Mem) : Option Int32 :=
  ob (F_X10_of n x1 2 M) (fun r_2 => chk (inb r_2 407) ((if (M 1 (ix r_2)) = 1 then some 1 else ob (F_X10_of n x1 1 M) (fun r_6 => chk (inb r_6 407) ((if (M 1 (ix r_6)) = 1 then some 1 else some 0))))))
theorem hd_X10_isShut : yX10_isShut.cls ≠ "java/lang/invoke/MethodHandle" ∧ yX10_isShut.cls ≠ "java/lang/invoke/VarHandle" ∧ (parseMethodDescriptor yX10_isShut.desc).map (fun d => d.parameters.length) = some 1 := ⟨by decide +kernel, by decide +kernel, by decide +kernel⟩
set_option maxHeartbeats 4000000 in
set_option maxRecDepth 100000 in
theorem c_X10_isShut (l : Launch) (g : GG) (X : va_W) (b : Nat → Nat) (sz n : Nat) (M : Mem) (x1 : Int32) {r0 : Int32} (hf : F_X10_isShut n x1 M = some r0) : Met l yX10_isShut (.code yX10_isShut cX10_isShut 2 (some .boolean) :: LWg) (rmD 1 0 0) (va_Pc [.ref (b 0), .int x1] (PreP g X 10 (shM g b) b sz M)) (Qi g X 10 (shM g b) b sz r0 M) 0 0 (AA X b 10 sz) := by
  refine met_go (by decide +kernel) rfl (Nat.le_of_ble_eq_true rfl) ?_
  intro p e s m below meth c ls H locs C0 C1 hr hlocks hnm hsz hl hI
  subst hsz
  have hl : lv_has ls 2 [(0, .ref (b 0)), (1, .int x1)] := hl
  unfold F_X10_isShut at hf
  refine lv_aload_n C0.1 C0.2.1 dX10_isShut_0 rfl (lv_at hl 0 rfl) ?_
  refine r_get (C := RX10) (T := TX10) (N9 := 20) (ci := 11) C0 C1 hI iX10 rfl 0 5 (Nat.le_of_ble_eq_true rfl) (by decide) ((fun _ => rfl) _) rfl rfl w_1696 dX10_isShut_1 ?_
  refine lv_iload_n C0.1 C0.2.1 dX10_isShut_4 rfl (lv_at hl 1 rfl) ?_
  refine lv_iconst (v := 2) C0.1 C0.2.1 dX10_isShut_5 (by decide) ?_
  obtain ⟨r_2, h_1, hf⟩ := ob_some hf
  refine k_i C1 hI (q_S C0 C1 hI (c_X10_of l g X b H.size n M x1 2 h_1) w_1878 w_1879 w_132 w_1880 ⟨rfl, rfl⟩ hd_X10_of ⟨Nat.le_of_ble_eq_true rfl, Nat.le_of_ble_eq_true rfl⟩ rfl hl.1 rfl (Nat.le_of_ble_eq_true rfl) dX10_isShut_6 ⟨Nat.le_of_ble_eq_true rfl, Nat.le_of_ble_eq_true rfl⟩) (fun H locs hI => ?_)
  obtain ⟨h_3, hf⟩ := chk_some hf
  refine r_iald C0 C1 hI 1 (Nat.le_of_ble_eq_true rfl) (fun _ => rfl) h_3 dX10_isShut_9 ?_
  refine lv_iconst (v := 1) C0.1 C0.2.1 dX10_isShut_10 (by decide) ?_
  refine lv_icmp_eq (tgt := 28) C0.1 C0.2.1 dX10_isShut_11 (by decide) (fun c_4 => ?_) (fun c_4 => ?_)
  · have hf := (if_pos c_4).symm.trans hf
    refine lv_iconst (v := 1) C0.1 C0.2.1 dX10_isShut_28 (by decide) ?_
    refine lv_goto (tgt := 33) C0.1 C0.2.1 dX10_isShut_29 (by decide) ?_
    exact ee_z C0 hI hr hlocks rfl hf dX10_isShut_33
  · have hf := (if_neg c_4).symm.trans hf
    refine lv_aload_n C0.1 C0.2.1 dX10_isShut_14 rfl (lv_at hl 0 rfl) ?_
    refine r_get (C := RX10) (T := TX10) (N9 := 20) (ci := 11) C0 C1 hI iX10 rfl 0 5 (Nat.le_of_ble_eq_true rfl) (by decide) ((fun _ => rfl) _) rfl rfl w_1696 dX10_isShut_15 ?_
    refine lv_iload_n C0.1 C0.2.1 dX10_isShut_18 rfl (lv_at hl 1 rfl) ?_
    refine lv_iconst (v := 1) C0.1 C0.2.1 dX10_isShut_19 (by decide) ?_
    obtain ⟨r_6, h_5, hf⟩ := ob_some hf
    refine k_i C1 hI (q_S C0 C1 hI (c_X10_of l g X b H.size n M x1 1 h_5) w_1878 w_1879 w_132 w_1880 ⟨rfl, rfl⟩ hd_X10_of ⟨Nat.le_of_ble_eq_true rfl, Nat.le_of_ble_eq_true rfl⟩ rfl hl.1 rfl (Nat.le_of_ble_eq_true rfl) dX10_isShut_20 ⟨Nat.le_of_ble_eq_true rfl, Nat.le_of_ble_eq_true rfl⟩) (fun H locs hI => ?_)
    obtain ⟨h_7, hf⟩ := chk_some hf
    refine r_iald C0 C1 hI 1 (Nat.le_of_ble_eq_true rfl) (fun _ => rfl) h_7 dX10_isShut_23 ?_
    refine lv_iconst (v := 1) C0.1 C0.2.1 dX10_isShut_24 (by decide) ?_
    refine lv_icmp_ne (tgt := 32) C0.1 C0.2.1 dX10_isShut_25 (by decide) (fun c_8 => ?_) (fun c_8 => ?_)
    · have hf := (if_neg c_8).symm.trans hf
      refine lv_iconst (v := 0) C0.1 C0.2.1 dX10_isShut_32 (by decide) ?_
      exact ee_z C0 hI hr hlocks rfl hf dX10_isShut_33
    · have hf := (if_pos c_8).symm.trans hf
      refine lv_iconst (v := 1) C0.1 C0.2.1 dX10_isShut_28 (by decide) ?_
      refine lv_goto (tgt := 33) C0.1 C0.2.1 dX10_isShut_29 (by decide) ?_
      exact ee_z C0 hI hr hlocks rfl hf dX10_isShut_33

def F_X10_signs (n : Nat) (x1 : Int32) (x2 : Int32) (M : Mem) : Option (Int32 × Mem) :=
  ob (F_X10_areThere n x1 x2 M) (fun r_2 => (if r_2 = 0 then ob2 (F_X10_fail n 1 M) (fun r_44 M_45 => some (r_44, M_45)) else ob (F_X10_isFor n x1 x2 M) (fun r_5 => (if r_5 = 0 then ob2 (F_X10_fail n 2 M) (fun r_41 M_42 => some (r_41, M_42)) else ob (F_X10_isShut n x1 M) (fun r_8 => (if r_8 = 0 then ob (F_X10_place n x1 x2 M) (fun r_11 => (if r_11 < 0 then ob (F_X10_of n x1 5 M) (fun r_14 => chk (inb r_14 407) (ob (F_X10_listed n x1 (M 1 (ix r_14)) M) (fun r_17 => chk (inb r_17 407) (lt' (up2 M 1 (ix r_17) x2) (fun M_21 => ob (F_X10_of n x1 5 M_21) (fun r_24 => chk (inb r_24 407) (chk (inb r_24 407) (lt' (up2 M_21 1 (ix r_24) ((M_21 1 (ix r_24)) + 1)) (fun M_29 => ob (F_X10_of n x1 5 M_29) (fun r_32 => chk (inb r_32 407) (some (M_29 1 (ix r_32), M_29)))))))))))) else ob2 (F_X10_fail n 4 M) (fun r_35 M_36 => some (r_35, M_36)))) else ob2 (F_X10_fail n 3 M) (fun r_38 M_39 => some (r_38, M_39))))))))
theorem hd_X10_signs : yX10_signs.cls ≠ "java/lang/invoke/MethodHandle" ∧ yX10_signs.cls ≠ "java/lang/invoke/VarHandle" ∧ (parseMethodDescriptor yX10_signs.desc).map (fun d => d.parameters.length) = some 2 := ⟨by decide +kernel, by decide +kernel, by decide +kernel⟩
set_option maxHeartbeats 4000000 in
set_option maxRecDepth 100000 in
theorem c_X10_signs (l : Launch) (g : GG) (X : va_W) (b : Nat → Nat) (sz n : Nat) (M : Mem) (x1 : Int32) (x2 : Int32) {r0 : Int32} {M' : Mem} (hf : F_X10_signs n x1 x2 M = some (r0, M')) : Met l yX10_signs (.code yX10_signs cX10_signs 3 (some .int) :: LWg) (rmD 3 0 0) (va_Pc [.ref (b 0), .int x1, .int x2] (PreP g X 10 (shM g b) b sz M)) (Qi g X 10 (shM g b) b sz r0 M') 0 0 (AA X b 10 sz) := by
  refine met_go (by decide +kernel) rfl (Nat.le_of_ble_eq_true rfl) ?_
  intro p e s m below meth c ls H locs C0 C1 hr hlocks hnm hsz hl hI
  subst hsz
  have hl : lv_has ls 3 [(0, .ref (b 0)), (1, .int x1), (2, .int x2)] := hl
  unfold F_X10_signs at hf
  refine lv_aload_n C0.1 C0.2.1 dX10_signs_0 rfl (lv_at hl 0 rfl) ?_
  refine lv_iload_n C0.1 C0.2.1 dX10_signs_1 rfl (lv_at hl 1 rfl) ?_
  refine lv_iload_n C0.1 C0.2.1 dX10_signs_2 rfl (lv_at hl 2 rfl) ?_
  obtain ⟨r_2, h_1, hf⟩ := ob_some hf
  refine k_i C1 hI (q_V C0 C1 hI 0 (c_X10_areThere l g X b H.size n M x1 x2 h_1) w_1889 w_1891 w_85 w_132 w_1892 ⟨rfl, rfl⟩ hd_X10_areThere ⟨Nat.le_of_ble_eq_true rfl, Nat.le_of_ble_eq_true rfl⟩ (Nat.le_of_ble_eq_true rfl) ((fun _ => rfl) _) rfl rfl rfl hl.1 rfl (Nat.le_of_ble_eq_true rfl) dX10_signs_3 ⟨Nat.le_of_ble_eq_true rfl, Nat.le_of_ble_eq_true rfl⟩) (fun H locs hI => ?_)
  refine lv_if_ne (tgt := 15) C0.1 C0.2.1 dX10_signs_6 (by decide) (fun c_3 => ?_) (fun c_3 => ?_)
  · have hf := (if_neg c_3).symm.trans hf
    refine lv_aload_n C0.1 C0.2.1 dX10_signs_15 rfl (lv_at hl 0 rfl) ?_
    refine lv_iload_n C0.1 C0.2.1 dX10_signs_16 rfl (lv_at hl 1 rfl) ?_
    refine lv_iload_n C0.1 C0.2.1 dX10_signs_17 rfl (lv_at hl 2 rfl) ?_
    obtain ⟨r_5, h_4, hf⟩ := ob_some hf
    refine k_i C1 hI (q_V C0 C1 hI 0 (c_X10_isFor l g X b H.size n M x1 x2 h_4) w_1897 w_1899 w_87 w_132 w_1900 ⟨rfl, rfl⟩ hd_X10_isFor ⟨Nat.le_of_ble_eq_true rfl, Nat.le_of_ble_eq_true rfl⟩ (Nat.le_of_ble_eq_true rfl) ((fun _ => rfl) _) rfl rfl rfl hl.1 rfl (Nat.le_of_ble_eq_true rfl) dX10_signs_18 ⟨Nat.le_of_ble_eq_true rfl, Nat.le_of_ble_eq_true rfl⟩) (fun H locs hI => ?_)
    refine lv_if_ne (tgt := 30) C0.1 C0.2.1 dX10_signs_21 (by decide) (fun c_6 => ?_) (fun c_6 => ?_)
    · have hf := (if_neg c_6).symm.trans hf
      refine lv_aload_n C0.1 C0.2.1 dX10_signs_30 rfl (lv_at hl 0 rfl) ?_
      refine lv_iload_n C0.1 C0.2.1 dX10_signs_31 rfl (lv_at hl 1 rfl) ?_
      obtain ⟨r_8, h_7, hf⟩ := ob_some hf
      refine k_i C1 hI (q_V C0 C1 hI 0 (c_X10_isShut l g X b H.size n M x1 h_7) w_1909 w_1911 w_89 w_132 w_1912 ⟨rfl, rfl⟩ hd_X10_isShut ⟨Nat.le_of_ble_eq_true rfl, Nat.le_of_ble_eq_true rfl⟩ (Nat.le_of_ble_eq_true rfl) ((fun _ => rfl) _) rfl rfl rfl hl.1 rfl (Nat.le_of_ble_eq_true rfl) dX10_signs_32 ⟨Nat.le_of_ble_eq_true rfl, Nat.le_of_ble_eq_true rfl⟩) (fun H locs hI => ?_)
      refine lv_if_eq (tgt := 44) C0.1 C0.2.1 dX10_signs_35 (by decide) (fun c_9 => ?_) (fun c_9 => ?_)
      · have hf := (if_pos c_9).symm.trans hf
        refine lv_aload_n C0.1 C0.2.1 dX10_signs_44 rfl (lv_at hl 0 rfl) ?_
        refine lv_iload_n C0.1 C0.2.1 dX10_signs_45 rfl (lv_at hl 1 rfl) ?_
        refine lv_iload_n C0.1 C0.2.1 dX10_signs_46 rfl (lv_at hl 2 rfl) ?_
        obtain ⟨r_11, h_10, hf⟩ := ob_some hf
        refine k_i C1 hI (q_V C0 C1 hI 0 (c_X10_place l g X b H.size n M x1 x2 h_10) w_1913 w_1915 w_90 w_132 w_1916 ⟨rfl, rfl⟩ hd_X10_place ⟨Nat.le_of_ble_eq_true rfl, Nat.le_of_ble_eq_true rfl⟩ (Nat.le_of_ble_eq_true rfl) ((fun _ => rfl) _) rfl rfl rfl hl.1 rfl (Nat.le_of_ble_eq_true rfl) dX10_signs_47 ⟨Nat.le_of_ble_eq_true rfl, Nat.le_of_ble_eq_true rfl⟩) (fun H locs hI => ?_)
        refine lv_if_lt (tgt := 59) C0.1 C0.2.1 dX10_signs_50 (by decide) (fun c_12 => ?_) (fun c_12 => ?_)
        · have hf := (if_pos c_12).symm.trans hf
          refine lv_aload_n C0.1 C0.2.1 dX10_signs_59 rfl (lv_at hl 0 rfl) ?_
          refine r_get (C := RX10) (T := TX10) (N9 := 20) (ci := 11) C0 C1 hI iX10 rfl 0 5 (Nat.le_of_ble_eq_true rfl) (by decide) ((fun _ => rfl) _) rfl rfl w_1696 dX10_signs_60 ?_
          refine lv_iload_n C0.1 C0.2.1 dX10_signs_63 rfl (lv_at hl 1 rfl) ?_
          refine lv_aload_n C0.1 C0.2.1 dX10_signs_64 rfl (lv_at hl 0 rfl) ?_
          refine r_get (C := RX10) (T := TX10) (N9 := 20) (ci := 11) C0 C1 hI iX10 rfl 0 5 (Nat.le_of_ble_eq_true rfl) (by decide) ((fun _ => rfl) _) rfl rfl w_1696 dX10_signs_65 ?_
          refine lv_iload_n C0.1 C0.2.1 dX10_signs_68 rfl (lv_at hl 1 rfl) ?_
          refine lv_iconst (v := 5) C0.1 C0.2.1 dX10_signs_69 (by decide) ?_
          obtain ⟨r_14, h_13, hf⟩ := ob_some hf
          refine k_i C1 hI (q_S C0 C1 hI (c_X10_of l g X b H.size n M x1 5 h_13) w_1878 w_1879 w_132 w_1880 ⟨rfl, rfl⟩ hd_X10_of ⟨Nat.le_of_ble_eq_true rfl, Nat.le_of_ble_eq_true rfl⟩ rfl hl.1 rfl (Nat.le_of_ble_eq_true rfl) dX10_signs_70 ⟨Nat.le_of_ble_eq_true rfl, Nat.le_of_ble_eq_true rfl⟩) (fun H locs hI => ?_)
          obtain ⟨h_15, hf⟩ := chk_some hf
          refine r_iald C0 C1 hI 1 (Nat.le_of_ble_eq_true rfl) (fun _ => rfl) h_15 dX10_signs_73 ?_
          obtain ⟨r_17, h_16, hf⟩ := ob_some hf
          refine k_i C1 hI (q_S C0 C1 hI (c_X10_listed l g X b H.size n M x1 (M 1 (ix r_14)) h_16) w_1917 w_1918 w_132 w_1919 ⟨rfl, rfl⟩ hd_X10_listed ⟨Nat.le_of_ble_eq_true rfl, Nat.le_of_ble_eq_true rfl⟩ rfl hl.1 rfl (Nat.le_of_ble_eq_true rfl) dX10_signs_74 ⟨Nat.le_of_ble_eq_true rfl, Nat.le_of_ble_eq_true rfl⟩) (fun H locs hI => ?_)
          refine lv_iload_n C0.1 C0.2.1 dX10_signs_77 rfl (lv_at hl 2 rfl) ?_
          obtain ⟨h_18, hf⟩ := chk_some hf
          refine r_iast C0 C1 hI 1 (Nat.le_of_ble_eq_true rfl) (fun _ => rfl) h_18 dX10_signs_78 (fun H locs hI => ?_)
          obtain ⟨M_21, e_22⟩ : ∃ z : Mem, z = up2 M 1 (ix r_17) x2 := ⟨_, rfl⟩
          rw [← e_22] at hI
          have hf := lt_at e_22 hf
          refine lv_aload_n C0.1 C0.2.1 dX10_signs_79 rfl (lv_at hl 0 rfl) ?_
          refine r_get (C := RX10) (T := TX10) (N9 := 20) (ci := 11) C0 C1 hI iX10 rfl 0 5 (Nat.le_of_ble_eq_true rfl) (by decide) ((fun _ => rfl) _) rfl rfl w_1696 dX10_signs_80 ?_
          refine lv_iload_n C0.1 C0.2.1 dX10_signs_83 rfl (lv_at hl 1 rfl) ?_
          refine lv_iconst (v := 5) C0.1 C0.2.1 dX10_signs_84 (by decide) ?_
          obtain ⟨r_24, h_23, hf⟩ := ob_some hf
          refine k_i C1 hI (q_S C0 C1 hI (c_X10_of l g X b H.size n M_21 x1 5 h_23) w_1878 w_1879 w_132 w_1880 ⟨rfl, rfl⟩ hd_X10_of ⟨Nat.le_of_ble_eq_true rfl, Nat.le_of_ble_eq_true rfl⟩ rfl hl.1 rfl (Nat.le_of_ble_eq_true rfl) dX10_signs_85 ⟨Nat.le_of_ble_eq_true rfl, Nat.le_of_ble_eq_true rfl⟩) (fun H locs hI => ?_)
          refine lv_dup2_11 C0.1 C0.2.1 dX10_signs_88 rfl rfl ?_
          obtain ⟨h_25, hf⟩ := chk_some hf
          refine r_iald C0 C1 hI 1 (Nat.le_of_ble_eq_true rfl) (fun _ => rfl) h_25 dX10_signs_89 ?_
          refine lv_iconst (v := 1) C0.1 C0.2.1 dX10_signs_90 (by decide) ?_
          refine lv_iadd C0.1 C0.2.1 dX10_signs_91 ?_
          obtain ⟨h_26, hf⟩ := chk_some hf
          refine r_iast C0 C1 hI 1 (Nat.le_of_ble_eq_true rfl) (fun _ => rfl) h_26 dX10_signs_92 (fun H locs hI => ?_)
          obtain ⟨M_29, e_30⟩ : ∃ z : Mem, z = up2 M_21 1 (ix r_24) ((M_21 1 (ix r_24)) + 1) := ⟨_, rfl⟩
          rw [← e_30] at hI
          have hf := lt_at e_30 hf
          refine lv_aload_n C0.1 C0.2.1 dX10_signs_93 rfl (lv_at hl 0 rfl) ?_
          refine r_get (C := RX10) (T := TX10) (N9 := 20) (ci := 11) C0 C1 hI iX10 rfl 0 5 (Nat.le_of_ble_eq_true rfl) (by decide) ((fun _ => rfl) _) rfl rfl w_1696 dX10_signs_94 ?_
          refine lv_iload_n C0.1 C0.2.1 dX10_signs_97 rfl (lv_at hl 1 rfl) ?_
          refine lv_iconst (v := 5) C0.1 C0.2.1 dX10_signs_98 (by decide) ?_
          obtain ⟨r_32, h_31, hf⟩ := ob_some hf
          refine k_i C1 hI (q_S C0 C1 hI (c_X10_of l g X b H.size n M_29 x1 5 h_31) w_1878 w_1879 w_132 w_1880 ⟨rfl, rfl⟩ hd_X10_of ⟨Nat.le_of_ble_eq_true rfl, Nat.le_of_ble_eq_true rfl⟩ rfl hl.1 rfl (Nat.le_of_ble_eq_true rfl) dX10_signs_99 ⟨Nat.le_of_ble_eq_true rfl, Nat.le_of_ble_eq_true rfl⟩) (fun H locs hI => ?_)
          obtain ⟨h_33, hf⟩ := chk_some hf
          refine r_iald C0 C1 hI 1 (Nat.le_of_ble_eq_true rfl) (fun _ => rfl) h_33 dX10_signs_102 ?_
          exact ee_im C0 hI hr hlocks hf dX10_signs_103
        · have hf := (if_neg c_12).symm.trans hf
          refine lv_aload_n C0.1 C0.2.1 dX10_signs_53 rfl (lv_at hl 0 rfl) ?_
          refine lv_iconst (v := 4) C0.1 C0.2.1 dX10_signs_54 (by decide) ?_
          obtain ⟨r_35, M_36, h_34, hf⟩ := ob2_some hf
          refine k_i C1 hI (q_V C0 C1 hI 0 (c_X10_fail l g X b H.size n M 4 h_34) w_1774 w_1776 w_72 w_132 w_1777 ⟨rfl, rfl⟩ hd_X10_fail ⟨Nat.le_of_ble_eq_true rfl, Nat.le_of_ble_eq_true rfl⟩ (Nat.le_of_ble_eq_true rfl) ((fun _ => rfl) _) rfl rfl rfl hl.1 rfl (Nat.le_of_ble_eq_true rfl) dX10_signs_55 ⟨Nat.le_of_ble_eq_true rfl, Nat.le_of_ble_eq_true rfl⟩) (fun H locs hI => ?_)
          exact ee_im C0 hI hr hlocks hf dX10_signs_58
      · have hf := (if_neg c_9).symm.trans hf
        refine lv_aload_n C0.1 C0.2.1 dX10_signs_38 rfl (lv_at hl 0 rfl) ?_
        refine lv_iconst (v := 3) C0.1 C0.2.1 dX10_signs_39 (by decide) ?_
        obtain ⟨r_38, M_39, h_37, hf⟩ := ob2_some hf
        refine k_i C1 hI (q_V C0 C1 hI 0 (c_X10_fail l g X b H.size n M 3 h_37) w_1774 w_1776 w_72 w_132 w_1777 ⟨rfl, rfl⟩ hd_X10_fail ⟨Nat.le_of_ble_eq_true rfl, Nat.le_of_ble_eq_true rfl⟩ (Nat.le_of_ble_eq_true rfl) ((fun _ => rfl) _) rfl rfl rfl hl.1 rfl (Nat.le_of_ble_eq_true rfl) dX10_signs_40 ⟨Nat.le_of_ble_eq_true rfl, Nat.le_of_ble_eq_true rfl⟩) (fun H locs hI => ?_)
        exact ee_im C0 hI hr hlocks hf dX10_signs_43
    · have hf := (if_pos c_6).symm.trans hf
      refine lv_aload_n C0.1 C0.2.1 dX10_signs_24 rfl (lv_at hl 0 rfl) ?_
      refine lv_iconst (v := 2) C0.1 C0.2.1 dX10_signs_25 (by decide) ?_
      obtain ⟨r_41, M_42, h_40, hf⟩ := ob2_some hf
      refine k_i C1 hI (q_V C0 C1 hI 0 (c_X10_fail l g X b H.size n M 2 h_40) w_1774 w_1776 w_72 w_132 w_1777 ⟨rfl, rfl⟩ hd_X10_fail ⟨Nat.le_of_ble_eq_true rfl, Nat.le_of_ble_eq_true rfl⟩ (Nat.le_of_ble_eq_true rfl) ((fun _ => rfl) _) rfl rfl rfl hl.1 rfl (Nat.le_of_ble_eq_true rfl) dX10_signs_26 ⟨Nat.le_of_ble_eq_true rfl, Nat.le_of_ble_eq_true rfl⟩) (fun H locs hI => ?_)
      exact ee_im C0 hI hr hlocks hf dX10_signs_29
  · have hf := (if_pos c_3).symm.trans hf
    refine lv_aload_n C0.1 C0.2.1 dX10_signs_9 rfl (lv_at hl 0 rfl) ?_
    refine lv_iconst (v := 1) C0.1 C0.2.1 dX10_signs_10 (by decide) ?_
    obtain ⟨r_44, M_45, h_43, hf⟩ := ob2_some hf
    refine k_i C1 hI (q_V C0 C1 hI 0 (c_X10_fail l g X b H.size n M 1 h_43) w_1774 w_1776 w_72 w_132 w_1777 ⟨rfl, rfl⟩ hd_X10_fail ⟨Nat.le_of_ble_eq_true rfl, Nat.le_of_ble_eq_true rfl⟩ (Nat.le_of_ble_eq_true rfl) ((fun _ => rfl) _) rfl rfl rfl hl.1 rfl (Nat.le_of_ble_eq_true rfl) dX10_signs_11 ⟨Nat.le_of_ble_eq_true rfl, Nat.le_of_ble_eq_true rfl⟩) (fun H locs hI => ?_)
    exact ee_im C0 hI hr hlocks hf dX10_signs_14

def F_X10_signUp (n : Nat) (x1 : Int32) (x2 : Int32) (M : Mem) : Option (Int32 × Mem) :=
  ob (F_X10_begins n M) (fun M_2 => ob2 (F_X10_signs n x1 x2 M_2) (fun r_4 M_5 => ob2 (F_X10_ends n r_4 M_5) (fun r_7 M_8 => some (r_7, M_8))))
theorem hd_X10_signUp : yX10_signUp.cls ≠ "java/lang/invoke/MethodHandle" ∧ yX10_signUp.cls ≠ "java/lang/invoke/VarHandle" ∧ (parseMethodDescriptor yX10_signUp.desc).map (fun d => d.parameters.length) = some 2 := ⟨by decide +kernel, by decide +kernel, by decide +kernel⟩
set_option maxHeartbeats 4000000 in
set_option maxRecDepth 100000 in
theorem c_X10_signUp (l : Launch) (g : GG) (X : va_W) (b : Nat → Nat) (sz n : Nat) (M : Mem) (x1 : Int32) (x2 : Int32) {r0 : Int32} {M' : Mem} (hf : F_X10_signUp n x1 x2 M = some (r0, M')) : Met l yX10_signUp (.code yX10_signUp cX10_signUp 3 (some .int) :: LWg) (rmD 4 0 0) (va_Pc [.ref (b 0), .int x1, .int x2] (PreP g X 10 (shM g b) b sz M)) (Qi g X 10 (shM g b) b sz r0 M') 0 0 (AA X b 10 sz) := by
  refine met_go (by decide +kernel) rfl (Nat.le_of_ble_eq_true rfl) ?_
  intro p e s m below meth c ls H locs C0 C1 hr hlocks hnm hsz hl hI
  subst hsz
  have hl : lv_has ls 3 [(0, .ref (b 0)), (1, .int x1), (2, .int x2)] := hl
  unfold F_X10_signUp at hf
  refine lv_aload_n C0.1 C0.2.1 dX10_signUp_0 rfl (lv_at hl 0 rfl) ?_
  obtain ⟨M_2, h_1, hf⟩ := ob_some hf
  refine k_v C1 hI (q_V C0 C1 hI 0 (c_X10_begins l g X b H.size n M h_1) w_1760 w_1762 w_70 w_132 w_1763 ⟨rfl, rfl⟩ hd_X10_begins ⟨Nat.le_of_ble_eq_true rfl, Nat.le_of_ble_eq_true rfl⟩ (Nat.le_of_ble_eq_true rfl) ((fun _ => rfl) _) rfl rfl rfl hl.1 rfl (Nat.le_of_ble_eq_true rfl) dX10_signUp_1 ⟨Nat.le_of_ble_eq_true rfl, Nat.le_of_ble_eq_true rfl⟩) (fun H locs hI => ?_)
  refine lv_aload_n C0.1 C0.2.1 dX10_signUp_4 rfl (lv_at hl 0 rfl) ?_
  refine lv_aload_n C0.1 C0.2.1 dX10_signUp_5 rfl (lv_at hl 0 rfl) ?_
  refine lv_iload_n C0.1 C0.2.1 dX10_signUp_6 rfl (lv_at hl 1 rfl) ?_
  refine lv_iload_n C0.1 C0.2.1 dX10_signUp_7 rfl (lv_at hl 2 rfl) ?_
  obtain ⟨r_4, M_5, h_3, hf⟩ := ob2_some hf
  refine k_i C1 hI (q_V C0 C1 hI 0 (c_X10_signs l g X b H.size n M_2 x1 x2 h_3) w_1905 w_1907 w_88 w_132 w_1908 ⟨rfl, rfl⟩ hd_X10_signs ⟨Nat.le_of_ble_eq_true rfl, Nat.le_of_ble_eq_true rfl⟩ (Nat.le_of_ble_eq_true rfl) ((fun _ => rfl) _) rfl rfl rfl hl.1 rfl (Nat.le_of_ble_eq_true rfl) dX10_signUp_8 ⟨Nat.le_of_ble_eq_true rfl, Nat.le_of_ble_eq_true rfl⟩) (fun H locs hI => ?_)
  obtain ⟨r_7, M_8, h_6, hf⟩ := ob2_some hf
  refine k_i C1 hI (q_V C0 C1 hI 0 (c_X10_ends l g X b H.size n M_5 r_4 h_6) w_1778 w_1780 w_73 w_132 w_1781 ⟨rfl, rfl⟩ hd_X10_ends ⟨Nat.le_of_ble_eq_true rfl, Nat.le_of_ble_eq_true rfl⟩ (Nat.le_of_ble_eq_true rfl) ((fun _ => rfl) _) rfl rfl rfl hl.1 rfl (Nat.le_of_ble_eq_true rfl) dX10_signUp_11 ⟨Nat.le_of_ble_eq_true rfl, Nat.le_of_ble_eq_true rfl⟩) (fun H locs hI => ?_)
  exact ee_im C0 hI hr hlocks hf dX10_signUp_14

def F_X10_takes_L16 (n : Nat) : Nat → Int32 → Int32 → Mem → Option Mem
  | 0, _, _, _ => none
  | k16 + 1, x1_16, x3_16, M =>
    ob (F_X10_of n x1_16 5 M) (fun r_16_2 => chk (inb r_16_2 407) ((if (M 1 (ix r_16_2)) ≤ x3_16 then ob (F_X10_of n x1_16 5 M) (fun r_16_6 => chk (inb r_16_6 407) (ob (F_X10_listed n x1_16 (M 1 (ix r_16_6)) M) (fun r_16_9 => chk (inb r_16_9 407) (lt' (up2 M 1 (ix r_16_9) 0) (fun M_16_13 => some M_16_13))))) else ob (F_X10_listed n x1_16 x3_16 M) (fun r_16_16 => ob (F_X10_listed n x1_16 (x3_16 + 1) M) (fun r_16_18 => chk (inb r_16_18 407) (chk (inb r_16_16 407) (lt' (up2 M 1 (ix r_16_16) (M 1 (ix r_16_18))) (fun M_16_23 => lt' (x3_16 + 1) (fun x3_16_25 => F_X10_takes_L16 n k16 x1_16 x3_16_25 M_16_23)))))))))
def F_X10_takes (n : Nat) (x1 : Int32) (x2 : Int32) (M : Mem) : Option Mem :=
  ob (F_X10_of n x1 5 M) (fun r_2 => chk (inb r_2 407) (chk (inb r_2 407) (lt' (up2 M 1 (ix r_2) ((M 1 (ix r_2)) - 1)) (fun M_7 => F_X10_takes_L16 n n x1 x2 M_7))))
theorem hd_X10_takes : yX10_takes.cls ≠ "java/lang/invoke/MethodHandle" ∧ yX10_takes.cls ≠ "java/lang/invoke/VarHandle" ∧ (parseMethodDescriptor yX10_takes.desc).map (fun d => d.parameters.length) = some 2 := ⟨by decide +kernel, by decide +kernel, by decide +kernel⟩
set_option maxHeartbeats 4000000 in
set_option maxRecDepth 100000 in
theorem c_X10_takes (l : Launch) (g : GG) (X : va_W) (b : Nat → Nat) (sz n : Nat) (M : Mem) (x1 : Int32) (x2 : Int32)  {M' : Mem} (hf : F_X10_takes n x1 x2 M = some M') : Met l yX10_takes (.code yX10_takes cX10_takes 4 none :: LWg) (rmD 1 0 0) (va_Pc [.ref (b 0), .int x1, .int x2] (PreP g X 10 (shM g b) b sz M)) (Qv g X 10 (shM g b) b sz M') 0 0 (AA X b 10 sz) := by
  refine met_go (by decide +kernel) rfl (Nat.le_of_ble_eq_true rfl) ?_
  intro p e s m below meth c ls H locs C0 C1 hr hlocks hnm hsz hl hI
  subst hsz
  have hl : lv_has ls 4 [(0, .ref (b 0)), (1, .int x1), (2, .int x2)] := hl
  unfold F_X10_takes at hf
  refine lv_aload_n C0.1 C0.2.1 dX10_takes_0 rfl (lv_at hl 0 rfl) ?_
  refine r_get (C := RX10) (T := TX10) (N9 := 20) (ci := 11) C0 C1 hI iX10 rfl 0 5 (Nat.le_of_ble_eq_true rfl) (by decide) ((fun _ => rfl) _) rfl rfl w_1696 dX10_takes_1 ?_
  refine lv_iload_n C0.1 C0.2.1 dX10_takes_4 rfl (lv_at hl 1 rfl) ?_
  refine lv_iconst (v := 5) C0.1 C0.2.1 dX10_takes_5 (by decide) ?_
  obtain ⟨r_2, h_1, hf⟩ := ob_some hf
  refine k_i C1 hI (q_S C0 C1 hI (c_X10_of l g X b H.size n M x1 5 h_1) w_1878 w_1879 w_132 w_1880 ⟨rfl, rfl⟩ hd_X10_of ⟨Nat.le_of_ble_eq_true rfl, Nat.le_of_ble_eq_true rfl⟩ rfl hl.1 rfl (Nat.le_of_ble_eq_true rfl) dX10_takes_6 ⟨Nat.le_of_ble_eq_true rfl, Nat.le_of_ble_eq_true rfl⟩) (fun H locs hI => ?_)
  refine lv_dup2_11 C0.1 C0.2.1 dX10_takes_9 rfl rfl ?_
  obtain ⟨h_3, hf⟩ := chk_some hf
  refine r_iald C0 C1 hI 1 (Nat.le_of_ble_eq_true rfl) (fun _ => rfl) h_3 dX10_takes_10 ?_
  refine lv_iconst (v := 1) C0.1 C0.2.1 dX10_takes_11 (by decide) ?_
  refine lv_isub C0.1 C0.2.1 dX10_takes_12 ?_
  obtain ⟨h_4, hf⟩ := chk_some hf
  refine r_iast C0 C1 hI 1 (Nat.le_of_ble_eq_true rfl) (fun _ => rfl) h_4 dX10_takes_13 (fun H locs hI => ?_)
  obtain ⟨M_7, e_8⟩ : ∃ z : Mem, z = up2 M 1 (ix r_2) ((M 1 (ix r_2)) - 1) := ⟨_, rfl⟩
  rw [← e_8] at hI
  have hf := lt_at e_8 hf
  refine lv_iload_n C0.1 C0.2.1 dX10_takes_14 rfl (lv_at hl 2 rfl) ?_
  refine lv_istore_n (lv' := [(3, .int x2), (0, .ref (b 0)), (1, .int x1), (2, .int x2)]) C0.1 C0.2.1 dX10_takes_15 rfl hl (by decide) rfl (fun ls hl => ?_)
  have L16 : ∀ (k16 : Nat) (x1_16 : Int32) (x3_16 : Int32) (M : Mem), F_X10_takes_L16 n k16 x1_16 x3_16 M = some M' → ∀ (H : Heap) (locs : List Loc) (ls : Array Slot), PI g X 10 (shM g b) b s M H locs → lv_has ls 4 [(0, .ref (b 0)), (1, .int x1_16), (3, .int x3_16)] → W p l e (rmD 1 0 0) s m ([.ref (b 0), .int x1, .int x2] : List Value).toArray below meth c H locs 0 0 (MQ below (Qv g X 10 (shM g b) b s.heap.size M') ([.ref (b 0), .int x1, .int x2] : List Value).toArray s 0 0 (AA X b 10 s.heap.size)) (F0 m 16 ls []) := by
    intro k16
    induction k16 with
    | zero => intro x1_16 x3_16 M hf; exact absurd (show (none : Option Mem) = some M' from hf) (fun h => by cases h)
    | succ k16 ih16 =>
      intro x1_16 x3_16 M hf H locs ls hI hl
      unfold F_X10_takes_L16 at hf
      refine lv_iload_n C0.1 C0.2.1 dX10_takes_16 rfl (lv_at hl 2 rfl) ?_
      refine lv_aload_n C0.1 C0.2.1 dX10_takes_17 rfl (lv_at hl 0 rfl) ?_
      refine r_get (C := RX10) (T := TX10) (N9 := 20) (ci := 11) C0 C1 hI iX10 rfl 0 5 (Nat.le_of_ble_eq_true rfl) (by decide) ((fun _ => rfl) _) rfl rfl w_1696 dX10_takes_18 ?_
      refine lv_iload_n C0.1 C0.2.1 dX10_takes_21 rfl (lv_at hl 1 rfl) ?_
      refine lv_iconst (v := 5) C0.1 C0.2.1 dX10_takes_22 (by decide) ?_
      obtain ⟨r_16_2, h_16_1, hf⟩ := ob_some hf
      refine k_i C1 hI (q_S C0 C1 hI (c_X10_of l g X b H.size n M x1_16 5 h_16_1) w_1878 w_1879 w_132 w_1880 ⟨rfl, rfl⟩ hd_X10_of ⟨Nat.le_of_ble_eq_true rfl, Nat.le_of_ble_eq_true rfl⟩ rfl hl.1 rfl (Nat.le_of_ble_eq_true rfl) dX10_takes_23 ⟨Nat.le_of_ble_eq_true rfl, Nat.le_of_ble_eq_true rfl⟩) (fun H locs hI => ?_)
      obtain ⟨h_16_3, hf⟩ := chk_some hf
      refine r_iald C0 C1 hI 1 (Nat.le_of_ble_eq_true rfl) (fun _ => rfl) h_16_3 dX10_takes_26 ?_
      refine lv_icmp_ge (tgt := 58) C0.1 C0.2.1 dX10_takes_27 (by decide) (fun c_16_4 => ?_) (fun c_16_4 => ?_)
      · have hf := (if_pos c_16_4).symm.trans hf
        refine lv_aload_n C0.1 C0.2.1 dX10_takes_58 rfl (lv_at hl 0 rfl) ?_
        refine r_get (C := RX10) (T := TX10) (N9 := 20) (ci := 11) C0 C1 hI iX10 rfl 0 5 (Nat.le_of_ble_eq_true rfl) (by decide) ((fun _ => rfl) _) rfl rfl w_1696 dX10_takes_59 ?_
        refine lv_iload_n C0.1 C0.2.1 dX10_takes_62 rfl (lv_at hl 1 rfl) ?_
        refine lv_aload_n C0.1 C0.2.1 dX10_takes_63 rfl (lv_at hl 0 rfl) ?_
        refine r_get (C := RX10) (T := TX10) (N9 := 20) (ci := 11) C0 C1 hI iX10 rfl 0 5 (Nat.le_of_ble_eq_true rfl) (by decide) ((fun _ => rfl) _) rfl rfl w_1696 dX10_takes_64 ?_
        refine lv_iload_n C0.1 C0.2.1 dX10_takes_67 rfl (lv_at hl 1 rfl) ?_
        refine lv_iconst (v := 5) C0.1 C0.2.1 dX10_takes_68 (by decide) ?_
        obtain ⟨r_16_6, h_16_5, hf⟩ := ob_some hf
        refine k_i C1 hI (q_S C0 C1 hI (c_X10_of l g X b H.size n M x1_16 5 h_16_5) w_1878 w_1879 w_132 w_1880 ⟨rfl, rfl⟩ hd_X10_of ⟨Nat.le_of_ble_eq_true rfl, Nat.le_of_ble_eq_true rfl⟩ rfl hl.1 rfl (Nat.le_of_ble_eq_true rfl) dX10_takes_69 ⟨Nat.le_of_ble_eq_true rfl, Nat.le_of_ble_eq_true rfl⟩) (fun H locs hI => ?_)
        obtain ⟨h_16_7, hf⟩ := chk_some hf
        refine r_iald C0 C1 hI 1 (Nat.le_of_ble_eq_true rfl) (fun _ => rfl) h_16_7 dX10_takes_72 ?_
        obtain ⟨r_16_9, h_16_8, hf⟩ := ob_some hf
        refine k_i C1 hI (q_S C0 C1 hI (c_X10_listed l g X b H.size n M x1_16 (M 1 (ix r_16_6)) h_16_8) w_1917 w_1918 w_132 w_1919 ⟨rfl, rfl⟩ hd_X10_listed ⟨Nat.le_of_ble_eq_true rfl, Nat.le_of_ble_eq_true rfl⟩ rfl hl.1 rfl (Nat.le_of_ble_eq_true rfl) dX10_takes_73 ⟨Nat.le_of_ble_eq_true rfl, Nat.le_of_ble_eq_true rfl⟩) (fun H locs hI => ?_)
        refine lv_iconst (v := 0) C0.1 C0.2.1 dX10_takes_76 (by decide) ?_
        obtain ⟨h_16_10, hf⟩ := chk_some hf
        refine r_iast C0 C1 hI 1 (Nat.le_of_ble_eq_true rfl) (fun _ => rfl) h_16_10 dX10_takes_77 (fun H locs hI => ?_)
        obtain ⟨M_16_13, e_16_14⟩ : ∃ z : Mem, z = up2 M 1 (ix r_16_9) 0 := ⟨_, rfl⟩
        rw [← e_16_14] at hI
        have hf := lt_at e_16_14 hf
        exact ee_vm C0 hI hr hlocks hf dX10_takes_78
      · have hf := (if_neg c_16_4).symm.trans hf
        refine lv_aload_n C0.1 C0.2.1 dX10_takes_30 rfl (lv_at hl 0 rfl) ?_
        refine r_get (C := RX10) (T := TX10) (N9 := 20) (ci := 11) C0 C1 hI iX10 rfl 0 5 (Nat.le_of_ble_eq_true rfl) (by decide) ((fun _ => rfl) _) rfl rfl w_1696 dX10_takes_31 ?_
        refine lv_iload_n C0.1 C0.2.1 dX10_takes_34 rfl (lv_at hl 1 rfl) ?_
        refine lv_iload_n C0.1 C0.2.1 dX10_takes_35 rfl (lv_at hl 2 rfl) ?_
        obtain ⟨r_16_16, h_16_15, hf⟩ := ob_some hf
        refine k_i C1 hI (q_S C0 C1 hI (c_X10_listed l g X b H.size n M x1_16 x3_16 h_16_15) w_1917 w_1918 w_132 w_1919 ⟨rfl, rfl⟩ hd_X10_listed ⟨Nat.le_of_ble_eq_true rfl, Nat.le_of_ble_eq_true rfl⟩ rfl hl.1 rfl (Nat.le_of_ble_eq_true rfl) dX10_takes_36 ⟨Nat.le_of_ble_eq_true rfl, Nat.le_of_ble_eq_true rfl⟩) (fun H locs hI => ?_)
        refine lv_aload_n C0.1 C0.2.1 dX10_takes_39 rfl (lv_at hl 0 rfl) ?_
        refine r_get (C := RX10) (T := TX10) (N9 := 20) (ci := 11) C0 C1 hI iX10 rfl 0 5 (Nat.le_of_ble_eq_true rfl) (by decide) ((fun _ => rfl) _) rfl rfl w_1696 dX10_takes_40 ?_
        refine lv_iload_n C0.1 C0.2.1 dX10_takes_43 rfl (lv_at hl 1 rfl) ?_
        refine lv_iload_n C0.1 C0.2.1 dX10_takes_44 rfl (lv_at hl 2 rfl) ?_
        refine lv_iconst (v := 1) C0.1 C0.2.1 dX10_takes_45 (by decide) ?_
        refine lv_iadd C0.1 C0.2.1 dX10_takes_46 ?_
        obtain ⟨r_16_18, h_16_17, hf⟩ := ob_some hf
        refine k_i C1 hI (q_S C0 C1 hI (c_X10_listed l g X b H.size n M x1_16 (x3_16 + 1) h_16_17) w_1917 w_1918 w_132 w_1919 ⟨rfl, rfl⟩ hd_X10_listed ⟨Nat.le_of_ble_eq_true rfl, Nat.le_of_ble_eq_true rfl⟩ rfl hl.1 rfl (Nat.le_of_ble_eq_true rfl) dX10_takes_47 ⟨Nat.le_of_ble_eq_true rfl, Nat.le_of_ble_eq_true rfl⟩) (fun H locs hI => ?_)
        obtain ⟨h_16_19, hf⟩ := chk_some hf
        refine r_iald C0 C1 hI 1 (Nat.le_of_ble_eq_true rfl) (fun _ => rfl) h_16_19 dX10_takes_50 ?_
        obtain ⟨h_16_20, hf⟩ := chk_some hf
        refine r_iast C0 C1 hI 1 (Nat.le_of_ble_eq_true rfl) (fun _ => rfl) h_16_20 dX10_takes_51 (fun H locs hI => ?_)
        obtain ⟨M_16_23, e_16_24⟩ : ∃ z : Mem, z = up2 M 1 (ix r_16_16) (M 1 (ix r_16_18)) := ⟨_, rfl⟩
        rw [← e_16_24] at hI
        have hf := lt_at e_16_24 hf
        obtain ⟨x3_16_25, e_16_26⟩ : ∃ z : Int32, z = x3_16 + 1 := ⟨_, rfl⟩
        have hf := lt_at e_16_26 hf
        refine lv_iinc (v := x3_16_25) (lv' := [(3, .int x3_16_25), (0, .ref (b 0)), (1, .int x1_16)]) C0.1 C0.2.1 dX10_takes_52 hl (k := 2) rfl (by rw [e_16_26]; rfl) (by decide) rfl (fun ls hl => ?_)
        refine lv_goto (tgt := 16) C0.1 C0.2.1 dX10_takes_55 (by decide) ?_
        exact ih16 x1_16 x3_16_25 M_16_23 hf H locs ls hI (lv_sub hl [1, 2, 0] rfl)
  exact L16 n x1 x2 M_7 hf H locs ls hI (lv_sub hl [1, 2, 0] rfl)

def F_X10_strikes (n : Nat) (x1 : Int32) (x2 : Int32) (M : Mem) : Option (Int32 × Mem) :=
  ob (F_X10_areThere n x1 x2 M) (fun r_2 => (if r_2 = 0 then ob2 (F_X10_fail n 1 M) (fun r_16 M_17 => some (r_16, M_17)) else ob (F_X10_place n x1 x2 M) (fun r_5 => (if 0 ≤ r_5 then ob (F_X10_takes n x1 r_5 M) (fun M_8 => ob (F_X10_of n x1 5 M_8) (fun r_10 => chk (inb r_10 407) (some (M_8 1 (ix r_10), M_8)))) else ob2 (F_X10_fail n 2 M) (fun r_13 M_14 => some (r_13, M_14))))))
theorem hd_X10_strikes : yX10_strikes.cls ≠ "java/lang/invoke/MethodHandle" ∧ yX10_strikes.cls ≠ "java/lang/invoke/VarHandle" ∧ (parseMethodDescriptor yX10_strikes.desc).map (fun d => d.parameters.length) = some 2 := ⟨by decide +kernel, by decide +kernel, by decide +kernel⟩
set_option maxHeartbeats 4000000 in
set_option maxRecDepth 100000 in
theorem c_X10_strikes (l : Launch) (g : GG) (X : va_W) (b : Nat → Nat) (sz n : Nat) (M : Mem) (x1 : Int32) (x2 : Int32) {r0 : Int32} {M' : Mem} (hf : F_X10_strikes n x1 x2 M = some (r0, M')) : Met l yX10_strikes (.code yX10_strikes cX10_strikes 4 (some .int) :: LWg) (rmD 3 0 0) (va_Pc [.ref (b 0), .int x1, .int x2] (PreP g X 10 (shM g b) b sz M)) (Qi g X 10 (shM g b) b sz r0 M') 0 0 (AA X b 10 sz) := by
  refine met_go (by decide +kernel) rfl (Nat.le_of_ble_eq_true rfl) ?_
  intro p e s m below meth c ls H locs C0 C1 hr hlocks hnm hsz hl hI
  subst hsz
  have hl : lv_has ls 4 [(0, .ref (b 0)), (1, .int x1), (2, .int x2)] := hl
  unfold F_X10_strikes at hf
  refine lv_aload_n C0.1 C0.2.1 dX10_strikes_0 rfl (lv_at hl 0 rfl) ?_
  refine lv_iload_n C0.1 C0.2.1 dX10_strikes_1 rfl (lv_at hl 1 rfl) ?_
  refine lv_iload_n C0.1 C0.2.1 dX10_strikes_2 rfl (lv_at hl 2 rfl) ?_
  obtain ⟨r_2, h_1, hf⟩ := ob_some hf
  refine k_i C1 hI (q_V C0 C1 hI 0 (c_X10_areThere l g X b H.size n M x1 x2 h_1) w_1889 w_1891 w_85 w_132 w_1892 ⟨rfl, rfl⟩ hd_X10_areThere ⟨Nat.le_of_ble_eq_true rfl, Nat.le_of_ble_eq_true rfl⟩ (Nat.le_of_ble_eq_true rfl) ((fun _ => rfl) _) rfl rfl rfl hl.1 rfl (Nat.le_of_ble_eq_true rfl) dX10_strikes_3 ⟨Nat.le_of_ble_eq_true rfl, Nat.le_of_ble_eq_true rfl⟩) (fun H locs hI => ?_)
  refine lv_if_ne (tgt := 15) C0.1 C0.2.1 dX10_strikes_6 (by decide) (fun c_3 => ?_) (fun c_3 => ?_)
  · have hf := (if_neg c_3).symm.trans hf
    refine lv_aload_n C0.1 C0.2.1 dX10_strikes_15 rfl (lv_at hl 0 rfl) ?_
    refine lv_iload_n C0.1 C0.2.1 dX10_strikes_16 rfl (lv_at hl 1 rfl) ?_
    refine lv_iload_n C0.1 C0.2.1 dX10_strikes_17 rfl (lv_at hl 2 rfl) ?_
    obtain ⟨r_5, h_4, hf⟩ := ob_some hf
    refine k_i C1 hI (q_V C0 C1 hI 0 (c_X10_place l g X b H.size n M x1 x2 h_4) w_1913 w_1915 w_90 w_132 w_1916 ⟨rfl, rfl⟩ hd_X10_place ⟨Nat.le_of_ble_eq_true rfl, Nat.le_of_ble_eq_true rfl⟩ (Nat.le_of_ble_eq_true rfl) ((fun _ => rfl) _) rfl rfl rfl hl.1 rfl (Nat.le_of_ble_eq_true rfl) dX10_strikes_18 ⟨Nat.le_of_ble_eq_true rfl, Nat.le_of_ble_eq_true rfl⟩) (fun H locs hI => ?_)
    refine lv_istore_n (lv' := [(3, .int r_5), (0, .ref (b 0)), (1, .int x1), (2, .int x2)]) C0.1 C0.2.1 dX10_strikes_21 rfl hl (by decide) rfl (fun ls hl => ?_)
    refine lv_iload_n C0.1 C0.2.1 dX10_strikes_22 rfl (lv_at hl 0 rfl) ?_
    refine lv_if_ge (tgt := 32) C0.1 C0.2.1 dX10_strikes_23 (by decide) (fun c_6 => ?_) (fun c_6 => ?_)
    · have hf := (if_pos c_6).symm.trans hf
      refine lv_aload_n C0.1 C0.2.1 dX10_strikes_32 rfl (lv_at hl 1 rfl) ?_
      refine lv_iload_n C0.1 C0.2.1 dX10_strikes_33 rfl (lv_at hl 2 rfl) ?_
      refine lv_iload_n C0.1 C0.2.1 dX10_strikes_34 rfl (lv_at hl 0 rfl) ?_
      obtain ⟨M_8, h_7, hf⟩ := ob_some hf
      refine k_v C1 hI (q_V C0 C1 hI 0 (c_X10_takes l g X b H.size n M x1 r_5 h_7) w_1928 w_1930 w_92 w_132 w_1931 ⟨rfl, rfl⟩ hd_X10_takes ⟨Nat.le_of_ble_eq_true rfl, Nat.le_of_ble_eq_true rfl⟩ (Nat.le_of_ble_eq_true rfl) ((fun _ => rfl) _) rfl rfl rfl hl.1 rfl (Nat.le_of_ble_eq_true rfl) dX10_strikes_35 ⟨Nat.le_of_ble_eq_true rfl, Nat.le_of_ble_eq_true rfl⟩) (fun H locs hI => ?_)
      refine lv_aload_n C0.1 C0.2.1 dX10_strikes_38 rfl (lv_at hl 1 rfl) ?_
      refine r_get (C := RX10) (T := TX10) (N9 := 20) (ci := 11) C0 C1 hI iX10 rfl 0 5 (Nat.le_of_ble_eq_true rfl) (by decide) ((fun _ => rfl) _) rfl rfl w_1696 dX10_strikes_39 ?_
      refine lv_iload_n C0.1 C0.2.1 dX10_strikes_42 rfl (lv_at hl 2 rfl) ?_
      refine lv_iconst (v := 5) C0.1 C0.2.1 dX10_strikes_43 (by decide) ?_
      obtain ⟨r_10, h_9, hf⟩ := ob_some hf
      refine k_i C1 hI (q_S C0 C1 hI (c_X10_of l g X b H.size n M_8 x1 5 h_9) w_1878 w_1879 w_132 w_1880 ⟨rfl, rfl⟩ hd_X10_of ⟨Nat.le_of_ble_eq_true rfl, Nat.le_of_ble_eq_true rfl⟩ rfl hl.1 rfl (Nat.le_of_ble_eq_true rfl) dX10_strikes_44 ⟨Nat.le_of_ble_eq_true rfl, Nat.le_of_ble_eq_true rfl⟩) (fun H locs hI => ?_)
      obtain ⟨h_11, hf⟩ := chk_some hf
      refine r_iald C0 C1 hI 1 (Nat.le_of_ble_eq_true rfl) (fun _ => rfl) h_11 dX10_strikes_47 ?_
      exact ee_im C0 hI hr hlocks hf dX10_strikes_48
    · have hf := (if_neg c_6).symm.trans hf
      refine lv_aload_n C0.1 C0.2.1 dX10_strikes_26 rfl (lv_at hl 1 rfl) ?_
      refine lv_iconst (v := 2) C0.1 C0.2.1 dX10_strikes_27 (by decide) ?_
      obtain ⟨r_13, M_14, h_12, hf⟩ := ob2_some hf
      refine k_i C1 hI (q_V C0 C1 hI 0 (c_X10_fail l g X b H.size n M 2 h_12) w_1774 w_1776 w_72 w_132 w_1777 ⟨rfl, rfl⟩ hd_X10_fail ⟨Nat.le_of_ble_eq_true rfl, Nat.le_of_ble_eq_true rfl⟩ (Nat.le_of_ble_eq_true rfl) ((fun _ => rfl) _) rfl rfl rfl hl.1 rfl (Nat.le_of_ble_eq_true rfl) dX10_strikes_28 ⟨Nat.le_of_ble_eq_true rfl, Nat.le_of_ble_eq_true rfl⟩) (fun H locs hI => ?_)
      exact ee_im C0 hI hr hlocks hf dX10_strikes_31
  · have hf := (if_pos c_3).symm.trans hf
    refine lv_aload_n C0.1 C0.2.1 dX10_strikes_9 rfl (lv_at hl 0 rfl) ?_
    refine lv_iconst (v := 1) C0.1 C0.2.1 dX10_strikes_10 (by decide) ?_
    obtain ⟨r_16, M_17, h_15, hf⟩ := ob2_some hf
    refine k_i C1 hI (q_V C0 C1 hI 0 (c_X10_fail l g X b H.size n M 1 h_15) w_1774 w_1776 w_72 w_132 w_1777 ⟨rfl, rfl⟩ hd_X10_fail ⟨Nat.le_of_ble_eq_true rfl, Nat.le_of_ble_eq_true rfl⟩ (Nat.le_of_ble_eq_true rfl) ((fun _ => rfl) _) rfl rfl rfl hl.1 rfl (Nat.le_of_ble_eq_true rfl) dX10_strikes_11 ⟨Nat.le_of_ble_eq_true rfl, Nat.le_of_ble_eq_true rfl⟩) (fun H locs hI => ?_)
    exact ee_im C0 hI hr hlocks hf dX10_strikes_14

def F_X10_strike (n : Nat) (x1 : Int32) (x2 : Int32) (M : Mem) : Option (Int32 × Mem) :=
  ob (F_X10_begins n M) (fun M_2 => ob2 (F_X10_strikes n x1 x2 M_2) (fun r_4 M_5 => ob2 (F_X10_ends n r_4 M_5) (fun r_7 M_8 => some (r_7, M_8))))
theorem hd_X10_strike : yX10_strike.cls ≠ "java/lang/invoke/MethodHandle" ∧ yX10_strike.cls ≠ "java/lang/invoke/VarHandle" ∧ (parseMethodDescriptor yX10_strike.desc).map (fun d => d.parameters.length) = some 2 := ⟨by decide +kernel, by decide +kernel, by decide +kernel⟩
set_option maxHeartbeats 4000000 in
set_option maxRecDepth 100000 in
theorem c_X10_strike (l : Launch) (g : GG) (X : va_W) (b : Nat → Nat) (sz n : Nat) (M : Mem) (x1 : Int32) (x2 : Int32) {r0 : Int32} {M' : Mem} (hf : F_X10_strike n x1 x2 M = some (r0, M')) : Met l yX10_strike (.code yX10_strike cX10_strike 3 (some .int) :: LWg) (rmD 4 0 0) (va_Pc [.ref (b 0), .int x1, .int x2] (PreP g X 10 (shM g b) b sz M)) (Qi g X 10 (shM g b) b sz r0 M') 0 0 (AA X b 10 sz) := by
  refine met_go (by decide +kernel) rfl (Nat.le_of_ble_eq_true rfl) ?_
  intro p e s m below meth c ls H locs C0 C1 hr hlocks hnm hsz hl hI
  subst hsz
  have hl : lv_has ls 3 [(0, .ref (b 0)), (1, .int x1), (2, .int x2)] := hl
  unfold F_X10_strike at hf
  refine lv_aload_n C0.1 C0.2.1 dX10_strike_0 rfl (lv_at hl 0 rfl) ?_
  obtain ⟨M_2, h_1, hf⟩ := ob_some hf
  refine k_v C1 hI (q_V C0 C1 hI 0 (c_X10_begins l g X b H.size n M h_1) w_1760 w_1762 w_70 w_132 w_1763 ⟨rfl, rfl⟩ hd_X10_begins ⟨Nat.le_of_ble_eq_true rfl, Nat.le_of_ble_eq_true rfl⟩ (Nat.le_of_ble_eq_true rfl) ((fun _ => rfl) _) rfl rfl rfl hl.1 rfl (Nat.le_of_ble_eq_true rfl) dX10_strike_1 ⟨Nat.le_of_ble_eq_true rfl, Nat.le_of_ble_eq_true rfl⟩) (fun H locs hI => ?_)
  refine lv_aload_n C0.1 C0.2.1 dX10_strike_4 rfl (lv_at hl 0 rfl) ?_
  refine lv_aload_n C0.1 C0.2.1 dX10_strike_5 rfl (lv_at hl 0 rfl) ?_
  refine lv_iload_n C0.1 C0.2.1 dX10_strike_6 rfl (lv_at hl 1 rfl) ?_
  refine lv_iload_n C0.1 C0.2.1 dX10_strike_7 rfl (lv_at hl 2 rfl) ?_
  obtain ⟨r_4, M_5, h_3, hf⟩ := ob2_some hf
  refine k_i C1 hI (q_V C0 C1 hI 0 (c_X10_strikes l g X b H.size n M_2 x1 x2 h_3) w_1924 w_1926 w_91 w_132 w_1927 ⟨rfl, rfl⟩ hd_X10_strikes ⟨Nat.le_of_ble_eq_true rfl, Nat.le_of_ble_eq_true rfl⟩ (Nat.le_of_ble_eq_true rfl) ((fun _ => rfl) _) rfl rfl rfl hl.1 rfl (Nat.le_of_ble_eq_true rfl) dX10_strike_8 ⟨Nat.le_of_ble_eq_true rfl, Nat.le_of_ble_eq_true rfl⟩) (fun H locs hI => ?_)
  obtain ⟨r_7, M_8, h_6, hf⟩ := ob2_some hf
  refine k_i C1 hI (q_V C0 C1 hI 0 (c_X10_ends l g X b H.size n M_5 r_4 h_6) w_1778 w_1780 w_73 w_132 w_1781 ⟨rfl, rfl⟩ hd_X10_ends ⟨Nat.le_of_ble_eq_true rfl, Nat.le_of_ble_eq_true rfl⟩ (Nat.le_of_ble_eq_true rfl) ((fun _ => rfl) _) rfl rfl rfl hl.1 rfl (Nat.le_of_ble_eq_true rfl) dX10_strike_11 ⟨Nat.le_of_ble_eq_true rfl, Nat.le_of_ble_eq_true rfl⟩) (fun H locs hI => ?_)
  exact ee_im C0 hI hr hlocks hf dX10_strike_14

def F_X10_ahead_L25 (n : Nat) (M : Mem) : Nat → Int32 → Int32 → Int32 → Int32 → Int32 → Option Int32
  | 0, _, _, _, _, _ => none
  | k25 + 1, x1_25, x2_25, x3_25, x4_25, x5_25 =>
    ob (F_X10_of n x1_25 5 M) (fun r_25_2 => chk (inb r_25_2 407) ((if (M 1 (ix r_25_2)) ≤ x5_25 then some x4_25 else ob (F_X10_listed n x1_25 x5_25 M) (fun r_25_6 => chk (inb r_25_6 407) (chk (inb (41 + (M 1 (ix r_25_6))) 407) (lt' (M 1 (ix (41 + (M 1 (ix r_25_6))))) (fun x6_25_9 => (if x6_25_9 < x3_25 then lt' (x4_25 + 1) (fun x4_25_12 => lt' (x5_25 + 1) (fun x5_25_14 => F_X10_ahead_L25 n M k25 x1_25 x2_25 x3_25 x4_25_12 x5_25_14)) else (if x6_25_9 = x3_25 then (if x2_25 ≤ x5_25 then lt' (x4_25 + 0) (fun x4_25_22 => lt' (x5_25 + 1) (fun x5_25_24 => F_X10_ahead_L25 n M k25 x1_25 x2_25 x3_25 x4_25_22 x5_25_24)) else lt' (x4_25 + 1) (fun x4_25_26 => lt' (x5_25 + 1) (fun x5_25_28 => F_X10_ahead_L25 n M k25 x1_25 x2_25 x3_25 x4_25_26 x5_25_28))) else lt' (x4_25 + 0) (fun x4_25_17 => lt' (x5_25 + 1) (fun x5_25_19 => F_X10_ahead_L25 n M k25 x1_25 x2_25 x3_25 x4_25_17 x5_25_19)))))))))))
def F_X10_ahead (n : Nat) (x1 : Int32) (x2 : Int32) (M : Mem) : Option Int32 :=
  ob (F_X10_listed n x1 x2 M) (fun r_2 => chk (inb r_2 407) (chk (inb (41 + (M 1 (ix r_2))) 407) (lt' (M 1 (ix (41 + (M 1 (ix r_2))))) (fun x3_5 => F_X10_ahead_L25 n M n x1 x2 x3_5 0 0))))
theorem hd_X10_ahead : yX10_ahead.cls ≠ "java/lang/invoke/MethodHandle" ∧ yX10_ahead.cls ≠ "java/lang/invoke/VarHandle" ∧ (parseMethodDescriptor yX10_ahead.desc).map (fun d => d.parameters.length) = some 2 := ⟨by decide +kernel, by decide +kernel, by decide +kernel⟩
set_option maxHeartbeats 4000000 in
set_option maxRecDepth 100000 in
theorem c_X10_ahead (l : Launch) (g : GG) (X : va_W) (b : Nat → Nat) (sz n : Nat) (M : Mem) (x1 : Int32) (x2 : Int32) {r0 : Int32} (hf : F_X10_ahead n x1 x2 M = some r0) : Met l yX10_ahead (.code yX10_ahead cX10_ahead 7 (some .int) :: LWg) (rmD 1 0 0) (va_Pc [.ref (b 0), .int x1, .int x2] (PreP g X 10 (shM g b) b sz M)) (Qi g X 10 (shM g b) b sz r0 M) 0 0 (AA X b 10 sz) := by
  refine met_go (by decide +kernel) rfl (Nat.le_of_ble_eq_true rfl) ?_
  intro p e s m below meth c ls H locs C0 C1 hr hlocks hnm hsz hl hI
  subst hsz
  have hl : lv_has ls 7 [(0, .ref (b 0)), (1, .int x1), (2, .int x2)] := hl
  unfold F_X10_ahead at hf
  refine lv_aload_n C0.1 C0.2.1 dX10_ahead_0 rfl (lv_at hl 0 rfl) ?_
  refine r_get (C := RX10) (T := TX10) (N9 := 20) (ci := 11) C0 C1 hI iX10 rfl 0 5 (Nat.le_of_ble_eq_true rfl) (by decide) ((fun _ => rfl) _) rfl rfl w_1696 dX10_ahead_1 ?_
  refine lv_bipush (v := 41) C0.1 C0.2.1 dX10_ahead_4 (by decide) ?_
  refine lv_aload_n C0.1 C0.2.1 dX10_ahead_6 rfl (lv_at hl 0 rfl) ?_
  refine r_get (C := RX10) (T := TX10) (N9 := 20) (ci := 11) C0 C1 hI iX10 rfl 0 5 (Nat.le_of_ble_eq_true rfl) (by decide) ((fun _ => rfl) _) rfl rfl w_1696 dX10_ahead_7 ?_
  refine lv_iload_n C0.1 C0.2.1 dX10_ahead_10 rfl (lv_at hl 1 rfl) ?_
  refine lv_iload_n C0.1 C0.2.1 dX10_ahead_11 rfl (lv_at hl 2 rfl) ?_
  obtain ⟨r_2, h_1, hf⟩ := ob_some hf
  refine k_i C1 hI (q_S C0 C1 hI (c_X10_listed l g X b H.size n M x1 x2 h_1) w_1917 w_1918 w_132 w_1919 ⟨rfl, rfl⟩ hd_X10_listed ⟨Nat.le_of_ble_eq_true rfl, Nat.le_of_ble_eq_true rfl⟩ rfl hl.1 rfl (Nat.le_of_ble_eq_true rfl) dX10_ahead_12 ⟨Nat.le_of_ble_eq_true rfl, Nat.le_of_ble_eq_true rfl⟩) (fun H locs hI => ?_)
  obtain ⟨h_3, hf⟩ := chk_some hf
  refine r_iald C0 C1 hI 1 (Nat.le_of_ble_eq_true rfl) (fun _ => rfl) h_3 dX10_ahead_15 ?_
  refine lv_iadd C0.1 C0.2.1 dX10_ahead_16 ?_
  obtain ⟨h_4, hf⟩ := chk_some hf
  refine r_iald C0 C1 hI 1 (Nat.le_of_ble_eq_true rfl) (fun _ => rfl) h_4 dX10_ahead_17 ?_
  refine lv_topi (fun x3_5 e_6 => ?_)
  have hf := lt_at e_6 hf
  refine lv_istore_n (lv' := [(3, .int x3_5), (0, .ref (b 0)), (1, .int x1), (2, .int x2)]) C0.1 C0.2.1 dX10_ahead_18 rfl hl (by decide) rfl (fun ls hl => ?_)
  refine lv_iconst (v := 0) C0.1 C0.2.1 dX10_ahead_19 (by decide) ?_
  refine lv_istore (lv' := [(4, .int 0), (3, .int x3_5), (0, .ref (b 0)), (1, .int x1), (2, .int x2)]) C0.1 C0.2.1 dX10_ahead_20 hl (by decide) rfl (fun ls hl => ?_)
  refine lv_iconst (v := 0) C0.1 C0.2.1 dX10_ahead_22 (by decide) ?_
  refine lv_istore (lv' := [(5, .int 0), (4, .int 0), (3, .int x3_5), (0, .ref (b 0)), (1, .int x1), (2, .int x2)]) C0.1 C0.2.1 dX10_ahead_23 hl (by decide) rfl (fun ls hl => ?_)
  have L25 : ∀ (k25 : Nat) (x1_25 : Int32) (x2_25 : Int32) (x3_25 : Int32) (x4_25 : Int32) (x5_25 : Int32), F_X10_ahead_L25 n M k25 x1_25 x2_25 x3_25 x4_25 x5_25 = some r0 → ∀ (H : Heap) (locs : List Loc) (ls : Array Slot), PI g X 10 (shM g b) b s M H locs → lv_has ls 7 [(0, .ref (b 0)), (1, .int x1_25), (2, .int x2_25), (3, .int x3_25), (4, .int x4_25), (5, .int x5_25)] → W p l e (rmD 1 0 0) s m ([.ref (b 0), .int x1, .int x2] : List Value).toArray below meth c H locs 0 0 (MQ below (Qi g X 10 (shM g b) b s.heap.size r0 M) ([.ref (b 0), .int x1, .int x2] : List Value).toArray s 0 0 (AA X b 10 s.heap.size)) (F0 m 25 ls []) := by
    intro k25
    induction k25 with
    | zero => intro x1_25 x2_25 x3_25 x4_25 x5_25 hf; exact absurd (show (none : Option Int32) = some r0 from hf) (fun h => by cases h)
    | succ k25 ih25 =>
      intro x1_25 x2_25 x3_25 x4_25 x5_25 hf H locs ls hI hl
      unfold F_X10_ahead_L25 at hf
      refine lv_iload C0.1 C0.2.1 dX10_ahead_25 (lv_at hl 5 rfl) ?_
      refine lv_aload_n C0.1 C0.2.1 dX10_ahead_27 rfl (lv_at hl 0 rfl) ?_
      refine r_get (C := RX10) (T := TX10) (N9 := 20) (ci := 11) C0 C1 hI iX10 rfl 0 5 (Nat.le_of_ble_eq_true rfl) (by decide) ((fun _ => rfl) _) rfl rfl w_1696 dX10_ahead_28 ?_
      refine lv_iload_n C0.1 C0.2.1 dX10_ahead_31 rfl (lv_at hl 1 rfl) ?_
      refine lv_iconst (v := 5) C0.1 C0.2.1 dX10_ahead_32 (by decide) ?_
      obtain ⟨r_25_2, h_25_1, hf⟩ := ob_some hf
      refine k_i C1 hI (q_S C0 C1 hI (c_X10_of l g X b H.size n M x1_25 5 h_25_1) w_1878 w_1879 w_132 w_1880 ⟨rfl, rfl⟩ hd_X10_of ⟨Nat.le_of_ble_eq_true rfl, Nat.le_of_ble_eq_true rfl⟩ rfl hl.1 rfl (Nat.le_of_ble_eq_true rfl) dX10_ahead_33 ⟨Nat.le_of_ble_eq_true rfl, Nat.le_of_ble_eq_true rfl⟩) (fun H locs hI => ?_)
      obtain ⟨h_25_3, hf⟩ := chk_some hf
      refine r_iald C0 C1 hI 1 (Nat.le_of_ble_eq_true rfl) (fun _ => rfl) h_25_3 dX10_ahead_36 ?_
      refine lv_icmp_ge (tgt := 95) C0.1 C0.2.1 dX10_ahead_37 (by decide) (fun c_25_4 => ?_) (fun c_25_4 => ?_)
      · have hf := (if_pos c_25_4).symm.trans hf
        refine lv_iload C0.1 C0.2.1 dX10_ahead_95 (lv_at hl 4 rfl) ?_
        exact ee_i C0 hI hr hlocks hf dX10_ahead_97
      · have hf := (if_neg c_25_4).symm.trans hf
        refine lv_aload_n C0.1 C0.2.1 dX10_ahead_40 rfl (lv_at hl 0 rfl) ?_
        refine r_get (C := RX10) (T := TX10) (N9 := 20) (ci := 11) C0 C1 hI iX10 rfl 0 5 (Nat.le_of_ble_eq_true rfl) (by decide) ((fun _ => rfl) _) rfl rfl w_1696 dX10_ahead_41 ?_
        refine lv_bipush (v := 41) C0.1 C0.2.1 dX10_ahead_44 (by decide) ?_
        refine lv_aload_n C0.1 C0.2.1 dX10_ahead_46 rfl (lv_at hl 0 rfl) ?_
        refine r_get (C := RX10) (T := TX10) (N9 := 20) (ci := 11) C0 C1 hI iX10 rfl 0 5 (Nat.le_of_ble_eq_true rfl) (by decide) ((fun _ => rfl) _) rfl rfl w_1696 dX10_ahead_47 ?_
        refine lv_iload_n C0.1 C0.2.1 dX10_ahead_50 rfl (lv_at hl 1 rfl) ?_
        refine lv_iload C0.1 C0.2.1 dX10_ahead_51 (lv_at hl 5 rfl) ?_
        obtain ⟨r_25_6, h_25_5, hf⟩ := ob_some hf
        refine k_i C1 hI (q_S C0 C1 hI (c_X10_listed l g X b H.size n M x1_25 x5_25 h_25_5) w_1917 w_1918 w_132 w_1919 ⟨rfl, rfl⟩ hd_X10_listed ⟨Nat.le_of_ble_eq_true rfl, Nat.le_of_ble_eq_true rfl⟩ rfl hl.1 rfl (Nat.le_of_ble_eq_true rfl) dX10_ahead_53 ⟨Nat.le_of_ble_eq_true rfl, Nat.le_of_ble_eq_true rfl⟩) (fun H locs hI => ?_)
        obtain ⟨h_25_7, hf⟩ := chk_some hf
        refine r_iald C0 C1 hI 1 (Nat.le_of_ble_eq_true rfl) (fun _ => rfl) h_25_7 dX10_ahead_56 ?_
        refine lv_iadd C0.1 C0.2.1 dX10_ahead_57 ?_
        obtain ⟨h_25_8, hf⟩ := chk_some hf
        refine r_iald C0 C1 hI 1 (Nat.le_of_ble_eq_true rfl) (fun _ => rfl) h_25_8 dX10_ahead_58 ?_
        refine lv_topi (fun x6_25_9 e_25_10 => ?_)
        have hf := lt_at e_25_10 hf
        refine lv_istore (lv' := [(6, .int x6_25_9), (0, .ref (b 0)), (1, .int x1_25), (2, .int x2_25), (3, .int x3_25), (4, .int x4_25), (5, .int x5_25)]) C0.1 C0.2.1 dX10_ahead_59 hl (by decide) rfl (fun ls hl => ?_)
        refine lv_iload C0.1 C0.2.1 dX10_ahead_61 (lv_at hl 5 rfl) ?_
        refine lv_iload C0.1 C0.2.1 dX10_ahead_63 (lv_at hl 0 rfl) ?_
        refine lv_iload_n C0.1 C0.2.1 dX10_ahead_65 rfl (lv_at hl 4 rfl) ?_
        refine lv_icmp_lt (tgt := 81) C0.1 C0.2.1 dX10_ahead_66 (by decide) (fun c_25_11 => ?_) (fun c_25_11 => ?_)
        · have hf := (if_pos c_25_11).symm.trans hf
          refine lv_iconst (v := 1) C0.1 C0.2.1 dX10_ahead_81 (by decide) ?_
          refine lv_goto (tgt := 86) C0.1 C0.2.1 dX10_ahead_82 (by decide) ?_
          refine lv_iadd C0.1 C0.2.1 dX10_ahead_86 ?_
          refine lv_topi (fun x4_25_12 e_25_13 => ?_)
          have hf := lt_at e_25_13 hf
          refine lv_istore (lv' := [(4, .int x4_25_12), (6, .int x6_25_9), (0, .ref (b 0)), (1, .int x1_25), (2, .int x2_25), (3, .int x3_25), (5, .int x5_25)]) C0.1 C0.2.1 dX10_ahead_87 hl (by decide) rfl (fun ls hl => ?_)
          obtain ⟨x5_25_14, e_25_15⟩ : ∃ z : Int32, z = x5_25 + 1 := ⟨_, rfl⟩
          have hf := lt_at e_25_15 hf
          refine lv_iinc (v := x5_25_14) (lv' := [(5, .int x5_25_14), (4, .int x4_25_12), (6, .int x6_25_9), (0, .ref (b 0)), (1, .int x1_25), (2, .int x2_25), (3, .int x3_25)]) C0.1 C0.2.1 dX10_ahead_89 hl (k := 6) rfl (by rw [e_25_15]; rfl) (by decide) rfl (fun ls hl => ?_)
          refine lv_goto (tgt := 25) C0.1 C0.2.1 dX10_ahead_92 (by decide) ?_
          exact ih25 x1_25 x2_25 x3_25 x4_25_12 x5_25_14 hf H locs ls hI (lv_sub hl [3, 4, 5, 6, 1, 0] rfl)
        · have hf := (if_neg c_25_11).symm.trans hf
          refine lv_iload C0.1 C0.2.1 dX10_ahead_69 (lv_at hl 0 rfl) ?_
          refine lv_iload_n C0.1 C0.2.1 dX10_ahead_71 rfl (lv_at hl 4 rfl) ?_
          refine lv_icmp_ne (tgt := 85) C0.1 C0.2.1 dX10_ahead_72 (by decide) (fun c_25_16 => ?_) (fun c_25_16 => ?_)
          · have hf := (if_neg c_25_16).symm.trans hf
            refine lv_iconst (v := 0) C0.1 C0.2.1 dX10_ahead_85 (by decide) ?_
            refine lv_iadd C0.1 C0.2.1 dX10_ahead_86 ?_
            refine lv_topi (fun x4_25_17 e_25_18 => ?_)
            have hf := lt_at e_25_18 hf
            refine lv_istore (lv' := [(4, .int x4_25_17), (6, .int x6_25_9), (0, .ref (b 0)), (1, .int x1_25), (2, .int x2_25), (3, .int x3_25), (5, .int x5_25)]) C0.1 C0.2.1 dX10_ahead_87 hl (by decide) rfl (fun ls hl => ?_)
            obtain ⟨x5_25_19, e_25_20⟩ : ∃ z : Int32, z = x5_25 + 1 := ⟨_, rfl⟩
            have hf := lt_at e_25_20 hf
            refine lv_iinc (v := x5_25_19) (lv' := [(5, .int x5_25_19), (4, .int x4_25_17), (6, .int x6_25_9), (0, .ref (b 0)), (1, .int x1_25), (2, .int x2_25), (3, .int x3_25)]) C0.1 C0.2.1 dX10_ahead_89 hl (k := 6) rfl (by rw [e_25_20]; rfl) (by decide) rfl (fun ls hl => ?_)
            refine lv_goto (tgt := 25) C0.1 C0.2.1 dX10_ahead_92 (by decide) ?_
            exact ih25 x1_25 x2_25 x3_25 x4_25_17 x5_25_19 hf H locs ls hI (lv_sub hl [3, 4, 5, 6, 1, 0] rfl)
          · have hf := (if_pos c_25_16).symm.trans hf
            refine lv_iload C0.1 C0.2.1 dX10_ahead_75 (lv_at hl 6 rfl) ?_
            refine lv_iload_n C0.1 C0.2.1 dX10_ahead_77 rfl (lv_at hl 3 rfl) ?_
            refine lv_icmp_ge (tgt := 85) C0.1 C0.2.1 dX10_ahead_78 (by decide) (fun c_25_21 => ?_) (fun c_25_21 => ?_)
            · have hf := (if_pos c_25_21).symm.trans hf
              refine lv_iconst (v := 0) C0.1 C0.2.1 dX10_ahead_85 (by decide) ?_
              refine lv_iadd C0.1 C0.2.1 dX10_ahead_86 ?_
              refine lv_topi (fun x4_25_22 e_25_23 => ?_)
              have hf := lt_at e_25_23 hf
              refine lv_istore (lv' := [(4, .int x4_25_22), (6, .int x6_25_9), (0, .ref (b 0)), (1, .int x1_25), (2, .int x2_25), (3, .int x3_25), (5, .int x5_25)]) C0.1 C0.2.1 dX10_ahead_87 hl (by decide) rfl (fun ls hl => ?_)
              obtain ⟨x5_25_24, e_25_25⟩ : ∃ z : Int32, z = x5_25 + 1 := ⟨_, rfl⟩
              have hf := lt_at e_25_25 hf
              refine lv_iinc (v := x5_25_24) (lv' := [(5, .int x5_25_24), (4, .int x4_25_22), (6, .int x6_25_9), (0, .ref (b 0)), (1, .int x1_25), (2, .int x2_25), (3, .int x3_25)]) C0.1 C0.2.1 dX10_ahead_89 hl (k := 6) rfl (by rw [e_25_25]; rfl) (by decide) rfl (fun ls hl => ?_)
              refine lv_goto (tgt := 25) C0.1 C0.2.1 dX10_ahead_92 (by decide) ?_
              exact ih25 x1_25 x2_25 x3_25 x4_25_22 x5_25_24 hf H locs ls hI (lv_sub hl [3, 4, 5, 6, 1, 0] rfl)
            · have hf := (if_neg c_25_21).symm.trans hf
              refine lv_iconst (v := 1) C0.1 C0.2.1 dX10_ahead_81 (by decide) ?_
              refine lv_goto (tgt := 86) C0.1 C0.2.1 dX10_ahead_82 (by decide) ?_
              refine lv_iadd C0.1 C0.2.1 dX10_ahead_86 ?_
              refine lv_topi (fun x4_25_26 e_25_27 => ?_)
              have hf := lt_at e_25_27 hf
              refine lv_istore (lv' := [(4, .int x4_25_26), (6, .int x6_25_9), (0, .ref (b 0)), (1, .int x1_25), (2, .int x2_25), (3, .int x3_25), (5, .int x5_25)]) C0.1 C0.2.1 dX10_ahead_87 hl (by decide) rfl (fun ls hl => ?_)
              obtain ⟨x5_25_28, e_25_29⟩ : ∃ z : Int32, z = x5_25 + 1 := ⟨_, rfl⟩
              have hf := lt_at e_25_29 hf
              refine lv_iinc (v := x5_25_28) (lv' := [(5, .int x5_25_28), (4, .int x4_25_26), (6, .int x6_25_9), (0, .ref (b 0)), (1, .int x1_25), (2, .int x2_25), (3, .int x3_25)]) C0.1 C0.2.1 dX10_ahead_89 hl (k := 6) rfl (by rw [e_25_29]; rfl) (by decide) rfl (fun ls hl => ?_)
              refine lv_goto (tgt := 25) C0.1 C0.2.1 dX10_ahead_92 (by decide) ?_
              exact ih25 x1_25 x2_25 x3_25 x4_25_26 x5_25_28 hf H locs ls hI (lv_sub hl [3, 4, 5, 6, 1, 0] rfl)
  exact L25 n x1 x2 x3_5 0 0 hf H locs ls hI (lv_sub hl [3, 4, 5, 2, 1, 0] rfl)

def F_X10_ranked_L2 (n : Nat) (M : Mem) : Nat → Int32 → Int32 → Int32 → Option Int32
  | 0, _, _, _ => none
  | k2 + 1, x1_2, x2_2, x3_2 =>
    ob (F_X10_of n x1_2 5 M) (fun r_2_2 => chk (inb r_2_2 407) ((if (M 1 (ix r_2_2)) ≤ x3_2 then some (-1) else ob (F_X10_ahead n x1_2 x3_2 M) (fun r_2_6 => (if r_2_6 = x2_2 then some x3_2 else lt' (x3_2 + 1) (fun x3_2_8 => F_X10_ranked_L2 n M k2 x1_2 x2_2 x3_2_8))))))
def F_X10_ranked (n : Nat) (x1 : Int32) (x2 : Int32) (M : Mem) : Option Int32 :=
  F_X10_ranked_L2 n M n x1 x2 0
theorem hd_X10_ranked : yX10_ranked.cls ≠ "java/lang/invoke/MethodHandle" ∧ yX10_ranked.cls ≠ "java/lang/invoke/VarHandle" ∧ (parseMethodDescriptor yX10_ranked.desc).map (fun d => d.parameters.length) = some 2 := ⟨by decide +kernel, by decide +kernel, by decide +kernel⟩
set_option maxHeartbeats 4000000 in
set_option maxRecDepth 100000 in
theorem c_X10_ranked (l : Launch) (g : GG) (X : va_W) (b : Nat → Nat) (sz n : Nat) (M : Mem) (x1 : Int32) (x2 : Int32) {r0 : Int32} (hf : F_X10_ranked n x1 x2 M = some r0) : Met l yX10_ranked (.code yX10_ranked cX10_ranked 4 (some .int) :: LWg) (rmD 2 0 0) (va_Pc [.ref (b 0), .int x1, .int x2] (PreP g X 10 (shM g b) b sz M)) (Qi g X 10 (shM g b) b sz r0 M) 0 0 (AA X b 10 sz) := by
  refine met_go (by decide +kernel) rfl (Nat.le_of_ble_eq_true rfl) ?_
  intro p e s m below meth c ls H locs C0 C1 hr hlocks hnm hsz hl hI
  subst hsz
  have hl : lv_has ls 4 [(0, .ref (b 0)), (1, .int x1), (2, .int x2)] := hl
  unfold F_X10_ranked at hf
  refine lv_iconst (v := 0) C0.1 C0.2.1 dX10_ranked_0 (by decide) ?_
  refine lv_istore_n (lv' := [(3, .int 0), (0, .ref (b 0)), (1, .int x1), (2, .int x2)]) C0.1 C0.2.1 dX10_ranked_1 rfl hl (by decide) rfl (fun ls hl => ?_)
  have L2 : ∀ (k2 : Nat) (x1_2 : Int32) (x2_2 : Int32) (x3_2 : Int32), F_X10_ranked_L2 n M k2 x1_2 x2_2 x3_2 = some r0 → ∀ (H : Heap) (locs : List Loc) (ls : Array Slot), PI g X 10 (shM g b) b s M H locs → lv_has ls 4 [(0, .ref (b 0)), (1, .int x1_2), (2, .int x2_2), (3, .int x3_2)] → W p l e (rmD 2 0 0) s m ([.ref (b 0), .int x1, .int x2] : List Value).toArray below meth c H locs 0 0 (MQ below (Qi g X 10 (shM g b) b s.heap.size r0 M) ([.ref (b 0), .int x1, .int x2] : List Value).toArray s 0 0 (AA X b 10 s.heap.size)) (F0 m 2 ls []) := by
    intro k2
    induction k2 with
    | zero => intro x1_2 x2_2 x3_2 hf; exact absurd (show (none : Option Int32) = some r0 from hf) (fun h => by cases h)
    | succ k2 ih2 =>
      intro x1_2 x2_2 x3_2 hf H locs ls hI hl
      unfold F_X10_ranked_L2 at hf
      refine lv_iload_n C0.1 C0.2.1 dX10_ranked_2 rfl (lv_at hl 3 rfl) ?_
      refine lv_aload_n C0.1 C0.2.1 dX10_ranked_3 rfl (lv_at hl 0 rfl) ?_
      refine r_get (C := RX10) (T := TX10) (N9 := 20) (ci := 11) C0 C1 hI iX10 rfl 0 5 (Nat.le_of_ble_eq_true rfl) (by decide) ((fun _ => rfl) _) rfl rfl w_1696 dX10_ranked_4 ?_
      refine lv_iload_n C0.1 C0.2.1 dX10_ranked_7 rfl (lv_at hl 1 rfl) ?_
      refine lv_iconst (v := 5) C0.1 C0.2.1 dX10_ranked_8 (by decide) ?_
      obtain ⟨r_2_2, h_2_1, hf⟩ := ob_some hf
      refine k_i C1 hI (q_S C0 C1 hI (c_X10_of l g X b H.size n M x1_2 5 h_2_1) w_1878 w_1879 w_132 w_1880 ⟨rfl, rfl⟩ hd_X10_of ⟨Nat.le_of_ble_eq_true rfl, Nat.le_of_ble_eq_true rfl⟩ rfl hl.1 rfl (Nat.le_of_ble_eq_true rfl) dX10_ranked_9 ⟨Nat.le_of_ble_eq_true rfl, Nat.le_of_ble_eq_true rfl⟩) (fun H locs hI => ?_)
      obtain ⟨h_2_3, hf⟩ := chk_some hf
      refine r_iald C0 C1 hI 1 (Nat.le_of_ble_eq_true rfl) (fun _ => rfl) h_2_3 dX10_ranked_12 ?_
      refine lv_icmp_ge (tgt := 34) C0.1 C0.2.1 dX10_ranked_13 (by decide) (fun c_2_4 => ?_) (fun c_2_4 => ?_)
      · have hf := (if_pos c_2_4).symm.trans hf
        refine lv_iconst (v := (-1)) C0.1 C0.2.1 dX10_ranked_34 (by decide) ?_
        exact ee_i C0 hI hr hlocks hf dX10_ranked_35
      · have hf := (if_neg c_2_4).symm.trans hf
        refine lv_aload_n C0.1 C0.2.1 dX10_ranked_16 rfl (lv_at hl 0 rfl) ?_
        refine lv_iload_n C0.1 C0.2.1 dX10_ranked_17 rfl (lv_at hl 1 rfl) ?_
        refine lv_iload_n C0.1 C0.2.1 dX10_ranked_18 rfl (lv_at hl 3 rfl) ?_
        obtain ⟨r_2_6, h_2_5, hf⟩ := ob_some hf
        refine k_i C1 hI (q_V C0 C1 hI 0 (c_X10_ahead l g X b H.size n M x1_2 x3_2 h_2_5) w_1944 w_1946 w_95 w_132 w_1947 ⟨rfl, rfl⟩ hd_X10_ahead ⟨Nat.le_of_ble_eq_true rfl, Nat.le_of_ble_eq_true rfl⟩ (Nat.le_of_ble_eq_true rfl) ((fun _ => rfl) _) rfl rfl rfl hl.1 rfl (Nat.le_of_ble_eq_true rfl) dX10_ranked_19 ⟨Nat.le_of_ble_eq_true rfl, Nat.le_of_ble_eq_true rfl⟩) (fun H locs hI => ?_)
        refine lv_iload_n C0.1 C0.2.1 dX10_ranked_22 rfl (lv_at hl 2 rfl) ?_
        refine lv_icmp_ne (tgt := 28) C0.1 C0.2.1 dX10_ranked_23 (by decide) (fun c_2_7 => ?_) (fun c_2_7 => ?_)
        · have hf := (if_neg c_2_7).symm.trans hf
          obtain ⟨x3_2_8, e_2_9⟩ : ∃ z : Int32, z = x3_2 + 1 := ⟨_, rfl⟩
          have hf := lt_at e_2_9 hf
          refine lv_iinc (v := x3_2_8) (lv' := [(3, .int x3_2_8), (0, .ref (b 0)), (1, .int x1_2), (2, .int x2_2)]) C0.1 C0.2.1 dX10_ranked_28 hl (k := 3) rfl (by rw [e_2_9]; rfl) (by decide) rfl (fun ls hl => ?_)
          refine lv_goto (tgt := 2) C0.1 C0.2.1 dX10_ranked_31 (by decide) ?_
          exact ih2 x1_2 x2_2 x3_2_8 hf H locs ls hI (lv_sub hl [1, 2, 3, 0] rfl)
        · have hf := (if_pos c_2_7).symm.trans hf
          refine lv_iload_n C0.1 C0.2.1 dX10_ranked_26 rfl (lv_at hl 3 rfl) ?_
          exact ee_i C0 hI hr hlocks hf dX10_ranked_27
  exact L2 n x1 x2 0 hf H locs ls hI (lv_sub hl [1, 2, 3, 0] rfl)

def F_X10_calls (n : Nat) (x1 : Int32) (M : Mem) : Option (Int32 × Mem) :=
  ob (F_X10_isMotion n x1 M) (fun r_2 => (if r_2 = 0 then ob2 (F_X10_fail n 1 M) (fun r_75 M_76 => some (r_75, M_76)) else ob (F_X10_ranked n x1 0 M) (fun r_5 => (if 0 ≤ r_5 then ob (F_X10_listed n x1 r_5 M) (fun r_8 => chk (inb r_8 407) (lt' (M 1 (ix r_8)) (fun x3_10 => ob (F_X10_isOn n x3_10 M) (fun r_13 => (if r_13 = 0 then ob (F_X10_takes n x1 r_5 M) (fun M_16 => chk (inb (41 + x3_10) 407) (chk (inb (41 + x3_10) 407) (lt' (up2 M_16 1 (ix (41 + x3_10)) ((M_16 1 (ix (41 + x3_10))) + 0)) (fun M_21 => ob (F_X10_of n x1 6 M_21) (fun r_24 => chk (inb r_24 407) (chk (inb r_24 407) (lt' (up2 M_21 1 (ix r_24) ((M_21 1 (ix r_24)) + 0)) (fun M_29 => chk (inb 3 407) (chk (inb 3 407) (lt' (up2 M_29 1 (ix 3) ((M_29 1 (ix 3)) + 0)) (fun M_35 => chk (inb 4 407) (chk (inb 4 407) (lt' (up2 M_35 1 (ix 4) ((M_35 1 (ix 4)) + (1 - 0))) (fun M_41 => some (0, M_41))))))))))))))) else ob (F_X10_takes n x1 r_5 M) (fun M_44 => chk (inb (41 + x3_10) 407) (chk (inb (41 + x3_10) 407) (lt' (up2 M_44 1 (ix (41 + x3_10)) ((M_44 1 (ix (41 + x3_10))) + 1)) (fun M_49 => ob (F_X10_of n x1 6 M_49) (fun r_52 => chk (inb r_52 407) (chk (inb r_52 407) (lt' (up2 M_49 1 (ix r_52) ((M_49 1 (ix r_52)) + 1)) (fun M_57 => chk (inb 3 407) (chk (inb 3 407) (lt' (up2 M_57 1 (ix 3) ((M_57 1 (ix 3)) + 1)) (fun M_63 => chk (inb 4 407) (chk (inb 4 407) (lt' (up2 M_63 1 (ix 4) ((M_63 1 (ix 4)) + (1 - 1))) (fun M_69 => some (1, M_69)))))))))))))))))))) else ob2 (F_X10_fail n 2 M) (fun r_72 M_73 => some (r_72, M_73))))))
theorem hd_X10_calls : yX10_calls.cls ≠ "java/lang/invoke/MethodHandle" ∧ yX10_calls.cls ≠ "java/lang/invoke/VarHandle" ∧ (parseMethodDescriptor yX10_calls.desc).map (fun d => d.parameters.length) = some 1 := ⟨by decide +kernel, by decide +kernel, by decide +kernel⟩
set_option maxHeartbeats 4000000 in
set_option maxRecDepth 100000 in
theorem c_X10_calls (l : Launch) (g : GG) (X : va_W) (b : Nat → Nat) (sz n : Nat) (M : Mem) (x1 : Int32) {r0 : Int32} {M' : Mem} (hf : F_X10_calls n x1 M = some (r0, M')) : Met l yX10_calls (.code yX10_calls cX10_calls 5 (some .int) :: LWg) (rmD 3 0 0) (va_Pc [.ref (b 0), .int x1] (PreP g X 10 (shM g b) b sz M)) (Qi g X 10 (shM g b) b sz r0 M') 0 0 (AA X b 10 sz) := by
  refine met_go (by decide +kernel) rfl (Nat.le_of_ble_eq_true rfl) ?_
  intro p e s m below meth c ls H locs C0 C1 hr hlocks hnm hsz hl hI
  subst hsz
  have hl : lv_has ls 5 [(0, .ref (b 0)), (1, .int x1)] := hl
  unfold F_X10_calls at hf
  refine lv_aload_n C0.1 C0.2.1 dX10_calls_0 rfl (lv_at hl 0 rfl) ?_
  refine lv_iload_n C0.1 C0.2.1 dX10_calls_1 rfl (lv_at hl 1 rfl) ?_
  obtain ⟨r_2, h_1, hf⟩ := ob_some hf
  refine k_i C1 hI (q_V C0 C1 hI 0 (c_X10_isMotion l g X b H.size n M x1 h_1) w_1893 w_1895 w_86 w_132 w_1896 ⟨rfl, rfl⟩ hd_X10_isMotion ⟨Nat.le_of_ble_eq_true rfl, Nat.le_of_ble_eq_true rfl⟩ (Nat.le_of_ble_eq_true rfl) ((fun _ => rfl) _) rfl rfl rfl hl.1 rfl (Nat.le_of_ble_eq_true rfl) dX10_calls_2 ⟨Nat.le_of_ble_eq_true rfl, Nat.le_of_ble_eq_true rfl⟩) (fun H locs hI => ?_)
  refine lv_if_ne (tgt := 14) C0.1 C0.2.1 dX10_calls_5 (by decide) (fun c_3 => ?_) (fun c_3 => ?_)
  · have hf := (if_neg c_3).symm.trans hf
    refine lv_aload_n C0.1 C0.2.1 dX10_calls_14 rfl (lv_at hl 0 rfl) ?_
    refine lv_iload_n C0.1 C0.2.1 dX10_calls_15 rfl (lv_at hl 1 rfl) ?_
    refine lv_iconst (v := 0) C0.1 C0.2.1 dX10_calls_16 (by decide) ?_
    obtain ⟨r_5, h_4, hf⟩ := ob_some hf
    refine k_i C1 hI (q_V C0 C1 hI 0 (c_X10_ranked l g X b H.size n M x1 0 h_4) w_1940 w_1942 w_94 w_132 w_1943 ⟨rfl, rfl⟩ hd_X10_ranked ⟨Nat.le_of_ble_eq_true rfl, Nat.le_of_ble_eq_true rfl⟩ (Nat.le_of_ble_eq_true rfl) ((fun _ => rfl) _) rfl rfl rfl hl.1 rfl (Nat.le_of_ble_eq_true rfl) dX10_calls_17 ⟨Nat.le_of_ble_eq_true rfl, Nat.le_of_ble_eq_true rfl⟩) (fun H locs hI => ?_)
    refine lv_istore_n (lv' := [(2, .int r_5), (0, .ref (b 0)), (1, .int x1)]) C0.1 C0.2.1 dX10_calls_20 rfl hl (by decide) rfl (fun ls hl => ?_)
    refine lv_iload_n C0.1 C0.2.1 dX10_calls_21 rfl (lv_at hl 0 rfl) ?_
    refine lv_if_ge (tgt := 31) C0.1 C0.2.1 dX10_calls_22 (by decide) (fun c_6 => ?_) (fun c_6 => ?_)
    · have hf := (if_pos c_6).symm.trans hf
      refine lv_aload_n C0.1 C0.2.1 dX10_calls_31 rfl (lv_at hl 1 rfl) ?_
      refine r_get (C := RX10) (T := TX10) (N9 := 20) (ci := 11) C0 C1 hI iX10 rfl 0 5 (Nat.le_of_ble_eq_true rfl) (by decide) ((fun _ => rfl) _) rfl rfl w_1696 dX10_calls_32 ?_
      refine lv_iload_n C0.1 C0.2.1 dX10_calls_35 rfl (lv_at hl 2 rfl) ?_
      refine lv_iload_n C0.1 C0.2.1 dX10_calls_36 rfl (lv_at hl 0 rfl) ?_
      obtain ⟨r_8, h_7, hf⟩ := ob_some hf
      refine k_i C1 hI (q_S C0 C1 hI (c_X10_listed l g X b H.size n M x1 r_5 h_7) w_1917 w_1918 w_132 w_1919 ⟨rfl, rfl⟩ hd_X10_listed ⟨Nat.le_of_ble_eq_true rfl, Nat.le_of_ble_eq_true rfl⟩ rfl hl.1 rfl (Nat.le_of_ble_eq_true rfl) dX10_calls_37 ⟨Nat.le_of_ble_eq_true rfl, Nat.le_of_ble_eq_true rfl⟩) (fun H locs hI => ?_)
      obtain ⟨h_9, hf⟩ := chk_some hf
      refine r_iald C0 C1 hI 1 (Nat.le_of_ble_eq_true rfl) (fun _ => rfl) h_9 dX10_calls_40 ?_
      refine lv_topi (fun x3_10 e_11 => ?_)
      have hf := lt_at e_11 hf
      refine lv_istore_n (lv' := [(3, .int x3_10), (2, .int r_5), (0, .ref (b 0)), (1, .int x1)]) C0.1 C0.2.1 dX10_calls_41 rfl hl (by decide) rfl (fun ls hl => ?_)
      refine lv_aload_n C0.1 C0.2.1 dX10_calls_42 rfl (lv_at hl 2 rfl) ?_
      refine lv_iload_n C0.1 C0.2.1 dX10_calls_43 rfl (lv_at hl 0 rfl) ?_
      obtain ⟨r_13, h_12, hf⟩ := ob_some hf
      refine k_i C1 hI (q_V C0 C1 hI 0 (c_X10_isOn l g X b H.size n M x3_10 h_12) w_1818 w_1820 w_80 w_132 w_1821 ⟨rfl, rfl⟩ hd_X10_isOn ⟨Nat.le_of_ble_eq_true rfl, Nat.le_of_ble_eq_true rfl⟩ (Nat.le_of_ble_eq_true rfl) ((fun _ => rfl) _) rfl rfl rfl hl.1 rfl (Nat.le_of_ble_eq_true rfl) dX10_calls_44 ⟨Nat.le_of_ble_eq_true rfl, Nat.le_of_ble_eq_true rfl⟩) (fun H locs hI => ?_)
      refine lv_if_eq (tgt := 54) C0.1 C0.2.1 dX10_calls_47 (by decide) (fun c_14 => ?_) (fun c_14 => ?_)
      · have hf := (if_pos c_14).symm.trans hf
        refine lv_iconst (v := 0) C0.1 C0.2.1 dX10_calls_54 (by decide) ?_
        refine lv_istore (lv' := [(4, .int 0), (3, .int x3_10), (2, .int r_5), (0, .ref (b 0)), (1, .int x1)]) C0.1 C0.2.1 dX10_calls_55 hl (by decide) rfl (fun ls hl => ?_)
        refine lv_aload_n C0.1 C0.2.1 dX10_calls_57 rfl (lv_at hl 3 rfl) ?_
        refine lv_iload_n C0.1 C0.2.1 dX10_calls_58 rfl (lv_at hl 4 rfl) ?_
        refine lv_iload_n C0.1 C0.2.1 dX10_calls_59 rfl (lv_at hl 2 rfl) ?_
        obtain ⟨M_16, h_15, hf⟩ := ob_some hf
        refine k_v C1 hI (q_V C0 C1 hI 0 (c_X10_takes l g X b H.size n M x1 r_5 h_15) w_1928 w_1930 w_92 w_132 w_1931 ⟨rfl, rfl⟩ hd_X10_takes ⟨Nat.le_of_ble_eq_true rfl, Nat.le_of_ble_eq_true rfl⟩ (Nat.le_of_ble_eq_true rfl) ((fun _ => rfl) _) rfl rfl rfl hl.1 rfl (Nat.le_of_ble_eq_true rfl) dX10_calls_60 ⟨Nat.le_of_ble_eq_true rfl, Nat.le_of_ble_eq_true rfl⟩) (fun H locs hI => ?_)
        refine lv_aload_n C0.1 C0.2.1 dX10_calls_63 rfl (lv_at hl 3 rfl) ?_
        refine r_get (C := RX10) (T := TX10) (N9 := 20) (ci := 11) C0 C1 hI iX10 rfl 0 5 (Nat.le_of_ble_eq_true rfl) (by decide) ((fun _ => rfl) _) rfl rfl w_1696 dX10_calls_64 ?_
        refine lv_bipush (v := 41) C0.1 C0.2.1 dX10_calls_67 (by decide) ?_
        refine lv_iload_n C0.1 C0.2.1 dX10_calls_69 rfl (lv_at hl 1 rfl) ?_
        refine lv_iadd C0.1 C0.2.1 dX10_calls_70 ?_
        refine lv_dup2_11 C0.1 C0.2.1 dX10_calls_71 rfl rfl ?_
        obtain ⟨h_17, hf⟩ := chk_some hf
        refine r_iald C0 C1 hI 1 (Nat.le_of_ble_eq_true rfl) (fun _ => rfl) h_17 dX10_calls_72 ?_
        refine lv_iload C0.1 C0.2.1 dX10_calls_73 (lv_at hl 0 rfl) ?_
        refine lv_iadd C0.1 C0.2.1 dX10_calls_75 ?_
        obtain ⟨h_18, hf⟩ := chk_some hf
        refine r_iast C0 C1 hI 1 (Nat.le_of_ble_eq_true rfl) (fun _ => rfl) h_18 dX10_calls_76 (fun H locs hI => ?_)
        obtain ⟨M_21, e_22⟩ : ∃ z : Mem, z = up2 M_16 1 (ix (41 + x3_10)) ((M_16 1 (ix (41 + x3_10))) + 0) := ⟨_, rfl⟩
        rw [← e_22] at hI
        have hf := lt_at e_22 hf
        refine lv_aload_n C0.1 C0.2.1 dX10_calls_77 rfl (lv_at hl 3 rfl) ?_
        refine r_get (C := RX10) (T := TX10) (N9 := 20) (ci := 11) C0 C1 hI iX10 rfl 0 5 (Nat.le_of_ble_eq_true rfl) (by decide) ((fun _ => rfl) _) rfl rfl w_1696 dX10_calls_78 ?_
        refine lv_iload_n C0.1 C0.2.1 dX10_calls_81 rfl (lv_at hl 4 rfl) ?_
        refine lv_bipush (v := 6) C0.1 C0.2.1 dX10_calls_82 (by decide) ?_
        obtain ⟨r_24, h_23, hf⟩ := ob_some hf
        refine k_i C1 hI (q_S C0 C1 hI (c_X10_of l g X b H.size n M_21 x1 6 h_23) w_1878 w_1879 w_132 w_1880 ⟨rfl, rfl⟩ hd_X10_of ⟨Nat.le_of_ble_eq_true rfl, Nat.le_of_ble_eq_true rfl⟩ rfl hl.1 rfl (Nat.le_of_ble_eq_true rfl) dX10_calls_84 ⟨Nat.le_of_ble_eq_true rfl, Nat.le_of_ble_eq_true rfl⟩) (fun H locs hI => ?_)
        refine lv_dup2_11 C0.1 C0.2.1 dX10_calls_87 rfl rfl ?_
        obtain ⟨h_25, hf⟩ := chk_some hf
        refine r_iald C0 C1 hI 1 (Nat.le_of_ble_eq_true rfl) (fun _ => rfl) h_25 dX10_calls_88 ?_
        refine lv_iload C0.1 C0.2.1 dX10_calls_89 (lv_at hl 0 rfl) ?_
        refine lv_iadd C0.1 C0.2.1 dX10_calls_91 ?_
        obtain ⟨h_26, hf⟩ := chk_some hf
        refine r_iast C0 C1 hI 1 (Nat.le_of_ble_eq_true rfl) (fun _ => rfl) h_26 dX10_calls_92 (fun H locs hI => ?_)
        obtain ⟨M_29, e_30⟩ : ∃ z : Mem, z = up2 M_21 1 (ix r_24) ((M_21 1 (ix r_24)) + 0) := ⟨_, rfl⟩
        rw [← e_30] at hI
        have hf := lt_at e_30 hf
        refine lv_aload_n C0.1 C0.2.1 dX10_calls_93 rfl (lv_at hl 3 rfl) ?_
        refine r_get (C := RX10) (T := TX10) (N9 := 20) (ci := 11) C0 C1 hI iX10 rfl 0 5 (Nat.le_of_ble_eq_true rfl) (by decide) ((fun _ => rfl) _) rfl rfl w_1696 dX10_calls_94 ?_
        refine lv_iconst (v := 3) C0.1 C0.2.1 dX10_calls_97 (by decide) ?_
        refine lv_dup2_11 C0.1 C0.2.1 dX10_calls_98 rfl rfl ?_
        obtain ⟨h_31, hf⟩ := chk_some hf
        refine r_iald C0 C1 hI 1 (Nat.le_of_ble_eq_true rfl) (fun _ => rfl) h_31 dX10_calls_99 ?_
        refine lv_iload C0.1 C0.2.1 dX10_calls_100 (lv_at hl 0 rfl) ?_
        refine lv_iadd C0.1 C0.2.1 dX10_calls_102 ?_
        obtain ⟨h_32, hf⟩ := chk_some hf
        refine r_iast C0 C1 hI 1 (Nat.le_of_ble_eq_true rfl) (fun _ => rfl) h_32 dX10_calls_103 (fun H locs hI => ?_)
        obtain ⟨M_35, e_36⟩ : ∃ z : Mem, z = up2 M_29 1 (ix 3) ((M_29 1 (ix 3)) + 0) := ⟨_, rfl⟩
        rw [← e_36] at hI
        have hf := lt_at e_36 hf
        refine lv_aload_n C0.1 C0.2.1 dX10_calls_104 rfl (lv_at hl 3 rfl) ?_
        refine r_get (C := RX10) (T := TX10) (N9 := 20) (ci := 11) C0 C1 hI iX10 rfl 0 5 (Nat.le_of_ble_eq_true rfl) (by decide) ((fun _ => rfl) _) rfl rfl w_1696 dX10_calls_105 ?_
        refine lv_iconst (v := 4) C0.1 C0.2.1 dX10_calls_108 (by decide) ?_
        refine lv_dup2_11 C0.1 C0.2.1 dX10_calls_109 rfl rfl ?_
        obtain ⟨h_37, hf⟩ := chk_some hf
        refine r_iald C0 C1 hI 1 (Nat.le_of_ble_eq_true rfl) (fun _ => rfl) h_37 dX10_calls_110 ?_
        refine lv_iconst (v := 1) C0.1 C0.2.1 dX10_calls_111 (by decide) ?_
        refine lv_iload C0.1 C0.2.1 dX10_calls_112 (lv_at hl 0 rfl) ?_
        refine lv_isub C0.1 C0.2.1 dX10_calls_114 ?_
        refine lv_iadd C0.1 C0.2.1 dX10_calls_115 ?_
        obtain ⟨h_38, hf⟩ := chk_some hf
        refine r_iast C0 C1 hI 1 (Nat.le_of_ble_eq_true rfl) (fun _ => rfl) h_38 dX10_calls_116 (fun H locs hI => ?_)
        obtain ⟨M_41, e_42⟩ : ∃ z : Mem, z = up2 M_35 1 (ix 4) ((M_35 1 (ix 4)) + (1 - 0)) := ⟨_, rfl⟩
        rw [← e_42] at hI
        have hf := lt_at e_42 hf
        refine lv_iload C0.1 C0.2.1 dX10_calls_117 (lv_at hl 0 rfl) ?_
        exact ee_im C0 hI hr hlocks hf dX10_calls_119
      · have hf := (if_neg c_14).symm.trans hf
        refine lv_iconst (v := 1) C0.1 C0.2.1 dX10_calls_50 (by decide) ?_
        refine lv_goto (tgt := 55) C0.1 C0.2.1 dX10_calls_51 (by decide) ?_
        refine lv_istore (lv' := [(4, .int 1), (3, .int x3_10), (2, .int r_5), (0, .ref (b 0)), (1, .int x1)]) C0.1 C0.2.1 dX10_calls_55 hl (by decide) rfl (fun ls hl => ?_)
        refine lv_aload_n C0.1 C0.2.1 dX10_calls_57 rfl (lv_at hl 3 rfl) ?_
        refine lv_iload_n C0.1 C0.2.1 dX10_calls_58 rfl (lv_at hl 4 rfl) ?_
        refine lv_iload_n C0.1 C0.2.1 dX10_calls_59 rfl (lv_at hl 2 rfl) ?_
        obtain ⟨M_44, h_43, hf⟩ := ob_some hf
        refine k_v C1 hI (q_V C0 C1 hI 0 (c_X10_takes l g X b H.size n M x1 r_5 h_43) w_1928 w_1930 w_92 w_132 w_1931 ⟨rfl, rfl⟩ hd_X10_takes ⟨Nat.le_of_ble_eq_true rfl, Nat.le_of_ble_eq_true rfl⟩ (Nat.le_of_ble_eq_true rfl) ((fun _ => rfl) _) rfl rfl rfl hl.1 rfl (Nat.le_of_ble_eq_true rfl) dX10_calls_60 ⟨Nat.le_of_ble_eq_true rfl, Nat.le_of_ble_eq_true rfl⟩) (fun H locs hI => ?_)
        refine lv_aload_n C0.1 C0.2.1 dX10_calls_63 rfl (lv_at hl 3 rfl) ?_
        refine r_get (C := RX10) (T := TX10) (N9 := 20) (ci := 11) C0 C1 hI iX10 rfl 0 5 (Nat.le_of_ble_eq_true rfl) (by decide) ((fun _ => rfl) _) rfl rfl w_1696 dX10_calls_64 ?_
        refine lv_bipush (v := 41) C0.1 C0.2.1 dX10_calls_67 (by decide) ?_
        refine lv_iload_n C0.1 C0.2.1 dX10_calls_69 rfl (lv_at hl 1 rfl) ?_
        refine lv_iadd C0.1 C0.2.1 dX10_calls_70 ?_
        refine lv_dup2_11 C0.1 C0.2.1 dX10_calls_71 rfl rfl ?_
        obtain ⟨h_45, hf⟩ := chk_some hf
        refine r_iald C0 C1 hI 1 (Nat.le_of_ble_eq_true rfl) (fun _ => rfl) h_45 dX10_calls_72 ?_
        refine lv_iload C0.1 C0.2.1 dX10_calls_73 (lv_at hl 0 rfl) ?_
        refine lv_iadd C0.1 C0.2.1 dX10_calls_75 ?_
        obtain ⟨h_46, hf⟩ := chk_some hf
        refine r_iast C0 C1 hI 1 (Nat.le_of_ble_eq_true rfl) (fun _ => rfl) h_46 dX10_calls_76 (fun H locs hI => ?_)
        obtain ⟨M_49, e_50⟩ : ∃ z : Mem, z = up2 M_44 1 (ix (41 + x3_10)) ((M_44 1 (ix (41 + x3_10))) + 1) := ⟨_, rfl⟩
        rw [← e_50] at hI
        have hf := lt_at e_50 hf
        refine lv_aload_n C0.1 C0.2.1 dX10_calls_77 rfl (lv_at hl 3 rfl) ?_
        refine r_get (C := RX10) (T := TX10) (N9 := 20) (ci := 11) C0 C1 hI iX10 rfl 0 5 (Nat.le_of_ble_eq_true rfl) (by decide) ((fun _ => rfl) _) rfl rfl w_1696 dX10_calls_78 ?_
        refine lv_iload_n C0.1 C0.2.1 dX10_calls_81 rfl (lv_at hl 4 rfl) ?_
        refine lv_bipush (v := 6) C0.1 C0.2.1 dX10_calls_82 (by decide) ?_
        obtain ⟨r_52, h_51, hf⟩ := ob_some hf
        refine k_i C1 hI (q_S C0 C1 hI (c_X10_of l g X b H.size n M_49 x1 6 h_51) w_1878 w_1879 w_132 w_1880 ⟨rfl, rfl⟩ hd_X10_of ⟨Nat.le_of_ble_eq_true rfl, Nat.le_of_ble_eq_true rfl⟩ rfl hl.1 rfl (Nat.le_of_ble_eq_true rfl) dX10_calls_84 ⟨Nat.le_of_ble_eq_true rfl, Nat.le_of_ble_eq_true rfl⟩) (fun H locs hI => ?_)
        refine lv_dup2_11 C0.1 C0.2.1 dX10_calls_87 rfl rfl ?_
        obtain ⟨h_53, hf⟩ := chk_some hf
        refine r_iald C0 C1 hI 1 (Nat.le_of_ble_eq_true rfl) (fun _ => rfl) h_53 dX10_calls_88 ?_
        refine lv_iload C0.1 C0.2.1 dX10_calls_89 (lv_at hl 0 rfl) ?_
        refine lv_iadd C0.1 C0.2.1 dX10_calls_91 ?_
        obtain ⟨h_54, hf⟩ := chk_some hf
        refine r_iast C0 C1 hI 1 (Nat.le_of_ble_eq_true rfl) (fun _ => rfl) h_54 dX10_calls_92 (fun H locs hI => ?_)
        obtain ⟨M_57, e_58⟩ : ∃ z : Mem, z = up2 M_49 1 (ix r_52) ((M_49 1 (ix r_52)) + 1) := ⟨_, rfl⟩
        rw [← e_58] at hI
        have hf := lt_at e_58 hf
        refine lv_aload_n C0.1 C0.2.1 dX10_calls_93 rfl (lv_at hl 3 rfl) ?_
        refine r_get (C := RX10) (T := TX10) (N9 := 20) (ci := 11) C0 C1 hI iX10 rfl 0 5 (Nat.le_of_ble_eq_true rfl) (by decide) ((fun _ => rfl) _) rfl rfl w_1696 dX10_calls_94 ?_
        refine lv_iconst (v := 3) C0.1 C0.2.1 dX10_calls_97 (by decide) ?_
        refine lv_dup2_11 C0.1 C0.2.1 dX10_calls_98 rfl rfl ?_
        obtain ⟨h_59, hf⟩ := chk_some hf
        refine r_iald C0 C1 hI 1 (Nat.le_of_ble_eq_true rfl) (fun _ => rfl) h_59 dX10_calls_99 ?_
        refine lv_iload C0.1 C0.2.1 dX10_calls_100 (lv_at hl 0 rfl) ?_
        refine lv_iadd C0.1 C0.2.1 dX10_calls_102 ?_
        obtain ⟨h_60, hf⟩ := chk_some hf
        refine r_iast C0 C1 hI 1 (Nat.le_of_ble_eq_true rfl) (fun _ => rfl) h_60 dX10_calls_103 (fun H locs hI => ?_)
        obtain ⟨M_63, e_64⟩ : ∃ z : Mem, z = up2 M_57 1 (ix 3) ((M_57 1 (ix 3)) + 1) := ⟨_, rfl⟩
        rw [← e_64] at hI
        have hf := lt_at e_64 hf
        refine lv_aload_n C0.1 C0.2.1 dX10_calls_104 rfl (lv_at hl 3 rfl) ?_
        refine r_get (C := RX10) (T := TX10) (N9 := 20) (ci := 11) C0 C1 hI iX10 rfl 0 5 (Nat.le_of_ble_eq_true rfl) (by decide) ((fun _ => rfl) _) rfl rfl w_1696 dX10_calls_105 ?_
        refine lv_iconst (v := 4) C0.1 C0.2.1 dX10_calls_108 (by decide) ?_
        refine lv_dup2_11 C0.1 C0.2.1 dX10_calls_109 rfl rfl ?_
        obtain ⟨h_65, hf⟩ := chk_some hf
        refine r_iald C0 C1 hI 1 (Nat.le_of_ble_eq_true rfl) (fun _ => rfl) h_65 dX10_calls_110 ?_
        refine lv_iconst (v := 1) C0.1 C0.2.1 dX10_calls_111 (by decide) ?_
        refine lv_iload C0.1 C0.2.1 dX10_calls_112 (lv_at hl 0 rfl) ?_
        refine lv_isub C0.1 C0.2.1 dX10_calls_114 ?_
        refine lv_iadd C0.1 C0.2.1 dX10_calls_115 ?_
        obtain ⟨h_66, hf⟩ := chk_some hf
        refine r_iast C0 C1 hI 1 (Nat.le_of_ble_eq_true rfl) (fun _ => rfl) h_66 dX10_calls_116 (fun H locs hI => ?_)
        obtain ⟨M_69, e_70⟩ : ∃ z : Mem, z = up2 M_63 1 (ix 4) ((M_63 1 (ix 4)) + (1 - 1)) := ⟨_, rfl⟩
        rw [← e_70] at hI
        have hf := lt_at e_70 hf
        refine lv_iload C0.1 C0.2.1 dX10_calls_117 (lv_at hl 0 rfl) ?_
        exact ee_im C0 hI hr hlocks hf dX10_calls_119
    · have hf := (if_neg c_6).symm.trans hf
      refine lv_aload_n C0.1 C0.2.1 dX10_calls_25 rfl (lv_at hl 1 rfl) ?_
      refine lv_iconst (v := 2) C0.1 C0.2.1 dX10_calls_26 (by decide) ?_
      obtain ⟨r_72, M_73, h_71, hf⟩ := ob2_some hf
      refine k_i C1 hI (q_V C0 C1 hI 0 (c_X10_fail l g X b H.size n M 2 h_71) w_1774 w_1776 w_72 w_132 w_1777 ⟨rfl, rfl⟩ hd_X10_fail ⟨Nat.le_of_ble_eq_true rfl, Nat.le_of_ble_eq_true rfl⟩ (Nat.le_of_ble_eq_true rfl) ((fun _ => rfl) _) rfl rfl rfl hl.1 rfl (Nat.le_of_ble_eq_true rfl) dX10_calls_27 ⟨Nat.le_of_ble_eq_true rfl, Nat.le_of_ble_eq_true rfl⟩) (fun H locs hI => ?_)
      exact ee_im C0 hI hr hlocks hf dX10_calls_30
  · have hf := (if_pos c_3).symm.trans hf
    refine lv_aload_n C0.1 C0.2.1 dX10_calls_8 rfl (lv_at hl 0 rfl) ?_
    refine lv_iconst (v := 1) C0.1 C0.2.1 dX10_calls_9 (by decide) ?_
    obtain ⟨r_75, M_76, h_74, hf⟩ := ob2_some hf
    refine k_i C1 hI (q_V C0 C1 hI 0 (c_X10_fail l g X b H.size n M 1 h_74) w_1774 w_1776 w_72 w_132 w_1777 ⟨rfl, rfl⟩ hd_X10_fail ⟨Nat.le_of_ble_eq_true rfl, Nat.le_of_ble_eq_true rfl⟩ (Nat.le_of_ble_eq_true rfl) ((fun _ => rfl) _) rfl rfl rfl hl.1 rfl (Nat.le_of_ble_eq_true rfl) dX10_calls_10 ⟨Nat.le_of_ble_eq_true rfl, Nat.le_of_ble_eq_true rfl⟩) (fun H locs hI => ?_)
    exact ee_im C0 hI hr hlocks hf dX10_calls_13

def F_X10_callNext (n : Nat) (x1 : Int32) (M : Mem) : Option (Int32 × Mem) :=
  ob (F_X10_begins n M) (fun M_2 => ob2 (F_X10_calls n x1 M_2) (fun r_4 M_5 => ob2 (F_X10_ends n r_4 M_5) (fun r_7 M_8 => (if r_7 = 1 then some (1, M_8) else some (0, M_8)))))
theorem hd_X10_callNext : yX10_callNext.cls ≠ "java/lang/invoke/MethodHandle" ∧ yX10_callNext.cls ≠ "java/lang/invoke/VarHandle" ∧ (parseMethodDescriptor yX10_callNext.desc).map (fun d => d.parameters.length) = some 1 := ⟨by decide +kernel, by decide +kernel, by decide +kernel⟩
set_option maxHeartbeats 4000000 in
set_option maxRecDepth 100000 in
theorem c_X10_callNext (l : Launch) (g : GG) (X : va_W) (b : Nat → Nat) (sz n : Nat) (M : Mem) (x1 : Int32) {r0 : Int32} {M' : Mem} (hf : F_X10_callNext n x1 M = some (r0, M')) : Met l yX10_callNext (.code yX10_callNext cX10_callNext 2 (some .boolean) :: LWg) (rmD 4 0 0) (va_Pc [.ref (b 0), .int x1] (PreP g X 10 (shM g b) b sz M)) (Qi g X 10 (shM g b) b sz r0 M') 0 0 (AA X b 10 sz) := by
  refine met_go (by decide +kernel) rfl (Nat.le_of_ble_eq_true rfl) ?_
  intro p e s m below meth c ls H locs C0 C1 hr hlocks hnm hsz hl hI
  subst hsz
  have hl : lv_has ls 2 [(0, .ref (b 0)), (1, .int x1)] := hl
  unfold F_X10_callNext at hf
  refine lv_aload_n C0.1 C0.2.1 dX10_callNext_0 rfl (lv_at hl 0 rfl) ?_
  obtain ⟨M_2, h_1, hf⟩ := ob_some hf
  refine k_v C1 hI (q_V C0 C1 hI 0 (c_X10_begins l g X b H.size n M h_1) w_1760 w_1762 w_70 w_132 w_1763 ⟨rfl, rfl⟩ hd_X10_begins ⟨Nat.le_of_ble_eq_true rfl, Nat.le_of_ble_eq_true rfl⟩ (Nat.le_of_ble_eq_true rfl) ((fun _ => rfl) _) rfl rfl rfl hl.1 rfl (Nat.le_of_ble_eq_true rfl) dX10_callNext_1 ⟨Nat.le_of_ble_eq_true rfl, Nat.le_of_ble_eq_true rfl⟩) (fun H locs hI => ?_)
  refine lv_aload_n C0.1 C0.2.1 dX10_callNext_4 rfl (lv_at hl 0 rfl) ?_
  refine lv_aload_n C0.1 C0.2.1 dX10_callNext_5 rfl (lv_at hl 0 rfl) ?_
  refine lv_iload_n C0.1 C0.2.1 dX10_callNext_6 rfl (lv_at hl 1 rfl) ?_
  obtain ⟨r_4, M_5, h_3, hf⟩ := ob2_some hf
  refine k_i C1 hI (q_V C0 C1 hI 0 (c_X10_calls l g X b H.size n M_2 x1 h_3) w_1936 w_1938 w_93 w_132 w_1939 ⟨rfl, rfl⟩ hd_X10_calls ⟨Nat.le_of_ble_eq_true rfl, Nat.le_of_ble_eq_true rfl⟩ (Nat.le_of_ble_eq_true rfl) ((fun _ => rfl) _) rfl rfl rfl hl.1 rfl (Nat.le_of_ble_eq_true rfl) dX10_callNext_7 ⟨Nat.le_of_ble_eq_true rfl, Nat.le_of_ble_eq_true rfl⟩) (fun H locs hI => ?_)
  obtain ⟨r_7, M_8, h_6, hf⟩ := ob2_some hf
  refine k_i C1 hI (q_V C0 C1 hI 0 (c_X10_ends l g X b H.size n M_5 r_4 h_6) w_1778 w_1780 w_73 w_132 w_1781 ⟨rfl, rfl⟩ hd_X10_ends ⟨Nat.le_of_ble_eq_true rfl, Nat.le_of_ble_eq_true rfl⟩ (Nat.le_of_ble_eq_true rfl) ((fun _ => rfl) _) rfl rfl rfl hl.1 rfl (Nat.le_of_ble_eq_true rfl) dX10_callNext_10 ⟨Nat.le_of_ble_eq_true rfl, Nat.le_of_ble_eq_true rfl⟩) (fun H locs hI => ?_)
  refine lv_iconst (v := 1) C0.1 C0.2.1 dX10_callNext_13 (by decide) ?_
  refine lv_icmp_ne (tgt := 21) C0.1 C0.2.1 dX10_callNext_14 (by decide) (fun c_9 => ?_) (fun c_9 => ?_)
  · have hf := (if_neg c_9).symm.trans hf
    refine lv_iconst (v := 0) C0.1 C0.2.1 dX10_callNext_21 (by decide) ?_
    exact ee_zm C0 hI hr hlocks rfl hf dX10_callNext_22
  · have hf := (if_pos c_9).symm.trans hf
    refine lv_iconst (v := 1) C0.1 C0.2.1 dX10_callNext_17 (by decide) ?_
    refine lv_goto (tgt := 22) C0.1 C0.2.1 dX10_callNext_18 (by decide) ?_
    exact ee_zm C0 hI hr hlocks rfl hf dX10_callNext_22

def F_X10_tellsMotion (n : Nat) (x1 : Int32) (x2 : Int32) (M : Mem) : Option (Int32 × Mem) :=
  ob (F_X10_isMotion n x1 M) (fun r_2 => (if r_2 = 0 then lt' (up2 M 0 0 1) (fun M_4 => (if (M_4 0 0) = 0 then ob (F_X10_of n x1 x2 M_4) (fun r_8 => chk (inb r_8 407) (some (M_4 1 (ix r_8), M_4))) else some (0, M_4))) else lt' (up2 M 0 0 0) (fun M_10 => (if (M_10 0 0) = 0 then ob (F_X10_of n x1 x2 M_10) (fun r_14 => chk (inb r_14 407) (some (M_10 1 (ix r_14), M_10))) else some (0, M_10)))))
theorem hd_X10_tellsMotion : yX10_tellsMotion.cls ≠ "java/lang/invoke/MethodHandle" ∧ yX10_tellsMotion.cls ≠ "java/lang/invoke/VarHandle" ∧ (parseMethodDescriptor yX10_tellsMotion.desc).map (fun d => d.parameters.length) = some 2 := ⟨by decide +kernel, by decide +kernel, by decide +kernel⟩
set_option maxHeartbeats 4000000 in
set_option maxRecDepth 100000 in
theorem c_X10_tellsMotion (l : Launch) (g : GG) (X : va_W) (b : Nat → Nat) (sz n : Nat) (M : Mem) (x1 : Int32) (x2 : Int32) {r0 : Int32} {M' : Mem} (hf : F_X10_tellsMotion n x1 x2 M = some (r0, M')) : Met l yX10_tellsMotion (.code yX10_tellsMotion cX10_tellsMotion 3 (some .int) :: LWg) (rmD 2 0 0) (va_Pc [.ref (b 0), .int x1, .int x2] (PreP g X 10 (shM g b) b sz M)) (Qi g X 10 (shM g b) b sz r0 M') 0 0 (AA X b 10 sz) := by
  refine met_go (by decide +kernel) rfl (Nat.le_of_ble_eq_true rfl) ?_
  intro p e s m below meth c ls H locs C0 C1 hr hlocks hnm hsz hl hI
  subst hsz
  have hl : lv_has ls 3 [(0, .ref (b 0)), (1, .int x1), (2, .int x2)] := hl
  unfold F_X10_tellsMotion at hf
  refine lv_aload_n C0.1 C0.2.1 dX10_tellsMotion_0 rfl (lv_at hl 0 rfl) ?_
  refine lv_aload_n C0.1 C0.2.1 dX10_tellsMotion_1 rfl (lv_at hl 0 rfl) ?_
  refine lv_iload_n C0.1 C0.2.1 dX10_tellsMotion_2 rfl (lv_at hl 1 rfl) ?_
  obtain ⟨r_2, h_1, hf⟩ := ob_some hf
  refine k_i C1 hI (q_V C0 C1 hI 0 (c_X10_isMotion l g X b H.size n M x1 h_1) w_1893 w_1895 w_86 w_132 w_1896 ⟨rfl, rfl⟩ hd_X10_isMotion ⟨Nat.le_of_ble_eq_true rfl, Nat.le_of_ble_eq_true rfl⟩ (Nat.le_of_ble_eq_true rfl) ((fun _ => rfl) _) rfl rfl rfl hl.1 rfl (Nat.le_of_ble_eq_true rfl) dX10_tellsMotion_3 ⟨Nat.le_of_ble_eq_true rfl, Nat.le_of_ble_eq_true rfl⟩) (fun H locs hI => ?_)
  refine lv_if_eq (tgt := 13) C0.1 C0.2.1 dX10_tellsMotion_6 (by decide) (fun c_3 => ?_) (fun c_3 => ?_)
  · have hf := (if_pos c_3).symm.trans hf
    refine lv_iconst (v := 1) C0.1 C0.2.1 dX10_tellsMotion_13 (by decide) ?_
    refine r_put (C := RX10) (T := TX10) (N9 := 20) (ci := 11) (fs := fM b) (ty := .int) C0 C1 hI iX10 tyX10 tyX10_ok nmX10 rfl 0 0 (Nat.le_of_ble_eq_true rfl) (by decide) (fun _ => rfl) rfl rfl rfl (by decide +kernel) ⟨rfl, rfl⟩ (Nat.le_of_ble_eq_true rfl) w_1691 dX10_tellsMotion_14 (fun H locs hI => ?_)
    obtain ⟨M_4, e_5⟩ : ∃ z : Mem, z = up2 M 0 0 1 := ⟨_, rfl⟩
    rw [← e_5] at hI
    have hf := lt_at e_5 hf
    refine lv_aload_n C0.1 C0.2.1 dX10_tellsMotion_17 rfl (lv_at hl 0 rfl) ?_
    refine r_get (C := RX10) (T := TX10) (N9 := 20) (ci := 11) C0 C1 hI iX10 rfl 0 0 (Nat.le_of_ble_eq_true rfl) (by decide) ((fun _ => rfl) _) rfl rfl w_1691 dX10_tellsMotion_18 ?_
    refine lv_if_ne (tgt := 37) C0.1 C0.2.1 dX10_tellsMotion_21 (by decide) (fun c_6 => ?_) (fun c_6 => ?_)
    · have hf := (if_neg c_6).symm.trans hf
      refine lv_iconst (v := 0) C0.1 C0.2.1 dX10_tellsMotion_37 (by decide) ?_
      exact ee_im C0 hI hr hlocks hf dX10_tellsMotion_38
    · have hf := (if_pos c_6).symm.trans hf
      refine lv_aload_n C0.1 C0.2.1 dX10_tellsMotion_24 rfl (lv_at hl 0 rfl) ?_
      refine r_get (C := RX10) (T := TX10) (N9 := 20) (ci := 11) C0 C1 hI iX10 rfl 0 5 (Nat.le_of_ble_eq_true rfl) (by decide) ((fun _ => rfl) _) rfl rfl w_1696 dX10_tellsMotion_25 ?_
      refine lv_iload_n C0.1 C0.2.1 dX10_tellsMotion_28 rfl (lv_at hl 1 rfl) ?_
      refine lv_iload_n C0.1 C0.2.1 dX10_tellsMotion_29 rfl (lv_at hl 2 rfl) ?_
      obtain ⟨r_8, h_7, hf⟩ := ob_some hf
      refine k_i C1 hI (q_S C0 C1 hI (c_X10_of l g X b H.size n M_4 x1 x2 h_7) w_1878 w_1879 w_132 w_1880 ⟨rfl, rfl⟩ hd_X10_of ⟨Nat.le_of_ble_eq_true rfl, Nat.le_of_ble_eq_true rfl⟩ rfl hl.1 rfl (Nat.le_of_ble_eq_true rfl) dX10_tellsMotion_30 ⟨Nat.le_of_ble_eq_true rfl, Nat.le_of_ble_eq_true rfl⟩) (fun H locs hI => ?_)
      obtain ⟨h_9, hf⟩ := chk_some hf
      refine r_iald C0 C1 hI 1 (Nat.le_of_ble_eq_true rfl) (fun _ => rfl) h_9 dX10_tellsMotion_33 ?_
      refine lv_goto (tgt := 38) C0.1 C0.2.1 dX10_tellsMotion_34 (by decide) ?_
      exact ee_im C0 hI hr hlocks hf dX10_tellsMotion_38
  · have hf := (if_neg c_3).symm.trans hf
    refine lv_iconst (v := 0) C0.1 C0.2.1 dX10_tellsMotion_9 (by decide) ?_
    refine lv_goto (tgt := 14) C0.1 C0.2.1 dX10_tellsMotion_10 (by decide) ?_
    refine r_put (C := RX10) (T := TX10) (N9 := 20) (ci := 11) (fs := fM b) (ty := .int) C0 C1 hI iX10 tyX10 tyX10_ok nmX10 rfl 0 0 (Nat.le_of_ble_eq_true rfl) (by decide) (fun _ => rfl) rfl rfl rfl (by decide +kernel) ⟨rfl, rfl⟩ (Nat.le_of_ble_eq_true rfl) w_1691 dX10_tellsMotion_14 (fun H locs hI => ?_)
    obtain ⟨M_10, e_11⟩ : ∃ z : Mem, z = up2 M 0 0 0 := ⟨_, rfl⟩
    rw [← e_11] at hI
    have hf := lt_at e_11 hf
    refine lv_aload_n C0.1 C0.2.1 dX10_tellsMotion_17 rfl (lv_at hl 0 rfl) ?_
    refine r_get (C := RX10) (T := TX10) (N9 := 20) (ci := 11) C0 C1 hI iX10 rfl 0 0 (Nat.le_of_ble_eq_true rfl) (by decide) ((fun _ => rfl) _) rfl rfl w_1691 dX10_tellsMotion_18 ?_
    refine lv_if_ne (tgt := 37) C0.1 C0.2.1 dX10_tellsMotion_21 (by decide) (fun c_12 => ?_) (fun c_12 => ?_)
    · have hf := (if_neg c_12).symm.trans hf
      refine lv_iconst (v := 0) C0.1 C0.2.1 dX10_tellsMotion_37 (by decide) ?_
      exact ee_im C0 hI hr hlocks hf dX10_tellsMotion_38
    · have hf := (if_pos c_12).symm.trans hf
      refine lv_aload_n C0.1 C0.2.1 dX10_tellsMotion_24 rfl (lv_at hl 0 rfl) ?_
      refine r_get (C := RX10) (T := TX10) (N9 := 20) (ci := 11) C0 C1 hI iX10 rfl 0 5 (Nat.le_of_ble_eq_true rfl) (by decide) ((fun _ => rfl) _) rfl rfl w_1696 dX10_tellsMotion_25 ?_
      refine lv_iload_n C0.1 C0.2.1 dX10_tellsMotion_28 rfl (lv_at hl 1 rfl) ?_
      refine lv_iload_n C0.1 C0.2.1 dX10_tellsMotion_29 rfl (lv_at hl 2 rfl) ?_
      obtain ⟨r_14, h_13, hf⟩ := ob_some hf
      refine k_i C1 hI (q_S C0 C1 hI (c_X10_of l g X b H.size n M_10 x1 x2 h_13) w_1878 w_1879 w_132 w_1880 ⟨rfl, rfl⟩ hd_X10_of ⟨Nat.le_of_ble_eq_true rfl, Nat.le_of_ble_eq_true rfl⟩ rfl hl.1 rfl (Nat.le_of_ble_eq_true rfl) dX10_tellsMotion_30 ⟨Nat.le_of_ble_eq_true rfl, Nat.le_of_ble_eq_true rfl⟩) (fun H locs hI => ?_)
      obtain ⟨h_15, hf⟩ := chk_some hf
      refine r_iald C0 C1 hI 1 (Nat.le_of_ble_eq_true rfl) (fun _ => rfl) h_15 dX10_tellsMotion_33 ?_
      refine lv_goto (tgt := 38) C0.1 C0.2.1 dX10_tellsMotion_34 (by decide) ?_
      exact ee_im C0 hI hr hlocks hf dX10_tellsMotion_38

def F_X10_listLength (n : Nat) (x1 : Int32) (M : Mem) : Option (Int32 × Mem) :=
  ob2 (F_X10_tellsMotion n x1 5 M) (fun r_2 M_3 => some (r_2, M_3))
theorem hd_X10_listLength : yX10_listLength.cls ≠ "java/lang/invoke/MethodHandle" ∧ yX10_listLength.cls ≠ "java/lang/invoke/VarHandle" ∧ (parseMethodDescriptor yX10_listLength.desc).map (fun d => d.parameters.length) = some 1 := ⟨by decide +kernel, by decide +kernel, by decide +kernel⟩
set_option maxHeartbeats 4000000 in
set_option maxRecDepth 100000 in
theorem c_X10_listLength (l : Launch) (g : GG) (X : va_W) (b : Nat → Nat) (sz n : Nat) (M : Mem) (x1 : Int32) {r0 : Int32} {M' : Mem} (hf : F_X10_listLength n x1 M = some (r0, M')) : Met l yX10_listLength (.code yX10_listLength cX10_listLength 2 (some .int) :: LWg) (rmD 3 0 0) (va_Pc [.ref (b 0), .int x1] (PreP g X 10 (shM g b) b sz M)) (Qi g X 10 (shM g b) b sz r0 M') 0 0 (AA X b 10 sz) := by
  refine met_go (by decide +kernel) rfl (Nat.le_of_ble_eq_true rfl) ?_
  intro p e s m below meth c ls H locs C0 C1 hr hlocks hnm hsz hl hI
  subst hsz
  have hl : lv_has ls 2 [(0, .ref (b 0)), (1, .int x1)] := hl
  unfold F_X10_listLength at hf
  refine lv_aload_n C0.1 C0.2.1 dX10_listLength_0 rfl (lv_at hl 0 rfl) ?_
  refine lv_iload_n C0.1 C0.2.1 dX10_listLength_1 rfl (lv_at hl 1 rfl) ?_
  refine lv_iconst (v := 5) C0.1 C0.2.1 dX10_listLength_2 (by decide) ?_
  obtain ⟨r_2, M_3, h_1, hf⟩ := ob2_some hf
  refine k_i C1 hI (q_V C0 C1 hI 0 (c_X10_tellsMotion l g X b H.size n M x1 5 h_1) w_1952 w_1954 w_96 w_132 w_1955 ⟨rfl, rfl⟩ hd_X10_tellsMotion ⟨Nat.le_of_ble_eq_true rfl, Nat.le_of_ble_eq_true rfl⟩ (Nat.le_of_ble_eq_true rfl) ((fun _ => rfl) _) rfl rfl rfl hl.1 rfl (Nat.le_of_ble_eq_true rfl) dX10_listLength_3 ⟨Nat.le_of_ble_eq_true rfl, Nat.le_of_ble_eq_true rfl⟩) (fun H locs hI => ?_)
  exact ee_im C0 hI hr hlocks hf dX10_listLength_6

def F_X10_nextFrog (n : Nat) (x1 : Int32) (M : Mem) : Option (Int32 × Mem) :=
  ob (F_X10_isMotion n x1 M) (fun r_2 => (if r_2 = 0 then lt' (up2 M 0 0 1) (fun M_24 => (if (M_24 0 0) = 0 then ob (F_X10_ranked n x1 0 M_24) (fun r_28 => ob (F_X10_listed n x1 r_28 M_24) (fun r_30 => chk (inb r_30 407) (some (M_24 1 (ix r_30), M_24)))) else some (0, M_24))) else ob (F_X10_of n x1 5 M) (fun r_5 => chk (inb r_5 407) ((if (M 1 (ix r_5)) = 0 then lt' (up2 M 0 0 2) (fun M_16 => (if (M_16 0 0) = 0 then ob (F_X10_ranked n x1 0 M_16) (fun r_20 => ob (F_X10_listed n x1 r_20 M_16) (fun r_22 => chk (inb r_22 407) (some (M_16 1 (ix r_22), M_16)))) else some (0, M_16))) else lt' (up2 M 0 0 0) (fun M_8 => (if (M_8 0 0) = 0 then ob (F_X10_ranked n x1 0 M_8) (fun r_12 => ob (F_X10_listed n x1 r_12 M_8) (fun r_14 => chk (inb r_14 407) (some (M_8 1 (ix r_14), M_8)))) else some (0, M_8))))))))
theorem hd_X10_nextFrog : yX10_nextFrog.cls ≠ "java/lang/invoke/MethodHandle" ∧ yX10_nextFrog.cls ≠ "java/lang/invoke/VarHandle" ∧ (parseMethodDescriptor yX10_nextFrog.desc).map (fun d => d.parameters.length) = some 1 := ⟨by decide +kernel, by decide +kernel, by decide +kernel⟩
set_option maxHeartbeats 4000000 in
set_option maxRecDepth 100000 in
theorem c_X10_nextFrog (l : Launch) (g : GG) (X : va_W) (b : Nat → Nat) (sz n : Nat) (M : Mem) (x1 : Int32) {r0 : Int32} {M' : Mem} (hf : F_X10_nextFrog n x1 M = some (r0, M')) : Met l yX10_nextFrog (.code yX10_nextFrog cX10_nextFrog 2 (some .int) :: LWg) (rmD 3 0 0) (va_Pc [.ref (b 0), .int x1] (PreP g X 10 (shM g b) b sz M)) (Qi g X 10 (shM g b) b sz r0 M') 0 0 (AA X b 10 sz) := by
  refine met_go (by decide +kernel) rfl (Nat.le_of_ble_eq_true rfl) ?_
  intro p e s m below meth c ls H locs C0 C1 hr hlocks hnm hsz hl hI
  subst hsz
  have hl : lv_has ls 2 [(0, .ref (b 0)), (1, .int x1)] := hl
  unfold F_X10_nextFrog at hf
  refine lv_aload_n C0.1 C0.2.1 dX10_nextFrog_0 rfl (lv_at hl 0 rfl) ?_
  refine lv_aload_n C0.1 C0.2.1 dX10_nextFrog_1 rfl (lv_at hl 0 rfl) ?_
  refine lv_iload_n C0.1 C0.2.1 dX10_nextFrog_2 rfl (lv_at hl 1 rfl) ?_
  obtain ⟨r_2, h_1, hf⟩ := ob_some hf
  refine k_i C1 hI (q_V C0 C1 hI 0 (c_X10_isMotion l g X b H.size n M x1 h_1) w_1893 w_1895 w_86 w_132 w_1896 ⟨rfl, rfl⟩ hd_X10_isMotion ⟨Nat.le_of_ble_eq_true rfl, Nat.le_of_ble_eq_true rfl⟩ (Nat.le_of_ble_eq_true rfl) ((fun _ => rfl) _) rfl rfl rfl hl.1 rfl (Nat.le_of_ble_eq_true rfl) dX10_nextFrog_3 ⟨Nat.le_of_ble_eq_true rfl, Nat.le_of_ble_eq_true rfl⟩) (fun H locs hI => ?_)
  refine lv_if_ne (tgt := 13) C0.1 C0.2.1 dX10_nextFrog_6 (by decide) (fun c_3 => ?_) (fun c_3 => ?_)
  · have hf := (if_neg c_3).symm.trans hf
    refine lv_aload_n C0.1 C0.2.1 dX10_nextFrog_13 rfl (lv_at hl 0 rfl) ?_
    refine r_get (C := RX10) (T := TX10) (N9 := 20) (ci := 11) C0 C1 hI iX10 rfl 0 5 (Nat.le_of_ble_eq_true rfl) (by decide) ((fun _ => rfl) _) rfl rfl w_1696 dX10_nextFrog_14 ?_
    refine lv_iload_n C0.1 C0.2.1 dX10_nextFrog_17 rfl (lv_at hl 1 rfl) ?_
    refine lv_iconst (v := 5) C0.1 C0.2.1 dX10_nextFrog_18 (by decide) ?_
    obtain ⟨r_5, h_4, hf⟩ := ob_some hf
    refine k_i C1 hI (q_S C0 C1 hI (c_X10_of l g X b H.size n M x1 5 h_4) w_1878 w_1879 w_132 w_1880 ⟨rfl, rfl⟩ hd_X10_of ⟨Nat.le_of_ble_eq_true rfl, Nat.le_of_ble_eq_true rfl⟩ rfl hl.1 rfl (Nat.le_of_ble_eq_true rfl) dX10_nextFrog_19 ⟨Nat.le_of_ble_eq_true rfl, Nat.le_of_ble_eq_true rfl⟩) (fun H locs hI => ?_)
    obtain ⟨h_6, hf⟩ := chk_some hf
    refine r_iald C0 C1 hI 1 (Nat.le_of_ble_eq_true rfl) (fun _ => rfl) h_6 dX10_nextFrog_22 ?_
    refine lv_if_ne (tgt := 30) C0.1 C0.2.1 dX10_nextFrog_23 (by decide) (fun c_7 => ?_) (fun c_7 => ?_)
    · have hf := (if_neg c_7).symm.trans hf
      refine lv_iconst (v := 0) C0.1 C0.2.1 dX10_nextFrog_30 (by decide) ?_
      refine r_put (C := RX10) (T := TX10) (N9 := 20) (ci := 11) (fs := fM b) (ty := .int) C0 C1 hI iX10 tyX10 tyX10_ok nmX10 rfl 0 0 (Nat.le_of_ble_eq_true rfl) (by decide) (fun _ => rfl) rfl rfl rfl (by decide +kernel) ⟨rfl, rfl⟩ (Nat.le_of_ble_eq_true rfl) w_1691 dX10_nextFrog_31 (fun H locs hI => ?_)
      obtain ⟨M_8, e_9⟩ : ∃ z : Mem, z = up2 M 0 0 0 := ⟨_, rfl⟩
      rw [← e_9] at hI
      have hf := lt_at e_9 hf
      refine lv_aload_n C0.1 C0.2.1 dX10_nextFrog_34 rfl (lv_at hl 0 rfl) ?_
      refine r_get (C := RX10) (T := TX10) (N9 := 20) (ci := 11) C0 C1 hI iX10 rfl 0 0 (Nat.le_of_ble_eq_true rfl) (by decide) ((fun _ => rfl) _) rfl rfl w_1691 dX10_nextFrog_35 ?_
      refine lv_if_ne (tgt := 59) C0.1 C0.2.1 dX10_nextFrog_38 (by decide) (fun c_10 => ?_) (fun c_10 => ?_)
      · have hf := (if_neg c_10).symm.trans hf
        refine lv_iconst (v := 0) C0.1 C0.2.1 dX10_nextFrog_59 (by decide) ?_
        exact ee_im C0 hI hr hlocks hf dX10_nextFrog_60
      · have hf := (if_pos c_10).symm.trans hf
        refine lv_aload_n C0.1 C0.2.1 dX10_nextFrog_41 rfl (lv_at hl 0 rfl) ?_
        refine r_get (C := RX10) (T := TX10) (N9 := 20) (ci := 11) C0 C1 hI iX10 rfl 0 5 (Nat.le_of_ble_eq_true rfl) (by decide) ((fun _ => rfl) _) rfl rfl w_1696 dX10_nextFrog_42 ?_
        refine lv_iload_n C0.1 C0.2.1 dX10_nextFrog_45 rfl (lv_at hl 1 rfl) ?_
        refine lv_aload_n C0.1 C0.2.1 dX10_nextFrog_46 rfl (lv_at hl 0 rfl) ?_
        refine lv_iload_n C0.1 C0.2.1 dX10_nextFrog_47 rfl (lv_at hl 1 rfl) ?_
        refine lv_iconst (v := 0) C0.1 C0.2.1 dX10_nextFrog_48 (by decide) ?_
        obtain ⟨r_12, h_11, hf⟩ := ob_some hf
        refine k_i C1 hI (q_V C0 C1 hI 0 (c_X10_ranked l g X b H.size n M_8 x1 0 h_11) w_1940 w_1942 w_94 w_132 w_1943 ⟨rfl, rfl⟩ hd_X10_ranked ⟨Nat.le_of_ble_eq_true rfl, Nat.le_of_ble_eq_true rfl⟩ (Nat.le_of_ble_eq_true rfl) ((fun _ => rfl) _) rfl rfl rfl hl.1 rfl (Nat.le_of_ble_eq_true rfl) dX10_nextFrog_49 ⟨Nat.le_of_ble_eq_true rfl, Nat.le_of_ble_eq_true rfl⟩) (fun H locs hI => ?_)
        obtain ⟨r_14, h_13, hf⟩ := ob_some hf
        refine k_i C1 hI (q_S C0 C1 hI (c_X10_listed l g X b H.size n M_8 x1 r_12 h_13) w_1917 w_1918 w_132 w_1919 ⟨rfl, rfl⟩ hd_X10_listed ⟨Nat.le_of_ble_eq_true rfl, Nat.le_of_ble_eq_true rfl⟩ rfl hl.1 rfl (Nat.le_of_ble_eq_true rfl) dX10_nextFrog_52 ⟨Nat.le_of_ble_eq_true rfl, Nat.le_of_ble_eq_true rfl⟩) (fun H locs hI => ?_)
        obtain ⟨h_15, hf⟩ := chk_some hf
        refine r_iald C0 C1 hI 1 (Nat.le_of_ble_eq_true rfl) (fun _ => rfl) h_15 dX10_nextFrog_55 ?_
        refine lv_goto (tgt := 60) C0.1 C0.2.1 dX10_nextFrog_56 (by decide) ?_
        exact ee_im C0 hI hr hlocks hf dX10_nextFrog_60
    · have hf := (if_pos c_7).symm.trans hf
      refine lv_iconst (v := 2) C0.1 C0.2.1 dX10_nextFrog_26 (by decide) ?_
      refine lv_goto (tgt := 31) C0.1 C0.2.1 dX10_nextFrog_27 (by decide) ?_
      refine r_put (C := RX10) (T := TX10) (N9 := 20) (ci := 11) (fs := fM b) (ty := .int) C0 C1 hI iX10 tyX10 tyX10_ok nmX10 rfl 0 0 (Nat.le_of_ble_eq_true rfl) (by decide) (fun _ => rfl) rfl rfl rfl (by decide +kernel) ⟨rfl, rfl⟩ (Nat.le_of_ble_eq_true rfl) w_1691 dX10_nextFrog_31 (fun H locs hI => ?_)
      obtain ⟨M_16, e_17⟩ : ∃ z : Mem, z = up2 M 0 0 2 := ⟨_, rfl⟩
      rw [← e_17] at hI
      have hf := lt_at e_17 hf
      refine lv_aload_n C0.1 C0.2.1 dX10_nextFrog_34 rfl (lv_at hl 0 rfl) ?_
      refine r_get (C := RX10) (T := TX10) (N9 := 20) (ci := 11) C0 C1 hI iX10 rfl 0 0 (Nat.le_of_ble_eq_true rfl) (by decide) ((fun _ => rfl) _) rfl rfl w_1691 dX10_nextFrog_35 ?_
      refine lv_if_ne (tgt := 59) C0.1 C0.2.1 dX10_nextFrog_38 (by decide) (fun c_18 => ?_) (fun c_18 => ?_)
      · have hf := (if_neg c_18).symm.trans hf
        refine lv_iconst (v := 0) C0.1 C0.2.1 dX10_nextFrog_59 (by decide) ?_
        exact ee_im C0 hI hr hlocks hf dX10_nextFrog_60
      · have hf := (if_pos c_18).symm.trans hf
        refine lv_aload_n C0.1 C0.2.1 dX10_nextFrog_41 rfl (lv_at hl 0 rfl) ?_
        refine r_get (C := RX10) (T := TX10) (N9 := 20) (ci := 11) C0 C1 hI iX10 rfl 0 5 (Nat.le_of_ble_eq_true rfl) (by decide) ((fun _ => rfl) _) rfl rfl w_1696 dX10_nextFrog_42 ?_
        refine lv_iload_n C0.1 C0.2.1 dX10_nextFrog_45 rfl (lv_at hl 1 rfl) ?_
        refine lv_aload_n C0.1 C0.2.1 dX10_nextFrog_46 rfl (lv_at hl 0 rfl) ?_
        refine lv_iload_n C0.1 C0.2.1 dX10_nextFrog_47 rfl (lv_at hl 1 rfl) ?_
        refine lv_iconst (v := 0) C0.1 C0.2.1 dX10_nextFrog_48 (by decide) ?_
        obtain ⟨r_20, h_19, hf⟩ := ob_some hf
        refine k_i C1 hI (q_V C0 C1 hI 0 (c_X10_ranked l g X b H.size n M_16 x1 0 h_19) w_1940 w_1942 w_94 w_132 w_1943 ⟨rfl, rfl⟩ hd_X10_ranked ⟨Nat.le_of_ble_eq_true rfl, Nat.le_of_ble_eq_true rfl⟩ (Nat.le_of_ble_eq_true rfl) ((fun _ => rfl) _) rfl rfl rfl hl.1 rfl (Nat.le_of_ble_eq_true rfl) dX10_nextFrog_49 ⟨Nat.le_of_ble_eq_true rfl, Nat.le_of_ble_eq_true rfl⟩) (fun H locs hI => ?_)
        obtain ⟨r_22, h_21, hf⟩ := ob_some hf
        refine k_i C1 hI (q_S C0 C1 hI (c_X10_listed l g X b H.size n M_16 x1 r_20 h_21) w_1917 w_1918 w_132 w_1919 ⟨rfl, rfl⟩ hd_X10_listed ⟨Nat.le_of_ble_eq_true rfl, Nat.le_of_ble_eq_true rfl⟩ rfl hl.1 rfl (Nat.le_of_ble_eq_true rfl) dX10_nextFrog_52 ⟨Nat.le_of_ble_eq_true rfl, Nat.le_of_ble_eq_true rfl⟩) (fun H locs hI => ?_)
        obtain ⟨h_23, hf⟩ := chk_some hf
        refine r_iald C0 C1 hI 1 (Nat.le_of_ble_eq_true rfl) (fun _ => rfl) h_23 dX10_nextFrog_55 ?_
        refine lv_goto (tgt := 60) C0.1 C0.2.1 dX10_nextFrog_56 (by decide) ?_
        exact ee_im C0 hI hr hlocks hf dX10_nextFrog_60
  · have hf := (if_pos c_3).symm.trans hf
    refine lv_iconst (v := 1) C0.1 C0.2.1 dX10_nextFrog_9 (by decide) ?_
    refine lv_goto (tgt := 31) C0.1 C0.2.1 dX10_nextFrog_10 (by decide) ?_
    refine r_put (C := RX10) (T := TX10) (N9 := 20) (ci := 11) (fs := fM b) (ty := .int) C0 C1 hI iX10 tyX10 tyX10_ok nmX10 rfl 0 0 (Nat.le_of_ble_eq_true rfl) (by decide) (fun _ => rfl) rfl rfl rfl (by decide +kernel) ⟨rfl, rfl⟩ (Nat.le_of_ble_eq_true rfl) w_1691 dX10_nextFrog_31 (fun H locs hI => ?_)
    obtain ⟨M_24, e_25⟩ : ∃ z : Mem, z = up2 M 0 0 1 := ⟨_, rfl⟩
    rw [← e_25] at hI
    have hf := lt_at e_25 hf
    refine lv_aload_n C0.1 C0.2.1 dX10_nextFrog_34 rfl (lv_at hl 0 rfl) ?_
    refine r_get (C := RX10) (T := TX10) (N9 := 20) (ci := 11) C0 C1 hI iX10 rfl 0 0 (Nat.le_of_ble_eq_true rfl) (by decide) ((fun _ => rfl) _) rfl rfl w_1691 dX10_nextFrog_35 ?_
    refine lv_if_ne (tgt := 59) C0.1 C0.2.1 dX10_nextFrog_38 (by decide) (fun c_26 => ?_) (fun c_26 => ?_)
    · have hf := (if_neg c_26).symm.trans hf
      refine lv_iconst (v := 0) C0.1 C0.2.1 dX10_nextFrog_59 (by decide) ?_
      exact ee_im C0 hI hr hlocks hf dX10_nextFrog_60
    · have hf := (if_pos c_26).symm.trans hf
      refine lv_aload_n C0.1 C0.2.1 dX10_nextFrog_41 rfl (lv_at hl 0 rfl) ?_
      refine r_get (C := RX10) (T := TX10) (N9 := 20) (ci := 11) C0 C1 hI iX10 rfl 0 5 (Nat.le_of_ble_eq_true rfl) (by decide) ((fun _ => rfl) _) rfl rfl w_1696 dX10_nextFrog_42 ?_
      refine lv_iload_n C0.1 C0.2.1 dX10_nextFrog_45 rfl (lv_at hl 1 rfl) ?_
      refine lv_aload_n C0.1 C0.2.1 dX10_nextFrog_46 rfl (lv_at hl 0 rfl) ?_
      refine lv_iload_n C0.1 C0.2.1 dX10_nextFrog_47 rfl (lv_at hl 1 rfl) ?_
      refine lv_iconst (v := 0) C0.1 C0.2.1 dX10_nextFrog_48 (by decide) ?_
      obtain ⟨r_28, h_27, hf⟩ := ob_some hf
      refine k_i C1 hI (q_V C0 C1 hI 0 (c_X10_ranked l g X b H.size n M_24 x1 0 h_27) w_1940 w_1942 w_94 w_132 w_1943 ⟨rfl, rfl⟩ hd_X10_ranked ⟨Nat.le_of_ble_eq_true rfl, Nat.le_of_ble_eq_true rfl⟩ (Nat.le_of_ble_eq_true rfl) ((fun _ => rfl) _) rfl rfl rfl hl.1 rfl (Nat.le_of_ble_eq_true rfl) dX10_nextFrog_49 ⟨Nat.le_of_ble_eq_true rfl, Nat.le_of_ble_eq_true rfl⟩) (fun H locs hI => ?_)
      obtain ⟨r_30, h_29, hf⟩ := ob_some hf
      refine k_i C1 hI (q_S C0 C1 hI (c_X10_listed l g X b H.size n M_24 x1 r_28 h_29) w_1917 w_1918 w_132 w_1919 ⟨rfl, rfl⟩ hd_X10_listed ⟨Nat.le_of_ble_eq_true rfl, Nat.le_of_ble_eq_true rfl⟩ rfl hl.1 rfl (Nat.le_of_ble_eq_true rfl) dX10_nextFrog_52 ⟨Nat.le_of_ble_eq_true rfl, Nat.le_of_ble_eq_true rfl⟩) (fun H locs hI => ?_)
      obtain ⟨h_31, hf⟩ := chk_some hf
      refine r_iald C0 C1 hI 1 (Nat.le_of_ble_eq_true rfl) (fun _ => rfl) h_31 dX10_nextFrog_55 ?_
      refine lv_goto (tgt := 60) C0.1 C0.2.1 dX10_nextFrog_56 (by decide) ?_
      exact ee_im C0 hI hr hlocks hf dX10_nextFrog_60

def F_X10_nextFrogByScan (n : Nat) (x1 : Int32) (M : Mem) : Option (Int32 × Mem) :=
  ob2 (F_X10_nextFrog n x1 M) (fun r_2 M_3 => some (r_2, M_3))
theorem hd_X10_nextFrogByScan : yX10_nextFrogByScan.cls ≠ "java/lang/invoke/MethodHandle" ∧ yX10_nextFrogByScan.cls ≠ "java/lang/invoke/VarHandle" ∧ (parseMethodDescriptor yX10_nextFrogByScan.desc).map (fun d => d.parameters.length) = some 1 := ⟨by decide +kernel, by decide +kernel, by decide +kernel⟩
set_option maxHeartbeats 4000000 in
set_option maxRecDepth 100000 in
theorem c_X10_nextFrogByScan (l : Launch) (g : GG) (X : va_W) (b : Nat → Nat) (sz n : Nat) (M : Mem) (x1 : Int32) {r0 : Int32} {M' : Mem} (hf : F_X10_nextFrogByScan n x1 M = some (r0, M')) : Met l yX10_nextFrogByScan (.code yX10_nextFrogByScan cX10_nextFrogByScan 2 (some .int) :: LWg) (rmD 4 0 0) (va_Pc [.ref (b 0), .int x1] (PreP g X 10 (shM g b) b sz M)) (Qi g X 10 (shM g b) b sz r0 M') 0 0 (AA X b 10 sz) := by
  refine met_go (by decide +kernel) rfl (Nat.le_of_ble_eq_true rfl) ?_
  intro p e s m below meth c ls H locs C0 C1 hr hlocks hnm hsz hl hI
  subst hsz
  have hl : lv_has ls 2 [(0, .ref (b 0)), (1, .int x1)] := hl
  unfold F_X10_nextFrogByScan at hf
  refine lv_aload_n C0.1 C0.2.1 dX10_nextFrogByScan_0 rfl (lv_at hl 0 rfl) ?_
  refine lv_iload_n C0.1 C0.2.1 dX10_nextFrogByScan_1 rfl (lv_at hl 1 rfl) ?_
  obtain ⟨r_2, M_3, h_1, hf⟩ := ob2_some hf
  refine k_i C1 hI (q_V C0 C1 hI 0 (c_X10_nextFrog l g X b H.size n M x1 h_1) w_1964 w_1957 w_1958 w_132 w_1959 ⟨rfl, rfl⟩ hd_X10_nextFrog ⟨Nat.le_of_ble_eq_true rfl, Nat.le_of_ble_eq_true rfl⟩ (Nat.le_of_ble_eq_true rfl) ((fun _ => rfl) _) rfl rfl rfl hl.1 rfl (Nat.le_of_ble_eq_true rfl) dX10_nextFrogByScan_2 ⟨Nat.le_of_ble_eq_true rfl, Nat.le_of_ble_eq_true rfl⟩) (fun H locs hI => ?_)
  exact ee_im C0 hI hr hlocks hf dX10_nextFrogByScan_5

def F_X10_frogsBefore (n : Nat) (x1 : Int32) (x2 : Int32) (M : Mem) : Option (Int32 × Mem) :=
  ob (F_X10_areThere n x1 x2 M) (fun r_2 => (if r_2 = 0 then ob2 (F_X10_fail n 1 M) (fun r_18 M_19 => some (r_18, M_19)) else ob (F_X10_place n x1 x2 M) (fun r_5 => (if 0 ≤ r_5 then lt' (up2 M 0 0 0) (fun M_7 => (if (M_7 0 0) = 0 then ob (F_X10_ahead n x1 r_5 M_7) (fun r_11 => some (r_11, M_7)) else some (0, M_7))) else lt' (up2 M 0 0 2) (fun M_12 => (if (M_12 0 0) = 0 then ob (F_X10_ahead n x1 r_5 M_12) (fun r_16 => some (r_16, M_12)) else some (0, M_12)))))))
theorem hd_X10_frogsBefore : yX10_frogsBefore.cls ≠ "java/lang/invoke/MethodHandle" ∧ yX10_frogsBefore.cls ≠ "java/lang/invoke/VarHandle" ∧ (parseMethodDescriptor yX10_frogsBefore.desc).map (fun d => d.parameters.length) = some 2 := ⟨by decide +kernel, by decide +kernel, by decide +kernel⟩
set_option maxHeartbeats 4000000 in
set_option maxRecDepth 100000 in
theorem c_X10_frogsBefore (l : Launch) (g : GG) (X : va_W) (b : Nat → Nat) (sz n : Nat) (M : Mem) (x1 : Int32) (x2 : Int32) {r0 : Int32} {M' : Mem} (hf : F_X10_frogsBefore n x1 x2 M = some (r0, M')) : Met l yX10_frogsBefore (.code yX10_frogsBefore cX10_frogsBefore 4 (some .int) :: LWg) (rmD 3 0 0) (va_Pc [.ref (b 0), .int x1, .int x2] (PreP g X 10 (shM g b) b sz M)) (Qi g X 10 (shM g b) b sz r0 M') 0 0 (AA X b 10 sz) := by
  refine met_go (by decide +kernel) rfl (Nat.le_of_ble_eq_true rfl) ?_
  intro p e s m below meth c ls H locs C0 C1 hr hlocks hnm hsz hl hI
  subst hsz
  have hl : lv_has ls 4 [(0, .ref (b 0)), (1, .int x1), (2, .int x2)] := hl
  unfold F_X10_frogsBefore at hf
  refine lv_aload_n C0.1 C0.2.1 dX10_frogsBefore_0 rfl (lv_at hl 0 rfl) ?_
  refine lv_iload_n C0.1 C0.2.1 dX10_frogsBefore_1 rfl (lv_at hl 1 rfl) ?_
  refine lv_iload_n C0.1 C0.2.1 dX10_frogsBefore_2 rfl (lv_at hl 2 rfl) ?_
  obtain ⟨r_2, h_1, hf⟩ := ob_some hf
  refine k_i C1 hI (q_V C0 C1 hI 0 (c_X10_areThere l g X b H.size n M x1 x2 h_1) w_1889 w_1891 w_85 w_132 w_1892 ⟨rfl, rfl⟩ hd_X10_areThere ⟨Nat.le_of_ble_eq_true rfl, Nat.le_of_ble_eq_true rfl⟩ (Nat.le_of_ble_eq_true rfl) ((fun _ => rfl) _) rfl rfl rfl hl.1 rfl (Nat.le_of_ble_eq_true rfl) dX10_frogsBefore_3 ⟨Nat.le_of_ble_eq_true rfl, Nat.le_of_ble_eq_true rfl⟩) (fun H locs hI => ?_)
  refine lv_if_ne (tgt := 15) C0.1 C0.2.1 dX10_frogsBefore_6 (by decide) (fun c_3 => ?_) (fun c_3 => ?_)
  · have hf := (if_neg c_3).symm.trans hf
    refine lv_aload_n C0.1 C0.2.1 dX10_frogsBefore_15 rfl (lv_at hl 0 rfl) ?_
    refine lv_iload_n C0.1 C0.2.1 dX10_frogsBefore_16 rfl (lv_at hl 1 rfl) ?_
    refine lv_iload_n C0.1 C0.2.1 dX10_frogsBefore_17 rfl (lv_at hl 2 rfl) ?_
    obtain ⟨r_5, h_4, hf⟩ := ob_some hf
    refine k_i C1 hI (q_V C0 C1 hI 0 (c_X10_place l g X b H.size n M x1 x2 h_4) w_1913 w_1915 w_90 w_132 w_1916 ⟨rfl, rfl⟩ hd_X10_place ⟨Nat.le_of_ble_eq_true rfl, Nat.le_of_ble_eq_true rfl⟩ (Nat.le_of_ble_eq_true rfl) ((fun _ => rfl) _) rfl rfl rfl hl.1 rfl (Nat.le_of_ble_eq_true rfl) dX10_frogsBefore_18 ⟨Nat.le_of_ble_eq_true rfl, Nat.le_of_ble_eq_true rfl⟩) (fun H locs hI => ?_)
    refine lv_istore_n (lv' := [(3, .int r_5), (0, .ref (b 0)), (1, .int x1), (2, .int x2)]) C0.1 C0.2.1 dX10_frogsBefore_21 rfl hl (by decide) rfl (fun ls hl => ?_)
    refine lv_aload_n C0.1 C0.2.1 dX10_frogsBefore_22 rfl (lv_at hl 1 rfl) ?_
    refine lv_iload_n C0.1 C0.2.1 dX10_frogsBefore_23 rfl (lv_at hl 0 rfl) ?_
    refine lv_if_ge (tgt := 31) C0.1 C0.2.1 dX10_frogsBefore_24 (by decide) (fun c_6 => ?_) (fun c_6 => ?_)
    · have hf := (if_pos c_6).symm.trans hf
      refine lv_iconst (v := 0) C0.1 C0.2.1 dX10_frogsBefore_31 (by decide) ?_
      refine r_put (C := RX10) (T := TX10) (N9 := 20) (ci := 11) (fs := fM b) (ty := .int) C0 C1 hI iX10 tyX10 tyX10_ok nmX10 rfl 0 0 (Nat.le_of_ble_eq_true rfl) (by decide) (fun _ => rfl) rfl rfl rfl (by decide +kernel) ⟨rfl, rfl⟩ (Nat.le_of_ble_eq_true rfl) w_1691 dX10_frogsBefore_32 (fun H locs hI => ?_)
      obtain ⟨M_7, e_8⟩ : ∃ z : Mem, z = up2 M 0 0 0 := ⟨_, rfl⟩
      rw [← e_8] at hI
      have hf := lt_at e_8 hf
      refine lv_aload_n C0.1 C0.2.1 dX10_frogsBefore_35 rfl (lv_at hl 1 rfl) ?_
      refine r_get (C := RX10) (T := TX10) (N9 := 20) (ci := 11) C0 C1 hI iX10 rfl 0 0 (Nat.le_of_ble_eq_true rfl) (by decide) ((fun _ => rfl) _) rfl rfl w_1691 dX10_frogsBefore_36 ?_
      refine lv_if_ne (tgt := 51) C0.1 C0.2.1 dX10_frogsBefore_39 (by decide) (fun c_9 => ?_) (fun c_9 => ?_)
      · have hf := (if_neg c_9).symm.trans hf
        refine lv_iconst (v := 0) C0.1 C0.2.1 dX10_frogsBefore_51 (by decide) ?_
        exact ee_im C0 hI hr hlocks hf dX10_frogsBefore_52
      · have hf := (if_pos c_9).symm.trans hf
        refine lv_aload_n C0.1 C0.2.1 dX10_frogsBefore_42 rfl (lv_at hl 1 rfl) ?_
        refine lv_iload_n C0.1 C0.2.1 dX10_frogsBefore_43 rfl (lv_at hl 2 rfl) ?_
        refine lv_iload_n C0.1 C0.2.1 dX10_frogsBefore_44 rfl (lv_at hl 0 rfl) ?_
        obtain ⟨r_11, h_10, hf⟩ := ob_some hf
        refine k_i C1 hI (q_V C0 C1 hI 0 (c_X10_ahead l g X b H.size n M_7 x1 r_5 h_10) w_1944 w_1946 w_95 w_132 w_1947 ⟨rfl, rfl⟩ hd_X10_ahead ⟨Nat.le_of_ble_eq_true rfl, Nat.le_of_ble_eq_true rfl⟩ (Nat.le_of_ble_eq_true rfl) ((fun _ => rfl) _) rfl rfl rfl hl.1 rfl (Nat.le_of_ble_eq_true rfl) dX10_frogsBefore_45 ⟨Nat.le_of_ble_eq_true rfl, Nat.le_of_ble_eq_true rfl⟩) (fun H locs hI => ?_)
        refine lv_goto (tgt := 52) C0.1 C0.2.1 dX10_frogsBefore_48 (by decide) ?_
        exact ee_im C0 hI hr hlocks hf dX10_frogsBefore_52
    · have hf := (if_neg c_6).symm.trans hf
      refine lv_iconst (v := 2) C0.1 C0.2.1 dX10_frogsBefore_27 (by decide) ?_
      refine lv_goto (tgt := 32) C0.1 C0.2.1 dX10_frogsBefore_28 (by decide) ?_
      refine r_put (C := RX10) (T := TX10) (N9 := 20) (ci := 11) (fs := fM b) (ty := .int) C0 C1 hI iX10 tyX10 tyX10_ok nmX10 rfl 0 0 (Nat.le_of_ble_eq_true rfl) (by decide) (fun _ => rfl) rfl rfl rfl (by decide +kernel) ⟨rfl, rfl⟩ (Nat.le_of_ble_eq_true rfl) w_1691 dX10_frogsBefore_32 (fun H locs hI => ?_)
      obtain ⟨M_12, e_13⟩ : ∃ z : Mem, z = up2 M 0 0 2 := ⟨_, rfl⟩
      rw [← e_13] at hI
      have hf := lt_at e_13 hf
      refine lv_aload_n C0.1 C0.2.1 dX10_frogsBefore_35 rfl (lv_at hl 1 rfl) ?_
      refine r_get (C := RX10) (T := TX10) (N9 := 20) (ci := 11) C0 C1 hI iX10 rfl 0 0 (Nat.le_of_ble_eq_true rfl) (by decide) ((fun _ => rfl) _) rfl rfl w_1691 dX10_frogsBefore_36 ?_
      refine lv_if_ne (tgt := 51) C0.1 C0.2.1 dX10_frogsBefore_39 (by decide) (fun c_14 => ?_) (fun c_14 => ?_)
      · have hf := (if_neg c_14).symm.trans hf
        refine lv_iconst (v := 0) C0.1 C0.2.1 dX10_frogsBefore_51 (by decide) ?_
        exact ee_im C0 hI hr hlocks hf dX10_frogsBefore_52
      · have hf := (if_pos c_14).symm.trans hf
        refine lv_aload_n C0.1 C0.2.1 dX10_frogsBefore_42 rfl (lv_at hl 1 rfl) ?_
        refine lv_iload_n C0.1 C0.2.1 dX10_frogsBefore_43 rfl (lv_at hl 2 rfl) ?_
        refine lv_iload_n C0.1 C0.2.1 dX10_frogsBefore_44 rfl (lv_at hl 0 rfl) ?_
        obtain ⟨r_16, h_15, hf⟩ := ob_some hf
        refine k_i C1 hI (q_V C0 C1 hI 0 (c_X10_ahead l g X b H.size n M_12 x1 r_5 h_15) w_1944 w_1946 w_95 w_132 w_1947 ⟨rfl, rfl⟩ hd_X10_ahead ⟨Nat.le_of_ble_eq_true rfl, Nat.le_of_ble_eq_true rfl⟩ (Nat.le_of_ble_eq_true rfl) ((fun _ => rfl) _) rfl rfl rfl hl.1 rfl (Nat.le_of_ble_eq_true rfl) dX10_frogsBefore_45 ⟨Nat.le_of_ble_eq_true rfl, Nat.le_of_ble_eq_true rfl⟩) (fun H locs hI => ?_)
        refine lv_goto (tgt := 52) C0.1 C0.2.1 dX10_frogsBefore_48 (by decide) ?_
        exact ee_im C0 hI hr hlocks hf dX10_frogsBefore_52
  · have hf := (if_pos c_3).symm.trans hf
    refine lv_aload_n C0.1 C0.2.1 dX10_frogsBefore_9 rfl (lv_at hl 0 rfl) ?_
    refine lv_iconst (v := 1) C0.1 C0.2.1 dX10_frogsBefore_10 (by decide) ?_
    obtain ⟨r_18, M_19, h_17, hf⟩ := ob2_some hf
    refine k_i C1 hI (q_V C0 C1 hI 0 (c_X10_fail l g X b H.size n M 1 h_17) w_1774 w_1776 w_72 w_132 w_1777 ⟨rfl, rfl⟩ hd_X10_fail ⟨Nat.le_of_ble_eq_true rfl, Nat.le_of_ble_eq_true rfl⟩ (Nat.le_of_ble_eq_true rfl) ((fun _ => rfl) _) rfl rfl rfl hl.1 rfl (Nat.le_of_ble_eq_true rfl) dX10_frogsBefore_11 ⟨Nat.le_of_ble_eq_true rfl, Nat.le_of_ble_eq_true rfl⟩) (fun H locs hI => ?_)
    exact ee_im C0 hI hr hlocks hf dX10_frogsBefore_14

def F_X10_speeches (n : Nat) (x1 : Int32) (M : Mem) : Option (Int32 × Mem) :=
  ob2 (F_X10_tellsFrog n x1 41 M) (fun r_2 M_3 => some (r_2, M_3))
theorem hd_X10_speeches : yX10_speeches.cls ≠ "java/lang/invoke/MethodHandle" ∧ yX10_speeches.cls ≠ "java/lang/invoke/VarHandle" ∧ (parseMethodDescriptor yX10_speeches.desc).map (fun d => d.parameters.length) = some 1 := ⟨by decide +kernel, by decide +kernel, by decide +kernel⟩
set_option maxHeartbeats 4000000 in
set_option maxRecDepth 100000 in
theorem c_X10_speeches (l : Launch) (g : GG) (X : va_W) (b : Nat → Nat) (sz n : Nat) (M : Mem) (x1 : Int32) {r0 : Int32} {M' : Mem} (hf : F_X10_speeches n x1 M = some (r0, M')) : Met l yX10_speeches (.code yX10_speeches cX10_speeches 2 (some .int) :: LWg) (rmD 3 0 0) (va_Pc [.ref (b 0), .int x1] (PreP g X 10 (shM g b) b sz M)) (Qi g X 10 (shM g b) b sz r0 M') 0 0 (AA X b 10 sz) := by
  refine met_go (by decide +kernel) rfl (Nat.le_of_ble_eq_true rfl) ?_
  intro p e s m below meth c ls H locs C0 C1 hr hlocks hnm hsz hl hI
  subst hsz
  have hl : lv_has ls 2 [(0, .ref (b 0)), (1, .int x1)] := hl
  unfold F_X10_speeches at hf
  refine lv_aload_n C0.1 C0.2.1 dX10_speeches_0 rfl (lv_at hl 0 rfl) ?_
  refine lv_iload_n C0.1 C0.2.1 dX10_speeches_1 rfl (lv_at hl 1 rfl) ?_
  refine lv_bipush (v := 41) C0.1 C0.2.1 dX10_speeches_2 (by decide) ?_
  obtain ⟨r_2, M_3, h_1, hf⟩ := ob2_some hf
  refine k_i C1 hI (q_V C0 C1 hI 0 (c_X10_tellsFrog l g X b H.size n M x1 41 h_1) w_1834 w_1836 w_82 w_132 w_1837 ⟨rfl, rfl⟩ hd_X10_tellsFrog ⟨Nat.le_of_ble_eq_true rfl, Nat.le_of_ble_eq_true rfl⟩ (Nat.le_of_ble_eq_true rfl) ((fun _ => rfl) _) rfl rfl rfl hl.1 rfl (Nat.le_of_ble_eq_true rfl) dX10_speeches_4 ⟨Nat.le_of_ble_eq_true rfl, Nat.le_of_ble_eq_true rfl⟩) (fun H locs hI => ?_)
  exact ee_im C0 hI hr hlocks hf dX10_speeches_7

def F_X10_speechesOn (n : Nat) (x1 : Int32) (M : Mem) : Option (Int32 × Mem) :=
  ob2 (F_X10_tellsMotion n x1 6 M) (fun r_2 M_3 => some (r_2, M_3))
theorem hd_X10_speechesOn : yX10_speechesOn.cls ≠ "java/lang/invoke/MethodHandle" ∧ yX10_speechesOn.cls ≠ "java/lang/invoke/VarHandle" ∧ (parseMethodDescriptor yX10_speechesOn.desc).map (fun d => d.parameters.length) = some 1 := ⟨by decide +kernel, by decide +kernel, by decide +kernel⟩
set_option maxHeartbeats 4000000 in
set_option maxRecDepth 100000 in
theorem c_X10_speechesOn (l : Launch) (g : GG) (X : va_W) (b : Nat → Nat) (sz n : Nat) (M : Mem) (x1 : Int32) {r0 : Int32} {M' : Mem} (hf : F_X10_speechesOn n x1 M = some (r0, M')) : Met l yX10_speechesOn (.code yX10_speechesOn cX10_speechesOn 2 (some .int) :: LWg) (rmD 3 0 0) (va_Pc [.ref (b 0), .int x1] (PreP g X 10 (shM g b) b sz M)) (Qi g X 10 (shM g b) b sz r0 M') 0 0 (AA X b 10 sz) := by
  refine met_go (by decide +kernel) rfl (Nat.le_of_ble_eq_true rfl) ?_
  intro p e s m below meth c ls H locs C0 C1 hr hlocks hnm hsz hl hI
  subst hsz
  have hl : lv_has ls 2 [(0, .ref (b 0)), (1, .int x1)] := hl
  unfold F_X10_speechesOn at hf
  refine lv_aload_n C0.1 C0.2.1 dX10_speechesOn_0 rfl (lv_at hl 0 rfl) ?_
  refine lv_iload_n C0.1 C0.2.1 dX10_speechesOn_1 rfl (lv_at hl 1 rfl) ?_
  refine lv_bipush (v := 6) C0.1 C0.2.1 dX10_speechesOn_2 (by decide) ?_
  obtain ⟨r_2, M_3, h_1, hf⟩ := ob2_some hf
  refine k_i C1 hI (q_V C0 C1 hI 0 (c_X10_tellsMotion l g X b H.size n M x1 6 h_1) w_1952 w_1954 w_96 w_132 w_1955 ⟨rfl, rfl⟩ hd_X10_tellsMotion ⟨Nat.le_of_ble_eq_true rfl, Nat.le_of_ble_eq_true rfl⟩ (Nat.le_of_ble_eq_true rfl) ((fun _ => rfl) _) rfl rfl rfl hl.1 rfl (Nat.le_of_ble_eq_true rfl) dX10_speechesOn_4 ⟨Nat.le_of_ble_eq_true rfl, Nat.le_of_ble_eq_true rfl⟩) (fun H locs hI => ?_)
  exact ee_im C0 hI hr hlocks hf dX10_speechesOn_7

def F_X10_frogAtRank_L22 (n : Nat) (c7 : Int32 → Int32 → Mem → Option (Int32 × Mem)) : Nat → Int32 → Int32 → Int32 → Int32 → Mem → Option (Int32 × Mem)
  | 0, _, _, _, _, _ => none
  | k22 + 1, x1_22, x2_22, x3_22, x4_22, M =>
    chk (inb 0 407) ((if (M 1 (ix 0)) ≤ x4_22 then (if x3_22 = x1_22 then some (x2_22, M) else lt' (x2_22 + 1) (fun x2_22_4 => c7 x1_22 x2_22_4 M)) else chk (inb (41 + x4_22) 407) (chk (inb (41 + x2_22) 407) (lt' ((M 1 (ix (41 + x4_22))) - (M 1 (ix (41 + x2_22)))) (fun x5_22_8 => (if x5_22_8 = 0 then chk (inb (17 + x4_22) 407) (chk (inb (17 + x2_22) 407) (lt' ((M 1 (ix (17 + x4_22))) - (M 1 (ix (17 + x2_22)))) (fun x5_22_13 => (if 0 < x5_22_13 then lt' (x3_22 + 1) (fun x3_22_16 => lt' (x4_22 + 1) (fun x4_22_18 => F_X10_frogAtRank_L22 n c7 k22 x1_22 x2_22 x3_22_16 x4_22_18 M)) else (if x5_22_13 = 0 then (if x2_22 ≤ x4_22 then lt' (x3_22 + 0) (fun x3_22_26 => lt' (x4_22 + 1) (fun x4_22_28 => F_X10_frogAtRank_L22 n c7 k22 x1_22 x2_22 x3_22_26 x4_22_28 M)) else lt' (x3_22 + 1) (fun x3_22_30 => lt' (x4_22 + 1) (fun x4_22_32 => F_X10_frogAtRank_L22 n c7 k22 x1_22 x2_22 x3_22_30 x4_22_32 M))) else lt' (x3_22 + 0) (fun x3_22_21 => lt' (x4_22 + 1) (fun x4_22_23 => F_X10_frogAtRank_L22 n c7 k22 x1_22 x2_22 x3_22_21 x4_22_23 M))))))) else (if 0 < x5_22_8 then lt' (x3_22 + 1) (fun x3_22_35 => lt' (x4_22 + 1) (fun x4_22_37 => F_X10_frogAtRank_L22 n c7 k22 x1_22 x2_22 x3_22_35 x4_22_37 M)) else (if x5_22_8 = 0 then (if x2_22 ≤ x4_22 then lt' (x3_22 + 0) (fun x3_22_45 => lt' (x4_22 + 1) (fun x4_22_47 => F_X10_frogAtRank_L22 n c7 k22 x1_22 x2_22 x3_22_45 x4_22_47 M)) else lt' (x3_22 + 1) (fun x3_22_49 => lt' (x4_22 + 1) (fun x4_22_51 => F_X10_frogAtRank_L22 n c7 k22 x1_22 x2_22 x3_22_49 x4_22_51 M))) else lt' (x3_22 + 0) (fun x3_22_40 => lt' (x4_22 + 1) (fun x4_22_42 => F_X10_frogAtRank_L22 n c7 k22 x1_22 x2_22 x3_22_40 x4_22_42 M))))))))))
def F_X10_frogAtRank_L7 (n : Nat) : Nat → Int32 → Int32 → Mem → Option (Int32 × Mem)
  | 0, _, _, _ => none
  | k7 + 1, x1_7, x2_7, M =>
    chk (inb 0 407) ((if (M 1 (ix 0)) ≤ x2_7 then ob2 (F_X10_fail n 1 M) (fun r_7_4 M_7_5 => some (r_7_4, M_7_5)) else F_X10_frogAtRank_L22 n (F_X10_frogAtRank_L7 n k7) n x1_7 x2_7 0 0 M))
def F_X10_frogAtRank (n : Nat) (x1 : Int32) (M : Mem) : Option (Int32 × Mem) :=
  lt' (up2 M 0 0 0) (fun M_1 => F_X10_frogAtRank_L7 n n x1 0 M_1)
theorem hd_X10_frogAtRank : yX10_frogAtRank.cls ≠ "java/lang/invoke/MethodHandle" ∧ yX10_frogAtRank.cls ≠ "java/lang/invoke/VarHandle" ∧ (parseMethodDescriptor yX10_frogAtRank.desc).map (fun d => d.parameters.length) = some 1 := ⟨by decide +kernel, by decide +kernel, by decide +kernel⟩
set_option maxHeartbeats 4000000 in
set_option maxRecDepth 100000 in
theorem c_X10_frogAtRank (l : Launch) (g : GG) (X : va_W) (b : Nat → Nat) (sz n : Nat) (M : Mem) (x1 : Int32) {r0 : Int32} {M' : Mem} (hf : F_X10_frogAtRank n x1 M = some (r0, M')) : Met l yX10_frogAtRank (.code yX10_frogAtRank cX10_frogAtRank 6 (some .int) :: LWg) (rmD 1 0 0) (va_Pc [.ref (b 0), .int x1] (PreP g X 10 (shM g b) b sz M)) (Qi g X 10 (shM g b) b sz r0 M') 0 0 (AA X b 10 sz) := by
  refine met_go (by decide +kernel) rfl (Nat.le_of_ble_eq_true rfl) ?_
  intro p e s m below meth c ls H locs C0 C1 hr hlocks hnm hsz hl hI
  subst hsz
  have hl : lv_has ls 6 [(0, .ref (b 0)), (1, .int x1)] := hl
  unfold F_X10_frogAtRank at hf
  refine lv_aload_n C0.1 C0.2.1 dX10_frogAtRank_0 rfl (lv_at hl 0 rfl) ?_
  refine lv_iconst (v := 0) C0.1 C0.2.1 dX10_frogAtRank_1 (by decide) ?_
  refine r_put (C := RX10) (T := TX10) (N9 := 20) (ci := 11) (fs := fM b) (ty := .int) C0 C1 hI iX10 tyX10 tyX10_ok nmX10 rfl 0 0 (Nat.le_of_ble_eq_true rfl) (by decide) (fun _ => rfl) rfl rfl rfl (by decide +kernel) ⟨rfl, rfl⟩ (Nat.le_of_ble_eq_true rfl) w_1691 dX10_frogAtRank_2 (fun H locs hI => ?_)
  obtain ⟨M_1, e_2⟩ : ∃ z : Mem, z = up2 M 0 0 0 := ⟨_, rfl⟩
  rw [← e_2] at hI
  have hf := lt_at e_2 hf
  refine lv_iconst (v := 0) C0.1 C0.2.1 dX10_frogAtRank_5 (by decide) ?_
  refine lv_istore_n (lv' := [(2, .int 0), (0, .ref (b 0)), (1, .int x1)]) C0.1 C0.2.1 dX10_frogAtRank_6 rfl hl (by decide) rfl (fun ls hl => ?_)
  have L7 : ∀ (k7 : Nat) (x1_7 : Int32) (x2_7 : Int32) (M : Mem), F_X10_frogAtRank_L7 n k7 x1_7 x2_7 M = some (r0, M') → ∀ (H : Heap) (locs : List Loc) (ls : Array Slot), PI g X 10 (shM g b) b s M H locs → lv_has ls 6 [(0, .ref (b 0)), (1, .int x1_7), (2, .int x2_7)] → W p l e (rmD 1 0 0) s m ([.ref (b 0), .int x1] : List Value).toArray below meth c H locs 0 0 (MQ below (Qi g X 10 (shM g b) b s.heap.size r0 M') ([.ref (b 0), .int x1] : List Value).toArray s 0 0 (AA X b 10 s.heap.size)) (F0 m 7 ls []) := by
    intro k7
    induction k7 with
    | zero => intro x1_7 x2_7 M hf; exact absurd (show (none : Option (Int32 × Mem)) = some (r0, M') from hf) (fun h => by cases h)
    | succ k7 ih7 =>
      intro x1_7 x2_7 M hf H locs ls hI hl
      unfold F_X10_frogAtRank_L7 at hf
      refine lv_iload_n C0.1 C0.2.1 dX10_frogAtRank_7 rfl (lv_at hl 2 rfl) ?_
      refine lv_aload_n C0.1 C0.2.1 dX10_frogAtRank_8 rfl (lv_at hl 0 rfl) ?_
      refine r_get (C := RX10) (T := TX10) (N9 := 20) (ci := 11) C0 C1 hI iX10 rfl 0 5 (Nat.le_of_ble_eq_true rfl) (by decide) ((fun _ => rfl) _) rfl rfl w_1696 dX10_frogAtRank_9 ?_
      refine lv_iconst (v := 0) C0.1 C0.2.1 dX10_frogAtRank_12 (by decide) ?_
      obtain ⟨h_7_1, hf⟩ := chk_some hf
      refine r_iald C0 C1 hI 1 (Nat.le_of_ble_eq_true rfl) (fun _ => rfl) h_7_1 dX10_frogAtRank_13 ?_
      refine lv_icmp_ge (tgt := 130) C0.1 C0.2.1 dX10_frogAtRank_14 (by decide) (fun c_7_2 => ?_) (fun c_7_2 => ?_)
      · have hf := (if_pos c_7_2).symm.trans hf
        refine lv_aload_n C0.1 C0.2.1 dX10_frogAtRank_130 rfl (lv_at hl 0 rfl) ?_
        refine lv_iconst (v := 1) C0.1 C0.2.1 dX10_frogAtRank_131 (by decide) ?_
        obtain ⟨r_7_4, M_7_5, h_7_3, hf⟩ := ob2_some hf
        refine k_i C1 hI (q_V C0 C1 hI 0 (c_X10_fail l g X b H.size n M 1 h_7_3) w_1774 w_1776 w_72 w_132 w_1777 ⟨rfl, rfl⟩ hd_X10_fail ⟨Nat.le_of_ble_eq_true rfl, Nat.le_of_ble_eq_true rfl⟩ (Nat.le_of_ble_eq_true rfl) ((fun _ => rfl) _) rfl rfl rfl hl.1 rfl (Nat.le_of_ble_eq_true rfl) dX10_frogAtRank_132 ⟨Nat.le_of_ble_eq_true rfl, Nat.le_of_ble_eq_true rfl⟩) (fun H locs hI => ?_)
        exact ee_im C0 hI hr hlocks hf dX10_frogAtRank_135
      · have hf := (if_neg c_7_2).symm.trans hf
        refine lv_iconst (v := 0) C0.1 C0.2.1 dX10_frogAtRank_17 (by decide) ?_
        refine lv_istore_n (lv' := [(3, .int 0), (0, .ref (b 0)), (1, .int x1_7), (2, .int x2_7)]) C0.1 C0.2.1 dX10_frogAtRank_18 rfl hl (by decide) rfl (fun ls hl => ?_)
        refine lv_iconst (v := 0) C0.1 C0.2.1 dX10_frogAtRank_19 (by decide) ?_
        refine lv_istore (lv' := [(4, .int 0), (3, .int 0), (0, .ref (b 0)), (1, .int x1_7), (2, .int x2_7)]) C0.1 C0.2.1 dX10_frogAtRank_20 hl (by decide) rfl (fun ls hl => ?_)
        have L22 : ∀ (c7 : Int32 → Int32 → Mem → Option (Int32 × Mem)) (hc7 : ∀ (z1 : Int32) (z2 : Int32) (M : Mem), c7 z1 z2 M = some (r0, M') → ∀ (H : Heap) (locs : List Loc) (ls : Array Slot), PI g X 10 (shM g b) b s M H locs → lv_has ls 6 [(0, .ref (b 0)), (1, .int z1), (2, .int z2)] → W p l e (rmD 1 0 0) s m ([.ref (b 0), .int x1] : List Value).toArray below meth c H locs 0 0 (MQ below (Qi g X 10 (shM g b) b s.heap.size r0 M') ([.ref (b 0), .int x1] : List Value).toArray s 0 0 (AA X b 10 s.heap.size)) (F0 m 7 ls [])) (k22 : Nat) (x1_22 : Int32) (x2_22 : Int32) (x3_22 : Int32) (x4_22 : Int32) (M : Mem), F_X10_frogAtRank_L22 n c7 k22 x1_22 x2_22 x3_22 x4_22 M = some (r0, M') → ∀ (H : Heap) (locs : List Loc) (ls : Array Slot), PI g X 10 (shM g b) b s M H locs → lv_has ls 6 [(0, .ref (b 0)), (1, .int x1_22), (2, .int x2_22), (3, .int x3_22), (4, .int x4_22)] → W p l e (rmD 1 0 0) s m ([.ref (b 0), .int x1] : List Value).toArray below meth c H locs 0 0 (MQ below (Qi g X 10 (shM g b) b s.heap.size r0 M') ([.ref (b 0), .int x1] : List Value).toArray s 0 0 (AA X b 10 s.heap.size)) (F0 m 22 ls []) := by
          intro c7 hc7 k22
          induction k22 with
          | zero => intro x1_22 x2_22 x3_22 x4_22 M hf; exact absurd (show (none : Option (Int32 × Mem)) = some (r0, M') from hf) (fun h => by cases h)
          | succ k22 ih22 =>
            intro x1_22 x2_22 x3_22 x4_22 M hf H locs ls hI hl
            unfold F_X10_frogAtRank_L22 at hf
            refine lv_iload C0.1 C0.2.1 dX10_frogAtRank_22 (lv_at hl 4 rfl) ?_
            refine lv_aload_n C0.1 C0.2.1 dX10_frogAtRank_24 rfl (lv_at hl 0 rfl) ?_
            refine r_get (C := RX10) (T := TX10) (N9 := 20) (ci := 11) C0 C1 hI iX10 rfl 0 5 (Nat.le_of_ble_eq_true rfl) (by decide) ((fun _ => rfl) _) rfl rfl w_1696 dX10_frogAtRank_25 ?_
            refine lv_iconst (v := 0) C0.1 C0.2.1 dX10_frogAtRank_28 (by decide) ?_
            obtain ⟨h_22_1, hf⟩ := chk_some hf
            refine r_iald C0 C1 hI 1 (Nat.le_of_ble_eq_true rfl) (fun _ => rfl) h_22_1 dX10_frogAtRank_29 ?_
            refine lv_icmp_ge (tgt := 117) C0.1 C0.2.1 dX10_frogAtRank_30 (by decide) (fun c_22_2 => ?_) (fun c_22_2 => ?_)
            · have hf := (if_pos c_22_2).symm.trans hf
              refine lv_iload_n C0.1 C0.2.1 dX10_frogAtRank_117 rfl (lv_at hl 3 rfl) ?_
              refine lv_iload_n C0.1 C0.2.1 dX10_frogAtRank_118 rfl (lv_at hl 1 rfl) ?_
              refine lv_icmp_ne (tgt := 124) C0.1 C0.2.1 dX10_frogAtRank_119 (by decide) (fun c_22_3 => ?_) (fun c_22_3 => ?_)
              · have hf := (if_neg c_22_3).symm.trans hf
                obtain ⟨x2_22_4, e_22_5⟩ : ∃ z : Int32, z = x2_22 + 1 := ⟨_, rfl⟩
                have hf := lt_at e_22_5 hf
                refine lv_iinc (v := x2_22_4) (lv' := [(2, .int x2_22_4), (0, .ref (b 0)), (1, .int x1_22), (3, .int x3_22), (4, .int x4_22)]) C0.1 C0.2.1 dX10_frogAtRank_124 hl (k := 2) rfl (by rw [e_22_5]; rfl) (by decide) rfl (fun ls hl => ?_)
                refine lv_goto (tgt := 7) C0.1 C0.2.1 dX10_frogAtRank_127 (by decide) ?_
                exact hc7 x1_22 x2_22_4 M hf H locs ls hI (lv_sub hl [1, 2, 0] rfl)
              · have hf := (if_pos c_22_3).symm.trans hf
                refine lv_iload_n C0.1 C0.2.1 dX10_frogAtRank_122 rfl (lv_at hl 2 rfl) ?_
                exact ee_im C0 hI hr hlocks hf dX10_frogAtRank_123
            · have hf := (if_neg c_22_2).symm.trans hf
              refine lv_aload_n C0.1 C0.2.1 dX10_frogAtRank_33 rfl (lv_at hl 0 rfl) ?_
              refine r_get (C := RX10) (T := TX10) (N9 := 20) (ci := 11) C0 C1 hI iX10 rfl 0 5 (Nat.le_of_ble_eq_true rfl) (by decide) ((fun _ => rfl) _) rfl rfl w_1696 dX10_frogAtRank_34 ?_
              refine lv_bipush (v := 41) C0.1 C0.2.1 dX10_frogAtRank_37 (by decide) ?_
              refine lv_iload C0.1 C0.2.1 dX10_frogAtRank_39 (lv_at hl 4 rfl) ?_
              refine lv_iadd C0.1 C0.2.1 dX10_frogAtRank_41 ?_
              obtain ⟨h_22_6, hf⟩ := chk_some hf
              refine r_iald C0 C1 hI 1 (Nat.le_of_ble_eq_true rfl) (fun _ => rfl) h_22_6 dX10_frogAtRank_42 ?_
              refine lv_aload_n C0.1 C0.2.1 dX10_frogAtRank_43 rfl (lv_at hl 0 rfl) ?_
              refine r_get (C := RX10) (T := TX10) (N9 := 20) (ci := 11) C0 C1 hI iX10 rfl 0 5 (Nat.le_of_ble_eq_true rfl) (by decide) ((fun _ => rfl) _) rfl rfl w_1696 dX10_frogAtRank_44 ?_
              refine lv_bipush (v := 41) C0.1 C0.2.1 dX10_frogAtRank_47 (by decide) ?_
              refine lv_iload_n C0.1 C0.2.1 dX10_frogAtRank_49 rfl (lv_at hl 2 rfl) ?_
              refine lv_iadd C0.1 C0.2.1 dX10_frogAtRank_50 ?_
              obtain ⟨h_22_7, hf⟩ := chk_some hf
              refine r_iald C0 C1 hI 1 (Nat.le_of_ble_eq_true rfl) (fun _ => rfl) h_22_7 dX10_frogAtRank_51 ?_
              refine lv_isub C0.1 C0.2.1 dX10_frogAtRank_52 ?_
              refine lv_topi (fun x5_22_8 e_22_9 => ?_)
              have hf := lt_at e_22_9 hf
              refine lv_istore (lv' := [(5, .int x5_22_8), (0, .ref (b 0)), (1, .int x1_22), (2, .int x2_22), (3, .int x3_22), (4, .int x4_22)]) C0.1 C0.2.1 dX10_frogAtRank_53 hl (by decide) rfl (fun ls hl => ?_)
              refine lv_iload C0.1 C0.2.1 dX10_frogAtRank_55 (lv_at hl 0 rfl) ?_
              refine lv_if_eq (tgt := 65) C0.1 C0.2.1 dX10_frogAtRank_57 (by decide) (fun c_22_10 => ?_) (fun c_22_10 => ?_)
              · have hf := (if_pos c_22_10).symm.trans hf
                refine lv_aload_n C0.1 C0.2.1 dX10_frogAtRank_65 rfl (lv_at hl 1 rfl) ?_
                refine r_get (C := RX10) (T := TX10) (N9 := 20) (ci := 11) C0 C1 hI iX10 rfl 0 5 (Nat.le_of_ble_eq_true rfl) (by decide) ((fun _ => rfl) _) rfl rfl w_1696 dX10_frogAtRank_66 ?_
                refine lv_bipush (v := 17) C0.1 C0.2.1 dX10_frogAtRank_69 (by decide) ?_
                refine lv_iload C0.1 C0.2.1 dX10_frogAtRank_71 (lv_at hl 5 rfl) ?_
                refine lv_iadd C0.1 C0.2.1 dX10_frogAtRank_73 ?_
                obtain ⟨h_22_11, hf⟩ := chk_some hf
                refine r_iald C0 C1 hI 1 (Nat.le_of_ble_eq_true rfl) (fun _ => rfl) h_22_11 dX10_frogAtRank_74 ?_
                refine lv_aload_n C0.1 C0.2.1 dX10_frogAtRank_75 rfl (lv_at hl 1 rfl) ?_
                refine r_get (C := RX10) (T := TX10) (N9 := 20) (ci := 11) C0 C1 hI iX10 rfl 0 5 (Nat.le_of_ble_eq_true rfl) (by decide) ((fun _ => rfl) _) rfl rfl w_1696 dX10_frogAtRank_76 ?_
                refine lv_bipush (v := 17) C0.1 C0.2.1 dX10_frogAtRank_79 (by decide) ?_
                refine lv_iload_n C0.1 C0.2.1 dX10_frogAtRank_81 rfl (lv_at hl 3 rfl) ?_
                refine lv_iadd C0.1 C0.2.1 dX10_frogAtRank_82 ?_
                obtain ⟨h_22_12, hf⟩ := chk_some hf
                refine r_iald C0 C1 hI 1 (Nat.le_of_ble_eq_true rfl) (fun _ => rfl) h_22_12 dX10_frogAtRank_83 ?_
                refine lv_isub C0.1 C0.2.1 dX10_frogAtRank_84 ?_
                refine lv_topi (fun x5_22_13 e_22_14 => ?_)
                have hf := lt_at e_22_14 hf
                refine lv_istore (lv' := [(5, .int x5_22_13), (0, .ref (b 0)), (1, .int x1_22), (2, .int x2_22), (3, .int x3_22), (4, .int x4_22)]) C0.1 C0.2.1 dX10_frogAtRank_85 hl (by decide) rfl (fun ls hl => ?_)
                refine lv_iload_n C0.1 C0.2.1 dX10_frogAtRank_87 rfl (lv_at hl 4 rfl) ?_
                refine lv_iload C0.1 C0.2.1 dX10_frogAtRank_88 (lv_at hl 0 rfl) ?_
                refine lv_if_gt (tgt := 104) C0.1 C0.2.1 dX10_frogAtRank_90 (by decide) (fun c_22_15 => ?_) (fun c_22_15 => ?_)
                · have hf := (if_pos c_22_15).symm.trans hf
                  refine lv_iconst (v := 1) C0.1 C0.2.1 dX10_frogAtRank_104 (by decide) ?_
                  refine lv_goto (tgt := 109) C0.1 C0.2.1 dX10_frogAtRank_105 (by decide) ?_
                  refine lv_iadd C0.1 C0.2.1 dX10_frogAtRank_109 ?_
                  refine lv_topi (fun x3_22_16 e_22_17 => ?_)
                  have hf := lt_at e_22_17 hf
                  refine lv_istore_n (lv' := [(3, .int x3_22_16), (5, .int x5_22_13), (0, .ref (b 0)), (1, .int x1_22), (2, .int x2_22), (4, .int x4_22)]) C0.1 C0.2.1 dX10_frogAtRank_110 rfl hl (by decide) rfl (fun ls hl => ?_)
                  obtain ⟨x4_22_18, e_22_19⟩ : ∃ z : Int32, z = x4_22 + 1 := ⟨_, rfl⟩
                  have hf := lt_at e_22_19 hf
                  refine lv_iinc (v := x4_22_18) (lv' := [(4, .int x4_22_18), (3, .int x3_22_16), (5, .int x5_22_13), (0, .ref (b 0)), (1, .int x1_22), (2, .int x2_22)]) C0.1 C0.2.1 dX10_frogAtRank_111 hl (k := 5) rfl (by rw [e_22_19]; rfl) (by decide) rfl (fun ls hl => ?_)
                  refine lv_goto (tgt := 22) C0.1 C0.2.1 dX10_frogAtRank_114 (by decide) ?_
                  exact ih22 x1_22 x2_22 x3_22_16 x4_22_18 M hf H locs ls hI (lv_sub hl [3, 4, 5, 1, 0] rfl)
                · have hf := (if_neg c_22_15).symm.trans hf
                  refine lv_iload C0.1 C0.2.1 dX10_frogAtRank_93 (lv_at hl 0 rfl) ?_
                  refine lv_if_ne (tgt := 108) C0.1 C0.2.1 dX10_frogAtRank_95 (by decide) (fun c_22_20 => ?_) (fun c_22_20 => ?_)
                  · have hf := (if_neg c_22_20).symm.trans hf
                    refine lv_iconst (v := 0) C0.1 C0.2.1 dX10_frogAtRank_108 (by decide) ?_
                    refine lv_iadd C0.1 C0.2.1 dX10_frogAtRank_109 ?_
                    refine lv_topi (fun x3_22_21 e_22_22 => ?_)
                    have hf := lt_at e_22_22 hf
                    refine lv_istore_n (lv' := [(3, .int x3_22_21), (5, .int x5_22_13), (0, .ref (b 0)), (1, .int x1_22), (2, .int x2_22), (4, .int x4_22)]) C0.1 C0.2.1 dX10_frogAtRank_110 rfl hl (by decide) rfl (fun ls hl => ?_)
                    obtain ⟨x4_22_23, e_22_24⟩ : ∃ z : Int32, z = x4_22 + 1 := ⟨_, rfl⟩
                    have hf := lt_at e_22_24 hf
                    refine lv_iinc (v := x4_22_23) (lv' := [(4, .int x4_22_23), (3, .int x3_22_21), (5, .int x5_22_13), (0, .ref (b 0)), (1, .int x1_22), (2, .int x2_22)]) C0.1 C0.2.1 dX10_frogAtRank_111 hl (k := 5) rfl (by rw [e_22_24]; rfl) (by decide) rfl (fun ls hl => ?_)
                    refine lv_goto (tgt := 22) C0.1 C0.2.1 dX10_frogAtRank_114 (by decide) ?_
                    exact ih22 x1_22 x2_22 x3_22_21 x4_22_23 M hf H locs ls hI (lv_sub hl [3, 4, 5, 1, 0] rfl)
                  · have hf := (if_pos c_22_20).symm.trans hf
                    refine lv_iload C0.1 C0.2.1 dX10_frogAtRank_98 (lv_at hl 5 rfl) ?_
                    refine lv_iload_n C0.1 C0.2.1 dX10_frogAtRank_100 rfl (lv_at hl 3 rfl) ?_
                    refine lv_icmp_ge (tgt := 108) C0.1 C0.2.1 dX10_frogAtRank_101 (by decide) (fun c_22_25 => ?_) (fun c_22_25 => ?_)
                    · have hf := (if_pos c_22_25).symm.trans hf
                      refine lv_iconst (v := 0) C0.1 C0.2.1 dX10_frogAtRank_108 (by decide) ?_
                      refine lv_iadd C0.1 C0.2.1 dX10_frogAtRank_109 ?_
                      refine lv_topi (fun x3_22_26 e_22_27 => ?_)
                      have hf := lt_at e_22_27 hf
                      refine lv_istore_n (lv' := [(3, .int x3_22_26), (5, .int x5_22_13), (0, .ref (b 0)), (1, .int x1_22), (2, .int x2_22), (4, .int x4_22)]) C0.1 C0.2.1 dX10_frogAtRank_110 rfl hl (by decide) rfl (fun ls hl => ?_)
                      obtain ⟨x4_22_28, e_22_29⟩ : ∃ z : Int32, z = x4_22 + 1 := ⟨_, rfl⟩
                      have hf := lt_at e_22_29 hf
                      refine lv_iinc (v := x4_22_28) (lv' := [(4, .int x4_22_28), (3, .int x3_22_26), (5, .int x5_22_13), (0, .ref (b 0)), (1, .int x1_22), (2, .int x2_22)]) C0.1 C0.2.1 dX10_frogAtRank_111 hl (k := 5) rfl (by rw [e_22_29]; rfl) (by decide) rfl (fun ls hl => ?_)
                      refine lv_goto (tgt := 22) C0.1 C0.2.1 dX10_frogAtRank_114 (by decide) ?_
                      exact ih22 x1_22 x2_22 x3_22_26 x4_22_28 M hf H locs ls hI (lv_sub hl [3, 4, 5, 1, 0] rfl)
                    · have hf := (if_neg c_22_25).symm.trans hf
                      refine lv_iconst (v := 1) C0.1 C0.2.1 dX10_frogAtRank_104 (by decide) ?_
                      refine lv_goto (tgt := 109) C0.1 C0.2.1 dX10_frogAtRank_105 (by decide) ?_
                      refine lv_iadd C0.1 C0.2.1 dX10_frogAtRank_109 ?_
                      refine lv_topi (fun x3_22_30 e_22_31 => ?_)
                      have hf := lt_at e_22_31 hf
                      refine lv_istore_n (lv' := [(3, .int x3_22_30), (5, .int x5_22_13), (0, .ref (b 0)), (1, .int x1_22), (2, .int x2_22), (4, .int x4_22)]) C0.1 C0.2.1 dX10_frogAtRank_110 rfl hl (by decide) rfl (fun ls hl => ?_)
                      obtain ⟨x4_22_32, e_22_33⟩ : ∃ z : Int32, z = x4_22 + 1 := ⟨_, rfl⟩
                      have hf := lt_at e_22_33 hf
                      refine lv_iinc (v := x4_22_32) (lv' := [(4, .int x4_22_32), (3, .int x3_22_30), (5, .int x5_22_13), (0, .ref (b 0)), (1, .int x1_22), (2, .int x2_22)]) C0.1 C0.2.1 dX10_frogAtRank_111 hl (k := 5) rfl (by rw [e_22_33]; rfl) (by decide) rfl (fun ls hl => ?_)
                      refine lv_goto (tgt := 22) C0.1 C0.2.1 dX10_frogAtRank_114 (by decide) ?_
                      exact ih22 x1_22 x2_22 x3_22_30 x4_22_32 M hf H locs ls hI (lv_sub hl [3, 4, 5, 1, 0] rfl)
              · have hf := (if_neg c_22_10).symm.trans hf
                refine lv_iload C0.1 C0.2.1 dX10_frogAtRank_60 (lv_at hl 0 rfl) ?_
                refine lv_goto (tgt := 85) C0.1 C0.2.1 dX10_frogAtRank_62 (by decide) ?_
                refine lv_istore (lv' := [(5, .int x5_22_8), (0, .ref (b 0)), (1, .int x1_22), (2, .int x2_22), (3, .int x3_22), (4, .int x4_22)]) C0.1 C0.2.1 dX10_frogAtRank_85 hl (by decide) rfl (fun ls hl => ?_)
                refine lv_iload_n C0.1 C0.2.1 dX10_frogAtRank_87 rfl (lv_at hl 4 rfl) ?_
                refine lv_iload C0.1 C0.2.1 dX10_frogAtRank_88 (lv_at hl 0 rfl) ?_
                refine lv_if_gt (tgt := 104) C0.1 C0.2.1 dX10_frogAtRank_90 (by decide) (fun c_22_34 => ?_) (fun c_22_34 => ?_)
                · have hf := (if_pos c_22_34).symm.trans hf
                  refine lv_iconst (v := 1) C0.1 C0.2.1 dX10_frogAtRank_104 (by decide) ?_
                  refine lv_goto (tgt := 109) C0.1 C0.2.1 dX10_frogAtRank_105 (by decide) ?_
                  refine lv_iadd C0.1 C0.2.1 dX10_frogAtRank_109 ?_
                  refine lv_topi (fun x3_22_35 e_22_36 => ?_)
                  have hf := lt_at e_22_36 hf
                  refine lv_istore_n (lv' := [(3, .int x3_22_35), (5, .int x5_22_8), (0, .ref (b 0)), (1, .int x1_22), (2, .int x2_22), (4, .int x4_22)]) C0.1 C0.2.1 dX10_frogAtRank_110 rfl hl (by decide) rfl (fun ls hl => ?_)
                  obtain ⟨x4_22_37, e_22_38⟩ : ∃ z : Int32, z = x4_22 + 1 := ⟨_, rfl⟩
                  have hf := lt_at e_22_38 hf
                  refine lv_iinc (v := x4_22_37) (lv' := [(4, .int x4_22_37), (3, .int x3_22_35), (5, .int x5_22_8), (0, .ref (b 0)), (1, .int x1_22), (2, .int x2_22)]) C0.1 C0.2.1 dX10_frogAtRank_111 hl (k := 5) rfl (by rw [e_22_38]; rfl) (by decide) rfl (fun ls hl => ?_)
                  refine lv_goto (tgt := 22) C0.1 C0.2.1 dX10_frogAtRank_114 (by decide) ?_
                  exact ih22 x1_22 x2_22 x3_22_35 x4_22_37 M hf H locs ls hI (lv_sub hl [3, 4, 5, 1, 0] rfl)
                · have hf := (if_neg c_22_34).symm.trans hf
                  refine lv_iload C0.1 C0.2.1 dX10_frogAtRank_93 (lv_at hl 0 rfl) ?_
                  refine lv_if_ne (tgt := 108) C0.1 C0.2.1 dX10_frogAtRank_95 (by decide) (fun c_22_39 => ?_) (fun c_22_39 => ?_)
                  · have hf := (if_neg c_22_39).symm.trans hf
                    refine lv_iconst (v := 0) C0.1 C0.2.1 dX10_frogAtRank_108 (by decide) ?_
                    refine lv_iadd C0.1 C0.2.1 dX10_frogAtRank_109 ?_
                    refine lv_topi (fun x3_22_40 e_22_41 => ?_)
                    have hf := lt_at e_22_41 hf
                    refine lv_istore_n (lv' := [(3, .int x3_22_40), (5, .int x5_22_8), (0, .ref (b 0)), (1, .int x1_22), (2, .int x2_22), (4, .int x4_22)]) C0.1 C0.2.1 dX10_frogAtRank_110 rfl hl (by decide) rfl (fun ls hl => ?_)
                    obtain ⟨x4_22_42, e_22_43⟩ : ∃ z : Int32, z = x4_22 + 1 := ⟨_, rfl⟩
                    have hf := lt_at e_22_43 hf
                    refine lv_iinc (v := x4_22_42) (lv' := [(4, .int x4_22_42), (3, .int x3_22_40), (5, .int x5_22_8), (0, .ref (b 0)), (1, .int x1_22), (2, .int x2_22)]) C0.1 C0.2.1 dX10_frogAtRank_111 hl (k := 5) rfl (by rw [e_22_43]; rfl) (by decide) rfl (fun ls hl => ?_)
                    refine lv_goto (tgt := 22) C0.1 C0.2.1 dX10_frogAtRank_114 (by decide) ?_
                    exact ih22 x1_22 x2_22 x3_22_40 x4_22_42 M hf H locs ls hI (lv_sub hl [3, 4, 5, 1, 0] rfl)
                  · have hf := (if_pos c_22_39).symm.trans hf
                    refine lv_iload C0.1 C0.2.1 dX10_frogAtRank_98 (lv_at hl 5 rfl) ?_
                    refine lv_iload_n C0.1 C0.2.1 dX10_frogAtRank_100 rfl (lv_at hl 3 rfl) ?_
                    refine lv_icmp_ge (tgt := 108) C0.1 C0.2.1 dX10_frogAtRank_101 (by decide) (fun c_22_44 => ?_) (fun c_22_44 => ?_)
                    · have hf := (if_pos c_22_44).symm.trans hf
                      refine lv_iconst (v := 0) C0.1 C0.2.1 dX10_frogAtRank_108 (by decide) ?_
                      refine lv_iadd C0.1 C0.2.1 dX10_frogAtRank_109 ?_
                      refine lv_topi (fun x3_22_45 e_22_46 => ?_)
                      have hf := lt_at e_22_46 hf
                      refine lv_istore_n (lv' := [(3, .int x3_22_45), (5, .int x5_22_8), (0, .ref (b 0)), (1, .int x1_22), (2, .int x2_22), (4, .int x4_22)]) C0.1 C0.2.1 dX10_frogAtRank_110 rfl hl (by decide) rfl (fun ls hl => ?_)
                      obtain ⟨x4_22_47, e_22_48⟩ : ∃ z : Int32, z = x4_22 + 1 := ⟨_, rfl⟩
                      have hf := lt_at e_22_48 hf
                      refine lv_iinc (v := x4_22_47) (lv' := [(4, .int x4_22_47), (3, .int x3_22_45), (5, .int x5_22_8), (0, .ref (b 0)), (1, .int x1_22), (2, .int x2_22)]) C0.1 C0.2.1 dX10_frogAtRank_111 hl (k := 5) rfl (by rw [e_22_48]; rfl) (by decide) rfl (fun ls hl => ?_)
                      refine lv_goto (tgt := 22) C0.1 C0.2.1 dX10_frogAtRank_114 (by decide) ?_
                      exact ih22 x1_22 x2_22 x3_22_45 x4_22_47 M hf H locs ls hI (lv_sub hl [3, 4, 5, 1, 0] rfl)
                    · have hf := (if_neg c_22_44).symm.trans hf
                      refine lv_iconst (v := 1) C0.1 C0.2.1 dX10_frogAtRank_104 (by decide) ?_
                      refine lv_goto (tgt := 109) C0.1 C0.2.1 dX10_frogAtRank_105 (by decide) ?_
                      refine lv_iadd C0.1 C0.2.1 dX10_frogAtRank_109 ?_
                      refine lv_topi (fun x3_22_49 e_22_50 => ?_)
                      have hf := lt_at e_22_50 hf
                      refine lv_istore_n (lv' := [(3, .int x3_22_49), (5, .int x5_22_8), (0, .ref (b 0)), (1, .int x1_22), (2, .int x2_22), (4, .int x4_22)]) C0.1 C0.2.1 dX10_frogAtRank_110 rfl hl (by decide) rfl (fun ls hl => ?_)
                      obtain ⟨x4_22_51, e_22_52⟩ : ∃ z : Int32, z = x4_22 + 1 := ⟨_, rfl⟩
                      have hf := lt_at e_22_52 hf
                      refine lv_iinc (v := x4_22_51) (lv' := [(4, .int x4_22_51), (3, .int x3_22_49), (5, .int x5_22_8), (0, .ref (b 0)), (1, .int x1_22), (2, .int x2_22)]) C0.1 C0.2.1 dX10_frogAtRank_111 hl (k := 5) rfl (by rw [e_22_52]; rfl) (by decide) rfl (fun ls hl => ?_)
                      refine lv_goto (tgt := 22) C0.1 C0.2.1 dX10_frogAtRank_114 (by decide) ?_
                      exact ih22 x1_22 x2_22 x3_22_49 x4_22_51 M hf H locs ls hI (lv_sub hl [3, 4, 5, 1, 0] rfl)
        exact L22 _ ih7 n x1_7 x2_7 0 0 M hf H locs ls hI (lv_sub hl [2, 3, 4, 1, 0] rfl)
  exact L7 n x1 0 M_1 hf H locs ls hI (lv_sub hl [1, 2, 0] rfl)

def F_X10_backing_L4 (n : Nat) (M : Mem) : Nat → Int32 → Int32 → Int32 → Option Int32
  | 0, _, _, _ => none
  | k4 + 1, x1_4, x2_4, x3_4 =>
    chk (inb 0 407) ((if (M 1 (ix 0)) ≤ x3_4 then some x2_4 else ob (F_X10_of n x1_4 4 M) (fun r_4_4 => chk (inb r_4_4 407) ((if (((M 1 (ix r_4_4)) >>> (x3_4 &&& 31)) &&& 1) = 1 then chk (inb (17 + x3_4) 407) (lt' (x2_4 + (M 1 (ix (17 + x3_4)))) (fun x2_4_12 => lt' (x3_4 + 1) (fun x3_4_14 => F_X10_backing_L4 n M k4 x1_4 x2_4_12 x3_4_14))) else lt' (x2_4 + 0) (fun x2_4_7 => lt' (x3_4 + 1) (fun x3_4_9 => F_X10_backing_L4 n M k4 x1_4 x2_4_7 x3_4_9)))))))
def F_X10_backing (n : Nat) (x1 : Int32) (M : Mem) : Option Int32 :=
  F_X10_backing_L4 n M n x1 0 0
theorem hd_X10_backing : yX10_backing.cls ≠ "java/lang/invoke/MethodHandle" ∧ yX10_backing.cls ≠ "java/lang/invoke/VarHandle" ∧ (parseMethodDescriptor yX10_backing.desc).map (fun d => d.parameters.length) = some 1 := ⟨by decide +kernel, by decide +kernel, by decide +kernel⟩
set_option maxHeartbeats 4000000 in
set_option maxRecDepth 100000 in
theorem c_X10_backing (l : Launch) (g : GG) (X : va_W) (b : Nat → Nat) (sz n : Nat) (M : Mem) (x1 : Int32) {r0 : Int32} (hf : F_X10_backing n x1 M = some r0) : Met l yX10_backing (.code yX10_backing cX10_backing 4 (some .int) :: LWg) (rmD 1 0 0) (va_Pc [.ref (b 0), .int x1] (PreP g X 10 (shM g b) b sz M)) (Qi g X 10 (shM g b) b sz r0 M) 0 0 (AA X b 10 sz) := by
  refine met_go (by decide +kernel) rfl (Nat.le_of_ble_eq_true rfl) ?_
  intro p e s m below meth c ls H locs C0 C1 hr hlocks hnm hsz hl hI
  subst hsz
  have hl : lv_has ls 4 [(0, .ref (b 0)), (1, .int x1)] := hl
  unfold F_X10_backing at hf
  refine lv_iconst (v := 0) C0.1 C0.2.1 dX10_backing_0 (by decide) ?_
  refine lv_istore_n (lv' := [(2, .int 0), (0, .ref (b 0)), (1, .int x1)]) C0.1 C0.2.1 dX10_backing_1 rfl hl (by decide) rfl (fun ls hl => ?_)
  refine lv_iconst (v := 0) C0.1 C0.2.1 dX10_backing_2 (by decide) ?_
  refine lv_istore_n (lv' := [(3, .int 0), (2, .int 0), (0, .ref (b 0)), (1, .int x1)]) C0.1 C0.2.1 dX10_backing_3 rfl hl (by decide) rfl (fun ls hl => ?_)
  have L4 : ∀ (k4 : Nat) (x1_4 : Int32) (x2_4 : Int32) (x3_4 : Int32), F_X10_backing_L4 n M k4 x1_4 x2_4 x3_4 = some r0 → ∀ (H : Heap) (locs : List Loc) (ls : Array Slot), PI g X 10 (shM g b) b s M H locs → lv_has ls 4 [(0, .ref (b 0)), (1, .int x1_4), (2, .int x2_4), (3, .int x3_4)] → W p l e (rmD 1 0 0) s m ([.ref (b 0), .int x1] : List Value).toArray below meth c H locs 0 0 (MQ below (Qi g X 10 (shM g b) b s.heap.size r0 M) ([.ref (b 0), .int x1] : List Value).toArray s 0 0 (AA X b 10 s.heap.size)) (F0 m 4 ls []) := by
    intro k4
    induction k4 with
    | zero => intro x1_4 x2_4 x3_4 hf; exact absurd (show (none : Option Int32) = some r0 from hf) (fun h => by cases h)
    | succ k4 ih4 =>
      intro x1_4 x2_4 x3_4 hf H locs ls hI hl
      unfold F_X10_backing_L4 at hf
      refine lv_iload_n C0.1 C0.2.1 dX10_backing_4 rfl (lv_at hl 3 rfl) ?_
      refine lv_aload_n C0.1 C0.2.1 dX10_backing_5 rfl (lv_at hl 0 rfl) ?_
      refine r_get (C := RX10) (T := TX10) (N9 := 20) (ci := 11) C0 C1 hI iX10 rfl 0 5 (Nat.le_of_ble_eq_true rfl) (by decide) ((fun _ => rfl) _) rfl rfl w_1696 dX10_backing_6 ?_
      refine lv_iconst (v := 0) C0.1 C0.2.1 dX10_backing_9 (by decide) ?_
      obtain ⟨h_4_1, hf⟩ := chk_some hf
      refine r_iald C0 C1 hI 1 (Nat.le_of_ble_eq_true rfl) (fun _ => rfl) h_4_1 dX10_backing_10 ?_
      refine lv_icmp_ge (tgt := 54) C0.1 C0.2.1 dX10_backing_11 (by decide) (fun c_4_2 => ?_) (fun c_4_2 => ?_)
      · have hf := (if_pos c_4_2).symm.trans hf
        refine lv_iload_n C0.1 C0.2.1 dX10_backing_54 rfl (lv_at hl 2 rfl) ?_
        exact ee_i C0 hI hr hlocks hf dX10_backing_55
      · have hf := (if_neg c_4_2).symm.trans hf
        refine lv_iload_n C0.1 C0.2.1 dX10_backing_14 rfl (lv_at hl 2 rfl) ?_
        refine lv_aload_n C0.1 C0.2.1 dX10_backing_15 rfl (lv_at hl 0 rfl) ?_
        refine r_get (C := RX10) (T := TX10) (N9 := 20) (ci := 11) C0 C1 hI iX10 rfl 0 5 (Nat.le_of_ble_eq_true rfl) (by decide) ((fun _ => rfl) _) rfl rfl w_1696 dX10_backing_16 ?_
        refine lv_iload_n C0.1 C0.2.1 dX10_backing_19 rfl (lv_at hl 1 rfl) ?_
        refine lv_iconst (v := 4) C0.1 C0.2.1 dX10_backing_20 (by decide) ?_
        obtain ⟨r_4_4, h_4_3, hf⟩ := ob_some hf
        refine k_i C1 hI (q_S C0 C1 hI (c_X10_of l g X b H.size n M x1_4 4 h_4_3) w_1878 w_1879 w_132 w_1880 ⟨rfl, rfl⟩ hd_X10_of ⟨Nat.le_of_ble_eq_true rfl, Nat.le_of_ble_eq_true rfl⟩ rfl hl.1 rfl (Nat.le_of_ble_eq_true rfl) dX10_backing_21 ⟨Nat.le_of_ble_eq_true rfl, Nat.le_of_ble_eq_true rfl⟩) (fun H locs hI => ?_)
        obtain ⟨h_4_5, hf⟩ := chk_some hf
        refine r_iald C0 C1 hI 1 (Nat.le_of_ble_eq_true rfl) (fun _ => rfl) h_4_5 dX10_backing_24 ?_
        refine lv_iload_n C0.1 C0.2.1 dX10_backing_25 rfl (lv_at hl 3 rfl) ?_
        refine lv_ishr C0.1 C0.2.1 dX10_backing_26 ?_
        refine lv_iconst (v := 1) C0.1 C0.2.1 dX10_backing_27 (by decide) ?_
        refine lv_iand C0.1 C0.2.1 dX10_backing_28 ?_
        refine lv_iconst (v := 1) C0.1 C0.2.1 dX10_backing_29 (by decide) ?_
        refine lv_icmp_ne (tgt := 45) C0.1 C0.2.1 dX10_backing_30 (by decide) (fun c_4_6 => ?_) (fun c_4_6 => ?_)
        · have hf := (if_neg c_4_6).symm.trans hf
          refine lv_iconst (v := 0) C0.1 C0.2.1 dX10_backing_45 (by decide) ?_
          refine lv_iadd C0.1 C0.2.1 dX10_backing_46 ?_
          refine lv_topi (fun x2_4_7 e_4_8 => ?_)
          have hf := lt_at e_4_8 hf
          refine lv_istore_n (lv' := [(2, .int x2_4_7), (0, .ref (b 0)), (1, .int x1_4), (3, .int x3_4)]) C0.1 C0.2.1 dX10_backing_47 rfl hl (by decide) rfl (fun ls hl => ?_)
          obtain ⟨x3_4_9, e_4_10⟩ : ∃ z : Int32, z = x3_4 + 1 := ⟨_, rfl⟩
          have hf := lt_at e_4_10 hf
          refine lv_iinc (v := x3_4_9) (lv' := [(3, .int x3_4_9), (2, .int x2_4_7), (0, .ref (b 0)), (1, .int x1_4)]) C0.1 C0.2.1 dX10_backing_48 hl (k := 3) rfl (by rw [e_4_10]; rfl) (by decide) rfl (fun ls hl => ?_)
          refine lv_goto (tgt := 4) C0.1 C0.2.1 dX10_backing_51 (by decide) ?_
          exact ih4 x1_4 x2_4_7 x3_4_9 hf H locs ls hI (lv_sub hl [2, 3, 1, 0] rfl)
        · have hf := (if_pos c_4_6).symm.trans hf
          refine lv_aload_n C0.1 C0.2.1 dX10_backing_33 rfl (lv_at hl 0 rfl) ?_
          refine r_get (C := RX10) (T := TX10) (N9 := 20) (ci := 11) C0 C1 hI iX10 rfl 0 5 (Nat.le_of_ble_eq_true rfl) (by decide) ((fun _ => rfl) _) rfl rfl w_1696 dX10_backing_34 ?_
          refine lv_bipush (v := 17) C0.1 C0.2.1 dX10_backing_37 (by decide) ?_
          refine lv_iload_n C0.1 C0.2.1 dX10_backing_39 rfl (lv_at hl 3 rfl) ?_
          refine lv_iadd C0.1 C0.2.1 dX10_backing_40 ?_
          obtain ⟨h_4_11, hf⟩ := chk_some hf
          refine r_iald C0 C1 hI 1 (Nat.le_of_ble_eq_true rfl) (fun _ => rfl) h_4_11 dX10_backing_41 ?_
          refine lv_goto (tgt := 46) C0.1 C0.2.1 dX10_backing_42 (by decide) ?_
          refine lv_iadd C0.1 C0.2.1 dX10_backing_46 ?_
          refine lv_topi (fun x2_4_12 e_4_13 => ?_)
          have hf := lt_at e_4_13 hf
          refine lv_istore_n (lv' := [(2, .int x2_4_12), (0, .ref (b 0)), (1, .int x1_4), (3, .int x3_4)]) C0.1 C0.2.1 dX10_backing_47 rfl hl (by decide) rfl (fun ls hl => ?_)
          obtain ⟨x3_4_14, e_4_15⟩ : ∃ z : Int32, z = x3_4 + 1 := ⟨_, rfl⟩
          have hf := lt_at e_4_15 hf
          refine lv_iinc (v := x3_4_14) (lv' := [(3, .int x3_4_14), (2, .int x2_4_12), (0, .ref (b 0)), (1, .int x1_4)]) C0.1 C0.2.1 dX10_backing_48 hl (k := 3) rfl (by rw [e_4_15]; rfl) (by decide) rfl (fun ls hl => ?_)
          refine lv_goto (tgt := 4) C0.1 C0.2.1 dX10_backing_51 (by decide) ?_
          exact ih4 x1_4 x2_4_12 x3_4_14 hf H locs ls hI (lv_sub hl [2, 3, 1, 0] rfl)
  exact L4 n x1 0 0 hf H locs ls hI (lv_sub hl [2, 3, 1, 0] rfl)

def F_X10_entitled_L4 (n : Nat) (M : Mem) : Nat → Int32 → Int32 → Int32 → Option Int32
  | 0, _, _, _ => none
  | k4 + 1, x1_4, x2_4, x3_4 =>
    chk (inb 0 407) ((if (M 1 (ix 0)) ≤ x3_4 then some x2_4 else ob (F_X10_isFor n x1_4 x3_4 M) (fun r_4_4 => (if r_4_4 = 0 then lt' (x2_4 + 0) (fun x2_4_6 => lt' (x3_4 + 1) (fun x3_4_8 => F_X10_entitled_L4 n M k4 x1_4 x2_4_6 x3_4_8)) else chk (inb (17 + x3_4) 407) (lt' (x2_4 + (M 1 (ix (17 + x3_4)))) (fun x2_4_11 => lt' (x3_4 + 1) (fun x3_4_13 => F_X10_entitled_L4 n M k4 x1_4 x2_4_11 x3_4_13)))))))
def F_X10_entitled (n : Nat) (x1 : Int32) (M : Mem) : Option Int32 :=
  F_X10_entitled_L4 n M n x1 0 0
theorem hd_X10_entitled : yX10_entitled.cls ≠ "java/lang/invoke/MethodHandle" ∧ yX10_entitled.cls ≠ "java/lang/invoke/VarHandle" ∧ (parseMethodDescriptor yX10_entitled.desc).map (fun d => d.parameters.length) = some 1 := ⟨by decide +kernel, by decide +kernel, by decide +kernel⟩
set_option maxHeartbeats 4000000 in
set_option maxRecDepth 100000 in
theorem c_X10_entitled (l : Launch) (g : GG) (X : va_W) (b : Nat → Nat) (sz n : Nat) (M : Mem) (x1 : Int32) {r0 : Int32} (hf : F_X10_entitled n x1 M = some r0) : Met l yX10_entitled (.code yX10_entitled cX10_entitled 4 (some .int) :: LWg) (rmD 2 0 0) (va_Pc [.ref (b 0), .int x1] (PreP g X 10 (shM g b) b sz M)) (Qi g X 10 (shM g b) b sz r0 M) 0 0 (AA X b 10 sz) := by
  refine met_go (by decide +kernel) rfl (Nat.le_of_ble_eq_true rfl) ?_
  intro p e s m below meth c ls H locs C0 C1 hr hlocks hnm hsz hl hI
  subst hsz
  have hl : lv_has ls 4 [(0, .ref (b 0)), (1, .int x1)] := hl
  unfold F_X10_entitled at hf
  refine lv_iconst (v := 0) C0.1 C0.2.1 dX10_entitled_0 (by decide) ?_
  refine lv_istore_n (lv' := [(2, .int 0), (0, .ref (b 0)), (1, .int x1)]) C0.1 C0.2.1 dX10_entitled_1 rfl hl (by decide) rfl (fun ls hl => ?_)
  refine lv_iconst (v := 0) C0.1 C0.2.1 dX10_entitled_2 (by decide) ?_
  refine lv_istore_n (lv' := [(3, .int 0), (2, .int 0), (0, .ref (b 0)), (1, .int x1)]) C0.1 C0.2.1 dX10_entitled_3 rfl hl (by decide) rfl (fun ls hl => ?_)
  have L4 : ∀ (k4 : Nat) (x1_4 : Int32) (x2_4 : Int32) (x3_4 : Int32), F_X10_entitled_L4 n M k4 x1_4 x2_4 x3_4 = some r0 → ∀ (H : Heap) (locs : List Loc) (ls : Array Slot), PI g X 10 (shM g b) b s M H locs → lv_has ls 4 [(0, .ref (b 0)), (1, .int x1_4), (2, .int x2_4), (3, .int x3_4)] → W p l e (rmD 2 0 0) s m ([.ref (b 0), .int x1] : List Value).toArray below meth c H locs 0 0 (MQ below (Qi g X 10 (shM g b) b s.heap.size r0 M) ([.ref (b 0), .int x1] : List Value).toArray s 0 0 (AA X b 10 s.heap.size)) (F0 m 4 ls []) := by
    intro k4
    induction k4 with
    | zero => intro x1_4 x2_4 x3_4 hf; exact absurd (show (none : Option Int32) = some r0 from hf) (fun h => by cases h)
    | succ k4 ih4 =>
      intro x1_4 x2_4 x3_4 hf H locs ls hI hl
      unfold F_X10_entitled_L4 at hf
      refine lv_iload_n C0.1 C0.2.1 dX10_entitled_4 rfl (lv_at hl 3 rfl) ?_
      refine lv_aload_n C0.1 C0.2.1 dX10_entitled_5 rfl (lv_at hl 0 rfl) ?_
      refine r_get (C := RX10) (T := TX10) (N9 := 20) (ci := 11) C0 C1 hI iX10 rfl 0 5 (Nat.le_of_ble_eq_true rfl) (by decide) ((fun _ => rfl) _) rfl rfl w_1696 dX10_entitled_6 ?_
      refine lv_iconst (v := 0) C0.1 C0.2.1 dX10_entitled_9 (by decide) ?_
      obtain ⟨h_4_1, hf⟩ := chk_some hf
      refine r_iald C0 C1 hI 1 (Nat.le_of_ble_eq_true rfl) (fun _ => rfl) h_4_1 dX10_entitled_10 ?_
      refine lv_icmp_ge (tgt := 45) C0.1 C0.2.1 dX10_entitled_11 (by decide) (fun c_4_2 => ?_) (fun c_4_2 => ?_)
      · have hf := (if_pos c_4_2).symm.trans hf
        refine lv_iload_n C0.1 C0.2.1 dX10_entitled_45 rfl (lv_at hl 2 rfl) ?_
        exact ee_i C0 hI hr hlocks hf dX10_entitled_46
      · have hf := (if_neg c_4_2).symm.trans hf
        refine lv_iload_n C0.1 C0.2.1 dX10_entitled_14 rfl (lv_at hl 2 rfl) ?_
        refine lv_aload_n C0.1 C0.2.1 dX10_entitled_15 rfl (lv_at hl 0 rfl) ?_
        refine lv_iload_n C0.1 C0.2.1 dX10_entitled_16 rfl (lv_at hl 1 rfl) ?_
        refine lv_iload_n C0.1 C0.2.1 dX10_entitled_17 rfl (lv_at hl 3 rfl) ?_
        obtain ⟨r_4_4, h_4_3, hf⟩ := ob_some hf
        refine k_i C1 hI (q_V C0 C1 hI 0 (c_X10_isFor l g X b H.size n M x1_4 x3_4 h_4_3) w_1897 w_1899 w_87 w_132 w_1900 ⟨rfl, rfl⟩ hd_X10_isFor ⟨Nat.le_of_ble_eq_true rfl, Nat.le_of_ble_eq_true rfl⟩ (Nat.le_of_ble_eq_true rfl) ((fun _ => rfl) _) rfl rfl rfl hl.1 rfl (Nat.le_of_ble_eq_true rfl) dX10_entitled_18 ⟨Nat.le_of_ble_eq_true rfl, Nat.le_of_ble_eq_true rfl⟩) (fun H locs hI => ?_)
        refine lv_if_eq (tgt := 36) C0.1 C0.2.1 dX10_entitled_21 (by decide) (fun c_4_5 => ?_) (fun c_4_5 => ?_)
        · have hf := (if_pos c_4_5).symm.trans hf
          refine lv_iconst (v := 0) C0.1 C0.2.1 dX10_entitled_36 (by decide) ?_
          refine lv_iadd C0.1 C0.2.1 dX10_entitled_37 ?_
          refine lv_topi (fun x2_4_6 e_4_7 => ?_)
          have hf := lt_at e_4_7 hf
          refine lv_istore_n (lv' := [(2, .int x2_4_6), (0, .ref (b 0)), (1, .int x1_4), (3, .int x3_4)]) C0.1 C0.2.1 dX10_entitled_38 rfl hl (by decide) rfl (fun ls hl => ?_)
          obtain ⟨x3_4_8, e_4_9⟩ : ∃ z : Int32, z = x3_4 + 1 := ⟨_, rfl⟩
          have hf := lt_at e_4_9 hf
          refine lv_iinc (v := x3_4_8) (lv' := [(3, .int x3_4_8), (2, .int x2_4_6), (0, .ref (b 0)), (1, .int x1_4)]) C0.1 C0.2.1 dX10_entitled_39 hl (k := 3) rfl (by rw [e_4_9]; rfl) (by decide) rfl (fun ls hl => ?_)
          refine lv_goto (tgt := 4) C0.1 C0.2.1 dX10_entitled_42 (by decide) ?_
          exact ih4 x1_4 x2_4_6 x3_4_8 hf H locs ls hI (lv_sub hl [2, 3, 1, 0] rfl)
        · have hf := (if_neg c_4_5).symm.trans hf
          refine lv_aload_n C0.1 C0.2.1 dX10_entitled_24 rfl (lv_at hl 0 rfl) ?_
          refine r_get (C := RX10) (T := TX10) (N9 := 20) (ci := 11) C0 C1 hI iX10 rfl 0 5 (Nat.le_of_ble_eq_true rfl) (by decide) ((fun _ => rfl) _) rfl rfl w_1696 dX10_entitled_25 ?_
          refine lv_bipush (v := 17) C0.1 C0.2.1 dX10_entitled_28 (by decide) ?_
          refine lv_iload_n C0.1 C0.2.1 dX10_entitled_30 rfl (lv_at hl 3 rfl) ?_
          refine lv_iadd C0.1 C0.2.1 dX10_entitled_31 ?_
          obtain ⟨h_4_10, hf⟩ := chk_some hf
          refine r_iald C0 C1 hI 1 (Nat.le_of_ble_eq_true rfl) (fun _ => rfl) h_4_10 dX10_entitled_32 ?_
          refine lv_goto (tgt := 37) C0.1 C0.2.1 dX10_entitled_33 (by decide) ?_
          refine lv_iadd C0.1 C0.2.1 dX10_entitled_37 ?_
          refine lv_topi (fun x2_4_11 e_4_12 => ?_)
          have hf := lt_at e_4_12 hf
          refine lv_istore_n (lv' := [(2, .int x2_4_11), (0, .ref (b 0)), (1, .int x1_4), (3, .int x3_4)]) C0.1 C0.2.1 dX10_entitled_38 rfl hl (by decide) rfl (fun ls hl => ?_)
          obtain ⟨x3_4_13, e_4_14⟩ : ∃ z : Int32, z = x3_4 + 1 := ⟨_, rfl⟩
          have hf := lt_at e_4_14 hf
          refine lv_iinc (v := x3_4_13) (lv' := [(3, .int x3_4_13), (2, .int x2_4_11), (0, .ref (b 0)), (1, .int x1_4)]) C0.1 C0.2.1 dX10_entitled_39 hl (k := 3) rfl (by rw [e_4_14]; rfl) (by decide) rfl (fun ls hl => ?_)
          refine lv_goto (tgt := 4) C0.1 C0.2.1 dX10_entitled_42 (by decide) ?_
          exact ih4 x1_4 x2_4_11 x3_4_13 hf H locs ls hI (lv_sub hl [2, 3, 1, 0] rfl)
  exact L4 n x1 0 0 hf H locs ls hI (lv_sub hl [2, 3, 1, 0] rfl)

def F_X10_backs (n : Nat) (x1 : Int32) (x2 : Int32) (M : Mem) : Option (Int32 × Mem) :=
  ob (F_X10_areThere n x1 x2 M) (fun r_2 => (if r_2 = 0 then ob2 (F_X10_fail n 1 M) (fun r_54 M_55 => some (r_54, M_55)) else ob (F_X10_isFor n x1 x2 M) (fun r_5 => (if r_5 = 0 then ob2 (F_X10_fail n 2 M) (fun r_51 M_52 => some (r_51, M_52)) else ob (F_X10_isShut n x1 M) (fun r_8 => (if r_8 = 0 then ob (F_X10_isOn n x2 M) (fun r_11 => (if r_11 = 0 then ob2 (F_X10_fail n 4 M) (fun r_45 M_46 => some (r_45, M_46)) else ob (F_X10_of n x1 4 M) (fun r_14 => chk (inb r_14 407) (chk (inb r_14 407) (lt' (up2 M 1 (ix r_14) ((M 1 (ix r_14)) ||| (1 <<< (x2 &&& 31)))) (fun M_19 => ob (F_X10_of n x1 1 M_19) (fun r_22 => ob (F_X10_backing n x1 M_19) (fun r_24 => ob (F_X10_entitled n x1 M_19) (fun r_26 => (if (2 * r_24) ≤ r_26 then chk (inb r_22 407) (lt' (up2 M_19 1 (ix r_22) 0) (fun M_31 => ob (F_X10_of n x1 1 M_31) (fun r_34 => chk (inb r_34 407) (some (M_31 1 (ix r_34), M_31))))) else chk (inb r_22 407) (lt' (up2 M_19 1 (ix r_22) 1) (fun M_39 => ob (F_X10_of n x1 1 M_39) (fun r_42 => chk (inb r_42 407) (some (M_39 1 (ix r_42), M_39))))))))))))))) else ob2 (F_X10_fail n 3 M) (fun r_48 M_49 => some (r_48, M_49))))))))
theorem hd_X10_backs : yX10_backs.cls ≠ "java/lang/invoke/MethodHandle" ∧ yX10_backs.cls ≠ "java/lang/invoke/VarHandle" ∧ (parseMethodDescriptor yX10_backs.desc).map (fun d => d.parameters.length) = some 2 := ⟨by decide +kernel, by decide +kernel, by decide +kernel⟩
set_option maxHeartbeats 4000000 in
set_option maxRecDepth 100000 in
theorem c_X10_backs (l : Launch) (g : GG) (X : va_W) (b : Nat → Nat) (sz n : Nat) (M : Mem) (x1 : Int32) (x2 : Int32) {r0 : Int32} {M' : Mem} (hf : F_X10_backs n x1 x2 M = some (r0, M')) : Met l yX10_backs (.code yX10_backs cX10_backs 3 (some .int) :: LWg) (rmD 3 0 0) (va_Pc [.ref (b 0), .int x1, .int x2] (PreP g X 10 (shM g b) b sz M)) (Qi g X 10 (shM g b) b sz r0 M') 0 0 (AA X b 10 sz) := by
  refine met_go (by decide +kernel) rfl (Nat.le_of_ble_eq_true rfl) ?_
  intro p e s m below meth c ls H locs C0 C1 hr hlocks hnm hsz hl hI
  subst hsz
  have hl : lv_has ls 3 [(0, .ref (b 0)), (1, .int x1), (2, .int x2)] := hl
  unfold F_X10_backs at hf
  refine lv_aload_n C0.1 C0.2.1 dX10_backs_0 rfl (lv_at hl 0 rfl) ?_
  refine lv_iload_n C0.1 C0.2.1 dX10_backs_1 rfl (lv_at hl 1 rfl) ?_
  refine lv_iload_n C0.1 C0.2.1 dX10_backs_2 rfl (lv_at hl 2 rfl) ?_
  obtain ⟨r_2, h_1, hf⟩ := ob_some hf
  refine k_i C1 hI (q_V C0 C1 hI 0 (c_X10_areThere l g X b H.size n M x1 x2 h_1) w_1889 w_1891 w_85 w_132 w_1892 ⟨rfl, rfl⟩ hd_X10_areThere ⟨Nat.le_of_ble_eq_true rfl, Nat.le_of_ble_eq_true rfl⟩ (Nat.le_of_ble_eq_true rfl) ((fun _ => rfl) _) rfl rfl rfl hl.1 rfl (Nat.le_of_ble_eq_true rfl) dX10_backs_3 ⟨Nat.le_of_ble_eq_true rfl, Nat.le_of_ble_eq_true rfl⟩) (fun H locs hI => ?_)
  refine lv_if_ne (tgt := 15) C0.1 C0.2.1 dX10_backs_6 (by decide) (fun c_3 => ?_) (fun c_3 => ?_)
  · have hf := (if_neg c_3).symm.trans hf
    refine lv_aload_n C0.1 C0.2.1 dX10_backs_15 rfl (lv_at hl 0 rfl) ?_
    refine lv_iload_n C0.1 C0.2.1 dX10_backs_16 rfl (lv_at hl 1 rfl) ?_
    refine lv_iload_n C0.1 C0.2.1 dX10_backs_17 rfl (lv_at hl 2 rfl) ?_
    obtain ⟨r_5, h_4, hf⟩ := ob_some hf
    refine k_i C1 hI (q_V C0 C1 hI 0 (c_X10_isFor l g X b H.size n M x1 x2 h_4) w_1897 w_1899 w_87 w_132 w_1900 ⟨rfl, rfl⟩ hd_X10_isFor ⟨Nat.le_of_ble_eq_true rfl, Nat.le_of_ble_eq_true rfl⟩ (Nat.le_of_ble_eq_true rfl) ((fun _ => rfl) _) rfl rfl rfl hl.1 rfl (Nat.le_of_ble_eq_true rfl) dX10_backs_18 ⟨Nat.le_of_ble_eq_true rfl, Nat.le_of_ble_eq_true rfl⟩) (fun H locs hI => ?_)
    refine lv_if_ne (tgt := 30) C0.1 C0.2.1 dX10_backs_21 (by decide) (fun c_6 => ?_) (fun c_6 => ?_)
    · have hf := (if_neg c_6).symm.trans hf
      refine lv_aload_n C0.1 C0.2.1 dX10_backs_30 rfl (lv_at hl 0 rfl) ?_
      refine lv_iload_n C0.1 C0.2.1 dX10_backs_31 rfl (lv_at hl 1 rfl) ?_
      obtain ⟨r_8, h_7, hf⟩ := ob_some hf
      refine k_i C1 hI (q_V C0 C1 hI 0 (c_X10_isShut l g X b H.size n M x1 h_7) w_1909 w_1911 w_89 w_132 w_1912 ⟨rfl, rfl⟩ hd_X10_isShut ⟨Nat.le_of_ble_eq_true rfl, Nat.le_of_ble_eq_true rfl⟩ (Nat.le_of_ble_eq_true rfl) ((fun _ => rfl) _) rfl rfl rfl hl.1 rfl (Nat.le_of_ble_eq_true rfl) dX10_backs_32 ⟨Nat.le_of_ble_eq_true rfl, Nat.le_of_ble_eq_true rfl⟩) (fun H locs hI => ?_)
      refine lv_if_eq (tgt := 44) C0.1 C0.2.1 dX10_backs_35 (by decide) (fun c_9 => ?_) (fun c_9 => ?_)
      · have hf := (if_pos c_9).symm.trans hf
        refine lv_aload_n C0.1 C0.2.1 dX10_backs_44 rfl (lv_at hl 0 rfl) ?_
        refine lv_iload_n C0.1 C0.2.1 dX10_backs_45 rfl (lv_at hl 2 rfl) ?_
        obtain ⟨r_11, h_10, hf⟩ := ob_some hf
        refine k_i C1 hI (q_V C0 C1 hI 0 (c_X10_isOn l g X b H.size n M x2 h_10) w_1818 w_1820 w_80 w_132 w_1821 ⟨rfl, rfl⟩ hd_X10_isOn ⟨Nat.le_of_ble_eq_true rfl, Nat.le_of_ble_eq_true rfl⟩ (Nat.le_of_ble_eq_true rfl) ((fun _ => rfl) _) rfl rfl rfl hl.1 rfl (Nat.le_of_ble_eq_true rfl) dX10_backs_46 ⟨Nat.le_of_ble_eq_true rfl, Nat.le_of_ble_eq_true rfl⟩) (fun H locs hI => ?_)
        refine lv_if_ne (tgt := 58) C0.1 C0.2.1 dX10_backs_49 (by decide) (fun c_12 => ?_) (fun c_12 => ?_)
        · have hf := (if_neg c_12).symm.trans hf
          refine lv_aload_n C0.1 C0.2.1 dX10_backs_58 rfl (lv_at hl 0 rfl) ?_
          refine r_get (C := RX10) (T := TX10) (N9 := 20) (ci := 11) C0 C1 hI iX10 rfl 0 5 (Nat.le_of_ble_eq_true rfl) (by decide) ((fun _ => rfl) _) rfl rfl w_1696 dX10_backs_59 ?_
          refine lv_iload_n C0.1 C0.2.1 dX10_backs_62 rfl (lv_at hl 1 rfl) ?_
          refine lv_iconst (v := 4) C0.1 C0.2.1 dX10_backs_63 (by decide) ?_
          obtain ⟨r_14, h_13, hf⟩ := ob_some hf
          refine k_i C1 hI (q_S C0 C1 hI (c_X10_of l g X b H.size n M x1 4 h_13) w_1878 w_1879 w_132 w_1880 ⟨rfl, rfl⟩ hd_X10_of ⟨Nat.le_of_ble_eq_true rfl, Nat.le_of_ble_eq_true rfl⟩ rfl hl.1 rfl (Nat.le_of_ble_eq_true rfl) dX10_backs_64 ⟨Nat.le_of_ble_eq_true rfl, Nat.le_of_ble_eq_true rfl⟩) (fun H locs hI => ?_)
          refine lv_dup2_11 C0.1 C0.2.1 dX10_backs_67 rfl rfl ?_
          obtain ⟨h_15, hf⟩ := chk_some hf
          refine r_iald C0 C1 hI 1 (Nat.le_of_ble_eq_true rfl) (fun _ => rfl) h_15 dX10_backs_68 ?_
          refine lv_iconst (v := 1) C0.1 C0.2.1 dX10_backs_69 (by decide) ?_
          refine lv_iload_n C0.1 C0.2.1 dX10_backs_70 rfl (lv_at hl 2 rfl) ?_
          refine lv_ishl C0.1 C0.2.1 dX10_backs_71 ?_
          refine lv_ior C0.1 C0.2.1 dX10_backs_72 ?_
          obtain ⟨h_16, hf⟩ := chk_some hf
          refine r_iast C0 C1 hI 1 (Nat.le_of_ble_eq_true rfl) (fun _ => rfl) h_16 dX10_backs_73 (fun H locs hI => ?_)
          obtain ⟨M_19, e_20⟩ : ∃ z : Mem, z = up2 M 1 (ix r_14) ((M 1 (ix r_14)) ||| (1 <<< (x2 &&& 31))) := ⟨_, rfl⟩
          rw [← e_20] at hI
          have hf := lt_at e_20 hf
          refine lv_aload_n C0.1 C0.2.1 dX10_backs_74 rfl (lv_at hl 0 rfl) ?_
          refine r_get (C := RX10) (T := TX10) (N9 := 20) (ci := 11) C0 C1 hI iX10 rfl 0 5 (Nat.le_of_ble_eq_true rfl) (by decide) ((fun _ => rfl) _) rfl rfl w_1696 dX10_backs_75 ?_
          refine lv_iload_n C0.1 C0.2.1 dX10_backs_78 rfl (lv_at hl 1 rfl) ?_
          refine lv_iconst (v := 1) C0.1 C0.2.1 dX10_backs_79 (by decide) ?_
          obtain ⟨r_22, h_21, hf⟩ := ob_some hf
          refine k_i C1 hI (q_S C0 C1 hI (c_X10_of l g X b H.size n M_19 x1 1 h_21) w_1878 w_1879 w_132 w_1880 ⟨rfl, rfl⟩ hd_X10_of ⟨Nat.le_of_ble_eq_true rfl, Nat.le_of_ble_eq_true rfl⟩ rfl hl.1 rfl (Nat.le_of_ble_eq_true rfl) dX10_backs_80 ⟨Nat.le_of_ble_eq_true rfl, Nat.le_of_ble_eq_true rfl⟩) (fun H locs hI => ?_)
          refine lv_iconst (v := 2) C0.1 C0.2.1 dX10_backs_83 (by decide) ?_
          refine lv_aload_n C0.1 C0.2.1 dX10_backs_84 rfl (lv_at hl 0 rfl) ?_
          refine lv_iload_n C0.1 C0.2.1 dX10_backs_85 rfl (lv_at hl 1 rfl) ?_
          obtain ⟨r_24, h_23, hf⟩ := ob_some hf
          refine k_i C1 hI (q_V C0 C1 hI 0 (c_X10_backing l g X b H.size n M_19 x1 h_23) w_1989 w_1991 w_98 w_132 w_1992 ⟨rfl, rfl⟩ hd_X10_backing ⟨Nat.le_of_ble_eq_true rfl, Nat.le_of_ble_eq_true rfl⟩ (Nat.le_of_ble_eq_true rfl) ((fun _ => rfl) _) rfl rfl rfl hl.1 rfl (Nat.le_of_ble_eq_true rfl) dX10_backs_86 ⟨Nat.le_of_ble_eq_true rfl, Nat.le_of_ble_eq_true rfl⟩) (fun H locs hI => ?_)
          refine lv_imul C0.1 C0.2.1 dX10_backs_89 ?_
          refine lv_aload_n C0.1 C0.2.1 dX10_backs_90 rfl (lv_at hl 0 rfl) ?_
          refine lv_iload_n C0.1 C0.2.1 dX10_backs_91 rfl (lv_at hl 1 rfl) ?_
          obtain ⟨r_26, h_25, hf⟩ := ob_some hf
          refine k_i C1 hI (q_V C0 C1 hI 0 (c_X10_entitled l g X b H.size n M_19 x1 h_25) w_1993 w_1995 w_99 w_132 w_1996 ⟨rfl, rfl⟩ hd_X10_entitled ⟨Nat.le_of_ble_eq_true rfl, Nat.le_of_ble_eq_true rfl⟩ (Nat.le_of_ble_eq_true rfl) ((fun _ => rfl) _) rfl rfl rfl hl.1 rfl (Nat.le_of_ble_eq_true rfl) dX10_backs_92 ⟨Nat.le_of_ble_eq_true rfl, Nat.le_of_ble_eq_true rfl⟩) (fun H locs hI => ?_)
          refine lv_icmp_le (tgt := 102) C0.1 C0.2.1 dX10_backs_95 (by decide) (fun c_27 => ?_) (fun c_27 => ?_)
          · have hf := (if_pos c_27).symm.trans hf
            refine lv_iconst (v := 0) C0.1 C0.2.1 dX10_backs_102 (by decide) ?_
            obtain ⟨h_28, hf⟩ := chk_some hf
            refine r_iast C0 C1 hI 1 (Nat.le_of_ble_eq_true rfl) (fun _ => rfl) h_28 dX10_backs_103 (fun H locs hI => ?_)
            obtain ⟨M_31, e_32⟩ : ∃ z : Mem, z = up2 M_19 1 (ix r_22) 0 := ⟨_, rfl⟩
            rw [← e_32] at hI
            have hf := lt_at e_32 hf
            refine lv_aload_n C0.1 C0.2.1 dX10_backs_104 rfl (lv_at hl 0 rfl) ?_
            refine r_get (C := RX10) (T := TX10) (N9 := 20) (ci := 11) C0 C1 hI iX10 rfl 0 5 (Nat.le_of_ble_eq_true rfl) (by decide) ((fun _ => rfl) _) rfl rfl w_1696 dX10_backs_105 ?_
            refine lv_iload_n C0.1 C0.2.1 dX10_backs_108 rfl (lv_at hl 1 rfl) ?_
            refine lv_iconst (v := 1) C0.1 C0.2.1 dX10_backs_109 (by decide) ?_
            obtain ⟨r_34, h_33, hf⟩ := ob_some hf
            refine k_i C1 hI (q_S C0 C1 hI (c_X10_of l g X b H.size n M_31 x1 1 h_33) w_1878 w_1879 w_132 w_1880 ⟨rfl, rfl⟩ hd_X10_of ⟨Nat.le_of_ble_eq_true rfl, Nat.le_of_ble_eq_true rfl⟩ rfl hl.1 rfl (Nat.le_of_ble_eq_true rfl) dX10_backs_110 ⟨Nat.le_of_ble_eq_true rfl, Nat.le_of_ble_eq_true rfl⟩) (fun H locs hI => ?_)
            obtain ⟨h_35, hf⟩ := chk_some hf
            refine r_iald C0 C1 hI 1 (Nat.le_of_ble_eq_true rfl) (fun _ => rfl) h_35 dX10_backs_113 ?_
            exact ee_im C0 hI hr hlocks hf dX10_backs_114
          · have hf := (if_neg c_27).symm.trans hf
            refine lv_iconst (v := 1) C0.1 C0.2.1 dX10_backs_98 (by decide) ?_
            refine lv_goto (tgt := 103) C0.1 C0.2.1 dX10_backs_99 (by decide) ?_
            obtain ⟨h_36, hf⟩ := chk_some hf
            refine r_iast C0 C1 hI 1 (Nat.le_of_ble_eq_true rfl) (fun _ => rfl) h_36 dX10_backs_103 (fun H locs hI => ?_)
            obtain ⟨M_39, e_40⟩ : ∃ z : Mem, z = up2 M_19 1 (ix r_22) 1 := ⟨_, rfl⟩
            rw [← e_40] at hI
            have hf := lt_at e_40 hf
            refine lv_aload_n C0.1 C0.2.1 dX10_backs_104 rfl (lv_at hl 0 rfl) ?_
            refine r_get (C := RX10) (T := TX10) (N9 := 20) (ci := 11) C0 C1 hI iX10 rfl 0 5 (Nat.le_of_ble_eq_true rfl) (by decide) ((fun _ => rfl) _) rfl rfl w_1696 dX10_backs_105 ?_
            refine lv_iload_n C0.1 C0.2.1 dX10_backs_108 rfl (lv_at hl 1 rfl) ?_
            refine lv_iconst (v := 1) C0.1 C0.2.1 dX10_backs_109 (by decide) ?_
            obtain ⟨r_42, h_41, hf⟩ := ob_some hf
            refine k_i C1 hI (q_S C0 C1 hI (c_X10_of l g X b H.size n M_39 x1 1 h_41) w_1878 w_1879 w_132 w_1880 ⟨rfl, rfl⟩ hd_X10_of ⟨Nat.le_of_ble_eq_true rfl, Nat.le_of_ble_eq_true rfl⟩ rfl hl.1 rfl (Nat.le_of_ble_eq_true rfl) dX10_backs_110 ⟨Nat.le_of_ble_eq_true rfl, Nat.le_of_ble_eq_true rfl⟩) (fun H locs hI => ?_)
            obtain ⟨h_43, hf⟩ := chk_some hf
            refine r_iald C0 C1 hI 1 (Nat.le_of_ble_eq_true rfl) (fun _ => rfl) h_43 dX10_backs_113 ?_
            exact ee_im C0 hI hr hlocks hf dX10_backs_114
        · have hf := (if_pos c_12).symm.trans hf
          refine lv_aload_n C0.1 C0.2.1 dX10_backs_52 rfl (lv_at hl 0 rfl) ?_
          refine lv_iconst (v := 4) C0.1 C0.2.1 dX10_backs_53 (by decide) ?_
          obtain ⟨r_45, M_46, h_44, hf⟩ := ob2_some hf
          refine k_i C1 hI (q_V C0 C1 hI 0 (c_X10_fail l g X b H.size n M 4 h_44) w_1774 w_1776 w_72 w_132 w_1777 ⟨rfl, rfl⟩ hd_X10_fail ⟨Nat.le_of_ble_eq_true rfl, Nat.le_of_ble_eq_true rfl⟩ (Nat.le_of_ble_eq_true rfl) ((fun _ => rfl) _) rfl rfl rfl hl.1 rfl (Nat.le_of_ble_eq_true rfl) dX10_backs_54 ⟨Nat.le_of_ble_eq_true rfl, Nat.le_of_ble_eq_true rfl⟩) (fun H locs hI => ?_)
          exact ee_im C0 hI hr hlocks hf dX10_backs_57
      · have hf := (if_neg c_9).symm.trans hf
        refine lv_aload_n C0.1 C0.2.1 dX10_backs_38 rfl (lv_at hl 0 rfl) ?_
        refine lv_iconst (v := 3) C0.1 C0.2.1 dX10_backs_39 (by decide) ?_
        obtain ⟨r_48, M_49, h_47, hf⟩ := ob2_some hf
        refine k_i C1 hI (q_V C0 C1 hI 0 (c_X10_fail l g X b H.size n M 3 h_47) w_1774 w_1776 w_72 w_132 w_1777 ⟨rfl, rfl⟩ hd_X10_fail ⟨Nat.le_of_ble_eq_true rfl, Nat.le_of_ble_eq_true rfl⟩ (Nat.le_of_ble_eq_true rfl) ((fun _ => rfl) _) rfl rfl rfl hl.1 rfl (Nat.le_of_ble_eq_true rfl) dX10_backs_40 ⟨Nat.le_of_ble_eq_true rfl, Nat.le_of_ble_eq_true rfl⟩) (fun H locs hI => ?_)
        exact ee_im C0 hI hr hlocks hf dX10_backs_43
    · have hf := (if_pos c_6).symm.trans hf
      refine lv_aload_n C0.1 C0.2.1 dX10_backs_24 rfl (lv_at hl 0 rfl) ?_
      refine lv_iconst (v := 2) C0.1 C0.2.1 dX10_backs_25 (by decide) ?_
      obtain ⟨r_51, M_52, h_50, hf⟩ := ob2_some hf
      refine k_i C1 hI (q_V C0 C1 hI 0 (c_X10_fail l g X b H.size n M 2 h_50) w_1774 w_1776 w_72 w_132 w_1777 ⟨rfl, rfl⟩ hd_X10_fail ⟨Nat.le_of_ble_eq_true rfl, Nat.le_of_ble_eq_true rfl⟩ (Nat.le_of_ble_eq_true rfl) ((fun _ => rfl) _) rfl rfl rfl hl.1 rfl (Nat.le_of_ble_eq_true rfl) dX10_backs_26 ⟨Nat.le_of_ble_eq_true rfl, Nat.le_of_ble_eq_true rfl⟩) (fun H locs hI => ?_)
      exact ee_im C0 hI hr hlocks hf dX10_backs_29
  · have hf := (if_pos c_3).symm.trans hf
    refine lv_aload_n C0.1 C0.2.1 dX10_backs_9 rfl (lv_at hl 0 rfl) ?_
    refine lv_iconst (v := 1) C0.1 C0.2.1 dX10_backs_10 (by decide) ?_
    obtain ⟨r_54, M_55, h_53, hf⟩ := ob2_some hf
    refine k_i C1 hI (q_V C0 C1 hI 0 (c_X10_fail l g X b H.size n M 1 h_53) w_1774 w_1776 w_72 w_132 w_1777 ⟨rfl, rfl⟩ hd_X10_fail ⟨Nat.le_of_ble_eq_true rfl, Nat.le_of_ble_eq_true rfl⟩ (Nat.le_of_ble_eq_true rfl) ((fun _ => rfl) _) rfl rfl rfl hl.1 rfl (Nat.le_of_ble_eq_true rfl) dX10_backs_11 ⟨Nat.le_of_ble_eq_true rfl, Nat.le_of_ble_eq_true rfl⟩) (fun H locs hI => ?_)
    exact ee_im C0 hI hr hlocks hf dX10_backs_14

def F_X10_supportClosure (n : Nat) (x1 : Int32) (x2 : Int32) (M : Mem) : Option (Int32 × Mem) :=
  ob (F_X10_begins n M) (fun M_2 => ob2 (F_X10_backs n x1 x2 M_2) (fun r_4 M_5 => ob2 (F_X10_ends n r_4 M_5) (fun r_7 M_8 => (if r_7 = 1 then some (1, M_8) else some (0, M_8)))))
theorem hd_X10_supportClosure : yX10_supportClosure.cls ≠ "java/lang/invoke/MethodHandle" ∧ yX10_supportClosure.cls ≠ "java/lang/invoke/VarHandle" ∧ (parseMethodDescriptor yX10_supportClosure.desc).map (fun d => d.parameters.length) = some 2 := ⟨by decide +kernel, by decide +kernel, by decide +kernel⟩
set_option maxHeartbeats 4000000 in
set_option maxRecDepth 100000 in
theorem c_X10_supportClosure (l : Launch) (g : GG) (X : va_W) (b : Nat → Nat) (sz n : Nat) (M : Mem) (x1 : Int32) (x2 : Int32) {r0 : Int32} {M' : Mem} (hf : F_X10_supportClosure n x1 x2 M = some (r0, M')) : Met l yX10_supportClosure (.code yX10_supportClosure cX10_supportClosure 3 (some .boolean) :: LWg) (rmD 4 0 0) (va_Pc [.ref (b 0), .int x1, .int x2] (PreP g X 10 (shM g b) b sz M)) (Qi g X 10 (shM g b) b sz r0 M') 0 0 (AA X b 10 sz) := by
  refine met_go (by decide +kernel) rfl (Nat.le_of_ble_eq_true rfl) ?_
  intro p e s m below meth c ls H locs C0 C1 hr hlocks hnm hsz hl hI
  subst hsz
  have hl : lv_has ls 3 [(0, .ref (b 0)), (1, .int x1), (2, .int x2)] := hl
  unfold F_X10_supportClosure at hf
  refine lv_aload_n C0.1 C0.2.1 dX10_supportClosure_0 rfl (lv_at hl 0 rfl) ?_
  obtain ⟨M_2, h_1, hf⟩ := ob_some hf
  refine k_v C1 hI (q_V C0 C1 hI 0 (c_X10_begins l g X b H.size n M h_1) w_1760 w_1762 w_70 w_132 w_1763 ⟨rfl, rfl⟩ hd_X10_begins ⟨Nat.le_of_ble_eq_true rfl, Nat.le_of_ble_eq_true rfl⟩ (Nat.le_of_ble_eq_true rfl) ((fun _ => rfl) _) rfl rfl rfl hl.1 rfl (Nat.le_of_ble_eq_true rfl) dX10_supportClosure_1 ⟨Nat.le_of_ble_eq_true rfl, Nat.le_of_ble_eq_true rfl⟩) (fun H locs hI => ?_)
  refine lv_aload_n C0.1 C0.2.1 dX10_supportClosure_4 rfl (lv_at hl 0 rfl) ?_
  refine lv_aload_n C0.1 C0.2.1 dX10_supportClosure_5 rfl (lv_at hl 0 rfl) ?_
  refine lv_iload_n C0.1 C0.2.1 dX10_supportClosure_6 rfl (lv_at hl 1 rfl) ?_
  refine lv_iload_n C0.1 C0.2.1 dX10_supportClosure_7 rfl (lv_at hl 2 rfl) ?_
  obtain ⟨r_4, M_5, h_3, hf⟩ := ob2_some hf
  refine k_i C1 hI (q_V C0 C1 hI 0 (c_X10_backs l g X b H.size n M_2 x1 x2 h_3) w_1985 w_1987 w_97 w_132 w_1988 ⟨rfl, rfl⟩ hd_X10_backs ⟨Nat.le_of_ble_eq_true rfl, Nat.le_of_ble_eq_true rfl⟩ (Nat.le_of_ble_eq_true rfl) ((fun _ => rfl) _) rfl rfl rfl hl.1 rfl (Nat.le_of_ble_eq_true rfl) dX10_supportClosure_8 ⟨Nat.le_of_ble_eq_true rfl, Nat.le_of_ble_eq_true rfl⟩) (fun H locs hI => ?_)
  obtain ⟨r_7, M_8, h_6, hf⟩ := ob2_some hf
  refine k_i C1 hI (q_V C0 C1 hI 0 (c_X10_ends l g X b H.size n M_5 r_4 h_6) w_1778 w_1780 w_73 w_132 w_1781 ⟨rfl, rfl⟩ hd_X10_ends ⟨Nat.le_of_ble_eq_true rfl, Nat.le_of_ble_eq_true rfl⟩ (Nat.le_of_ble_eq_true rfl) ((fun _ => rfl) _) rfl rfl rfl hl.1 rfl (Nat.le_of_ble_eq_true rfl) dX10_supportClosure_11 ⟨Nat.le_of_ble_eq_true rfl, Nat.le_of_ble_eq_true rfl⟩) (fun H locs hI => ?_)
  refine lv_iconst (v := 1) C0.1 C0.2.1 dX10_supportClosure_14 (by decide) ?_
  refine lv_icmp_ne (tgt := 22) C0.1 C0.2.1 dX10_supportClosure_15 (by decide) (fun c_9 => ?_) (fun c_9 => ?_)
  · have hf := (if_neg c_9).symm.trans hf
    refine lv_iconst (v := 0) C0.1 C0.2.1 dX10_supportClosure_22 (by decide) ?_
    exact ee_zm C0 hI hr hlocks rfl hf dX10_supportClosure_23
  · have hf := (if_pos c_9).symm.trans hf
    refine lv_iconst (v := 1) C0.1 C0.2.1 dX10_supportClosure_18 (by decide) ?_
    refine lv_goto (tgt := 23) C0.1 C0.2.1 dX10_supportClosure_19 (by decide) ?_
    exact ee_zm C0 hI hr hlocks rfl hf dX10_supportClosure_23

def F_X10_isListClosed (n : Nat) (x1 : Int32) (M : Mem) : Option (Int32 × Mem) :=
  ob2 (F_X10_tellsMotion n x1 1 M) (fun r_2 M_3 => (if r_2 = 1 then some (1, M_3) else some (0, M_3)))
theorem hd_X10_isListClosed : yX10_isListClosed.cls ≠ "java/lang/invoke/MethodHandle" ∧ yX10_isListClosed.cls ≠ "java/lang/invoke/VarHandle" ∧ (parseMethodDescriptor yX10_isListClosed.desc).map (fun d => d.parameters.length) = some 1 := ⟨by decide +kernel, by decide +kernel, by decide +kernel⟩
set_option maxHeartbeats 4000000 in
set_option maxRecDepth 100000 in
theorem c_X10_isListClosed (l : Launch) (g : GG) (X : va_W) (b : Nat → Nat) (sz n : Nat) (M : Mem) (x1 : Int32) {r0 : Int32} {M' : Mem} (hf : F_X10_isListClosed n x1 M = some (r0, M')) : Met l yX10_isListClosed (.code yX10_isListClosed cX10_isListClosed 2 (some .boolean) :: LWg) (rmD 3 0 0) (va_Pc [.ref (b 0), .int x1] (PreP g X 10 (shM g b) b sz M)) (Qi g X 10 (shM g b) b sz r0 M') 0 0 (AA X b 10 sz) := by
  refine met_go (by decide +kernel) rfl (Nat.le_of_ble_eq_true rfl) ?_
  intro p e s m below meth c ls H locs C0 C1 hr hlocks hnm hsz hl hI
  subst hsz
  have hl : lv_has ls 2 [(0, .ref (b 0)), (1, .int x1)] := hl
  unfold F_X10_isListClosed at hf
  refine lv_aload_n C0.1 C0.2.1 dX10_isListClosed_0 rfl (lv_at hl 0 rfl) ?_
  refine lv_iload_n C0.1 C0.2.1 dX10_isListClosed_1 rfl (lv_at hl 1 rfl) ?_
  refine lv_iconst (v := 1) C0.1 C0.2.1 dX10_isListClosed_2 (by decide) ?_
  obtain ⟨r_2, M_3, h_1, hf⟩ := ob2_some hf
  refine k_i C1 hI (q_V C0 C1 hI 0 (c_X10_tellsMotion l g X b H.size n M x1 1 h_1) w_1952 w_1954 w_96 w_132 w_1955 ⟨rfl, rfl⟩ hd_X10_tellsMotion ⟨Nat.le_of_ble_eq_true rfl, Nat.le_of_ble_eq_true rfl⟩ (Nat.le_of_ble_eq_true rfl) ((fun _ => rfl) _) rfl rfl rfl hl.1 rfl (Nat.le_of_ble_eq_true rfl) dX10_isListClosed_3 ⟨Nat.le_of_ble_eq_true rfl, Nat.le_of_ble_eq_true rfl⟩) (fun H locs hI => ?_)
  refine lv_iconst (v := 1) C0.1 C0.2.1 dX10_isListClosed_6 (by decide) ?_
  refine lv_icmp_ne (tgt := 14) C0.1 C0.2.1 dX10_isListClosed_7 (by decide) (fun c_4 => ?_) (fun c_4 => ?_)
  · have hf := (if_neg c_4).symm.trans hf
    refine lv_iconst (v := 0) C0.1 C0.2.1 dX10_isListClosed_14 (by decide) ?_
    exact ee_zm C0 hI hr hlocks rfl hf dX10_isListClosed_15
  · have hf := (if_pos c_4).symm.trans hf
    refine lv_iconst (v := 1) C0.1 C0.2.1 dX10_isListClosed_10 (by decide) ?_
    refine lv_goto (tgt := 15) C0.1 C0.2.1 dX10_isListClosed_11 (by decide) ?_
    exact ee_zm C0 hI hr hlocks rfl hf dX10_isListClosed_15

def F_X10_closureWeight (n : Nat) (x1 : Int32) (M : Mem) : Option (Int32 × Mem) :=
  ob (F_X10_isMotion n x1 M) (fun r_2 => (if r_2 = 0 then lt' (up2 M 0 0 1) (fun M_4 => (if (M_4 0 0) = 0 then ob (F_X10_backing n x1 M_4) (fun r_8 => some (r_8, M_4)) else some (0, M_4))) else lt' (up2 M 0 0 0) (fun M_9 => (if (M_9 0 0) = 0 then ob (F_X10_backing n x1 M_9) (fun r_13 => some (r_13, M_9)) else some (0, M_9)))))
theorem hd_X10_closureWeight : yX10_closureWeight.cls ≠ "java/lang/invoke/MethodHandle" ∧ yX10_closureWeight.cls ≠ "java/lang/invoke/VarHandle" ∧ (parseMethodDescriptor yX10_closureWeight.desc).map (fun d => d.parameters.length) = some 1 := ⟨by decide +kernel, by decide +kernel, by decide +kernel⟩
set_option maxHeartbeats 4000000 in
set_option maxRecDepth 100000 in
theorem c_X10_closureWeight (l : Launch) (g : GG) (X : va_W) (b : Nat → Nat) (sz n : Nat) (M : Mem) (x1 : Int32) {r0 : Int32} {M' : Mem} (hf : F_X10_closureWeight n x1 M = some (r0, M')) : Met l yX10_closureWeight (.code yX10_closureWeight cX10_closureWeight 2 (some .int) :: LWg) (rmD 2 0 0) (va_Pc [.ref (b 0), .int x1] (PreP g X 10 (shM g b) b sz M)) (Qi g X 10 (shM g b) b sz r0 M') 0 0 (AA X b 10 sz) := by
  refine met_go (by decide +kernel) rfl (Nat.le_of_ble_eq_true rfl) ?_
  intro p e s m below meth c ls H locs C0 C1 hr hlocks hnm hsz hl hI
  subst hsz
  have hl : lv_has ls 2 [(0, .ref (b 0)), (1, .int x1)] := hl
  unfold F_X10_closureWeight at hf
  refine lv_aload_n C0.1 C0.2.1 dX10_closureWeight_0 rfl (lv_at hl 0 rfl) ?_
  refine lv_aload_n C0.1 C0.2.1 dX10_closureWeight_1 rfl (lv_at hl 0 rfl) ?_
  refine lv_iload_n C0.1 C0.2.1 dX10_closureWeight_2 rfl (lv_at hl 1 rfl) ?_
  obtain ⟨r_2, h_1, hf⟩ := ob_some hf
  refine k_i C1 hI (q_V C0 C1 hI 0 (c_X10_isMotion l g X b H.size n M x1 h_1) w_1893 w_1895 w_86 w_132 w_1896 ⟨rfl, rfl⟩ hd_X10_isMotion ⟨Nat.le_of_ble_eq_true rfl, Nat.le_of_ble_eq_true rfl⟩ (Nat.le_of_ble_eq_true rfl) ((fun _ => rfl) _) rfl rfl rfl hl.1 rfl (Nat.le_of_ble_eq_true rfl) dX10_closureWeight_3 ⟨Nat.le_of_ble_eq_true rfl, Nat.le_of_ble_eq_true rfl⟩) (fun H locs hI => ?_)
  refine lv_if_eq (tgt := 13) C0.1 C0.2.1 dX10_closureWeight_6 (by decide) (fun c_3 => ?_) (fun c_3 => ?_)
  · have hf := (if_pos c_3).symm.trans hf
    refine lv_iconst (v := 1) C0.1 C0.2.1 dX10_closureWeight_13 (by decide) ?_
    refine r_put (C := RX10) (T := TX10) (N9 := 20) (ci := 11) (fs := fM b) (ty := .int) C0 C1 hI iX10 tyX10 tyX10_ok nmX10 rfl 0 0 (Nat.le_of_ble_eq_true rfl) (by decide) (fun _ => rfl) rfl rfl rfl (by decide +kernel) ⟨rfl, rfl⟩ (Nat.le_of_ble_eq_true rfl) w_1691 dX10_closureWeight_14 (fun H locs hI => ?_)
    obtain ⟨M_4, e_5⟩ : ∃ z : Mem, z = up2 M 0 0 1 := ⟨_, rfl⟩
    rw [← e_5] at hI
    have hf := lt_at e_5 hf
    refine lv_aload_n C0.1 C0.2.1 dX10_closureWeight_17 rfl (lv_at hl 0 rfl) ?_
    refine r_get (C := RX10) (T := TX10) (N9 := 20) (ci := 11) C0 C1 hI iX10 rfl 0 0 (Nat.le_of_ble_eq_true rfl) (by decide) ((fun _ => rfl) _) rfl rfl w_1691 dX10_closureWeight_18 ?_
    refine lv_if_ne (tgt := 32) C0.1 C0.2.1 dX10_closureWeight_21 (by decide) (fun c_6 => ?_) (fun c_6 => ?_)
    · have hf := (if_neg c_6).symm.trans hf
      refine lv_iconst (v := 0) C0.1 C0.2.1 dX10_closureWeight_32 (by decide) ?_
      exact ee_im C0 hI hr hlocks hf dX10_closureWeight_33
    · have hf := (if_pos c_6).symm.trans hf
      refine lv_aload_n C0.1 C0.2.1 dX10_closureWeight_24 rfl (lv_at hl 0 rfl) ?_
      refine lv_iload_n C0.1 C0.2.1 dX10_closureWeight_25 rfl (lv_at hl 1 rfl) ?_
      obtain ⟨r_8, h_7, hf⟩ := ob_some hf
      refine k_i C1 hI (q_V C0 C1 hI 0 (c_X10_backing l g X b H.size n M_4 x1 h_7) w_1989 w_1991 w_98 w_132 w_1992 ⟨rfl, rfl⟩ hd_X10_backing ⟨Nat.le_of_ble_eq_true rfl, Nat.le_of_ble_eq_true rfl⟩ (Nat.le_of_ble_eq_true rfl) ((fun _ => rfl) _) rfl rfl rfl hl.1 rfl (Nat.le_of_ble_eq_true rfl) dX10_closureWeight_26 ⟨Nat.le_of_ble_eq_true rfl, Nat.le_of_ble_eq_true rfl⟩) (fun H locs hI => ?_)
      refine lv_goto (tgt := 33) C0.1 C0.2.1 dX10_closureWeight_29 (by decide) ?_
      exact ee_im C0 hI hr hlocks hf dX10_closureWeight_33
  · have hf := (if_neg c_3).symm.trans hf
    refine lv_iconst (v := 0) C0.1 C0.2.1 dX10_closureWeight_9 (by decide) ?_
    refine lv_goto (tgt := 14) C0.1 C0.2.1 dX10_closureWeight_10 (by decide) ?_
    refine r_put (C := RX10) (T := TX10) (N9 := 20) (ci := 11) (fs := fM b) (ty := .int) C0 C1 hI iX10 tyX10 tyX10_ok nmX10 rfl 0 0 (Nat.le_of_ble_eq_true rfl) (by decide) (fun _ => rfl) rfl rfl rfl (by decide +kernel) ⟨rfl, rfl⟩ (Nat.le_of_ble_eq_true rfl) w_1691 dX10_closureWeight_14 (fun H locs hI => ?_)
    obtain ⟨M_9, e_10⟩ : ∃ z : Mem, z = up2 M 0 0 0 := ⟨_, rfl⟩
    rw [← e_10] at hI
    have hf := lt_at e_10 hf
    refine lv_aload_n C0.1 C0.2.1 dX10_closureWeight_17 rfl (lv_at hl 0 rfl) ?_
    refine r_get (C := RX10) (T := TX10) (N9 := 20) (ci := 11) C0 C1 hI iX10 rfl 0 0 (Nat.le_of_ble_eq_true rfl) (by decide) ((fun _ => rfl) _) rfl rfl w_1691 dX10_closureWeight_18 ?_
    refine lv_if_ne (tgt := 32) C0.1 C0.2.1 dX10_closureWeight_21 (by decide) (fun c_11 => ?_) (fun c_11 => ?_)
    · have hf := (if_neg c_11).symm.trans hf
      refine lv_iconst (v := 0) C0.1 C0.2.1 dX10_closureWeight_32 (by decide) ?_
      exact ee_im C0 hI hr hlocks hf dX10_closureWeight_33
    · have hf := (if_pos c_11).symm.trans hf
      refine lv_aload_n C0.1 C0.2.1 dX10_closureWeight_24 rfl (lv_at hl 0 rfl) ?_
      refine lv_iload_n C0.1 C0.2.1 dX10_closureWeight_25 rfl (lv_at hl 1 rfl) ?_
      obtain ⟨r_13, h_12, hf⟩ := ob_some hf
      refine k_i C1 hI (q_V C0 C1 hI 0 (c_X10_backing l g X b H.size n M_9 x1 h_12) w_1989 w_1991 w_98 w_132 w_1992 ⟨rfl, rfl⟩ hd_X10_backing ⟨Nat.le_of_ble_eq_true rfl, Nat.le_of_ble_eq_true rfl⟩ (Nat.le_of_ble_eq_true rfl) ((fun _ => rfl) _) rfl rfl rfl hl.1 rfl (Nat.le_of_ble_eq_true rfl) dX10_closureWeight_26 ⟨Nat.le_of_ble_eq_true rfl, Nat.le_of_ble_eq_true rfl⟩) (fun H locs hI => ?_)
      refine lv_goto (tgt := 33) C0.1 C0.2.1 dX10_closureWeight_29 (by decide) ?_
      exact ee_im C0 hI hr hlocks hf dX10_closureWeight_33

def F_X10_entitledWeight (n : Nat) (x1 : Int32) (M : Mem) : Option (Int32 × Mem) :=
  ob (F_X10_isMotion n x1 M) (fun r_2 => (if r_2 = 0 then lt' (up2 M 0 0 1) (fun M_4 => (if (M_4 0 0) = 0 then ob (F_X10_entitled n x1 M_4) (fun r_8 => some (r_8, M_4)) else some (0, M_4))) else lt' (up2 M 0 0 0) (fun M_9 => (if (M_9 0 0) = 0 then ob (F_X10_entitled n x1 M_9) (fun r_13 => some (r_13, M_9)) else some (0, M_9)))))
theorem hd_X10_entitledWeight : yX10_entitledWeight.cls ≠ "java/lang/invoke/MethodHandle" ∧ yX10_entitledWeight.cls ≠ "java/lang/invoke/VarHandle" ∧ (parseMethodDescriptor yX10_entitledWeight.desc).map (fun d => d.parameters.length) = some 1 := ⟨by decide +kernel, by decide +kernel, by decide +kernel⟩
set_option maxHeartbeats 4000000 in
set_option maxRecDepth 100000 in
theorem c_X10_entitledWeight (l : Launch) (g : GG) (X : va_W) (b : Nat → Nat) (sz n : Nat) (M : Mem) (x1 : Int32) {r0 : Int32} {M' : Mem} (hf : F_X10_entitledWeight n x1 M = some (r0, M')) : Met l yX10_entitledWeight (.code yX10_entitledWeight cX10_entitledWeight 2 (some .int) :: LWg) (rmD 3 0 0) (va_Pc [.ref (b 0), .int x1] (PreP g X 10 (shM g b) b sz M)) (Qi g X 10 (shM g b) b sz r0 M') 0 0 (AA X b 10 sz) := by
  refine met_go (by decide +kernel) rfl (Nat.le_of_ble_eq_true rfl) ?_
  intro p e s m below meth c ls H locs C0 C1 hr hlocks hnm hsz hl hI
  subst hsz
  have hl : lv_has ls 2 [(0, .ref (b 0)), (1, .int x1)] := hl
  unfold F_X10_entitledWeight at hf
  refine lv_aload_n C0.1 C0.2.1 dX10_entitledWeight_0 rfl (lv_at hl 0 rfl) ?_
  refine lv_aload_n C0.1 C0.2.1 dX10_entitledWeight_1 rfl (lv_at hl 0 rfl) ?_
  refine lv_iload_n C0.1 C0.2.1 dX10_entitledWeight_2 rfl (lv_at hl 1 rfl) ?_
  obtain ⟨r_2, h_1, hf⟩ := ob_some hf
  refine k_i C1 hI (q_V C0 C1 hI 0 (c_X10_isMotion l g X b H.size n M x1 h_1) w_1893 w_1895 w_86 w_132 w_1896 ⟨rfl, rfl⟩ hd_X10_isMotion ⟨Nat.le_of_ble_eq_true rfl, Nat.le_of_ble_eq_true rfl⟩ (Nat.le_of_ble_eq_true rfl) ((fun _ => rfl) _) rfl rfl rfl hl.1 rfl (Nat.le_of_ble_eq_true rfl) dX10_entitledWeight_3 ⟨Nat.le_of_ble_eq_true rfl, Nat.le_of_ble_eq_true rfl⟩) (fun H locs hI => ?_)
  refine lv_if_eq (tgt := 13) C0.1 C0.2.1 dX10_entitledWeight_6 (by decide) (fun c_3 => ?_) (fun c_3 => ?_)
  · have hf := (if_pos c_3).symm.trans hf
    refine lv_iconst (v := 1) C0.1 C0.2.1 dX10_entitledWeight_13 (by decide) ?_
    refine r_put (C := RX10) (T := TX10) (N9 := 20) (ci := 11) (fs := fM b) (ty := .int) C0 C1 hI iX10 tyX10 tyX10_ok nmX10 rfl 0 0 (Nat.le_of_ble_eq_true rfl) (by decide) (fun _ => rfl) rfl rfl rfl (by decide +kernel) ⟨rfl, rfl⟩ (Nat.le_of_ble_eq_true rfl) w_1691 dX10_entitledWeight_14 (fun H locs hI => ?_)
    obtain ⟨M_4, e_5⟩ : ∃ z : Mem, z = up2 M 0 0 1 := ⟨_, rfl⟩
    rw [← e_5] at hI
    have hf := lt_at e_5 hf
    refine lv_aload_n C0.1 C0.2.1 dX10_entitledWeight_17 rfl (lv_at hl 0 rfl) ?_
    refine r_get (C := RX10) (T := TX10) (N9 := 20) (ci := 11) C0 C1 hI iX10 rfl 0 0 (Nat.le_of_ble_eq_true rfl) (by decide) ((fun _ => rfl) _) rfl rfl w_1691 dX10_entitledWeight_18 ?_
    refine lv_if_ne (tgt := 32) C0.1 C0.2.1 dX10_entitledWeight_21 (by decide) (fun c_6 => ?_) (fun c_6 => ?_)
    · have hf := (if_neg c_6).symm.trans hf
      refine lv_iconst (v := 0) C0.1 C0.2.1 dX10_entitledWeight_32 (by decide) ?_
      exact ee_im C0 hI hr hlocks hf dX10_entitledWeight_33
    · have hf := (if_pos c_6).symm.trans hf
      refine lv_aload_n C0.1 C0.2.1 dX10_entitledWeight_24 rfl (lv_at hl 0 rfl) ?_
      refine lv_iload_n C0.1 C0.2.1 dX10_entitledWeight_25 rfl (lv_at hl 1 rfl) ?_
      obtain ⟨r_8, h_7, hf⟩ := ob_some hf
      refine k_i C1 hI (q_V C0 C1 hI 0 (c_X10_entitled l g X b H.size n M_4 x1 h_7) w_1993 w_1995 w_99 w_132 w_1996 ⟨rfl, rfl⟩ hd_X10_entitled ⟨Nat.le_of_ble_eq_true rfl, Nat.le_of_ble_eq_true rfl⟩ (Nat.le_of_ble_eq_true rfl) ((fun _ => rfl) _) rfl rfl rfl hl.1 rfl (Nat.le_of_ble_eq_true rfl) dX10_entitledWeight_26 ⟨Nat.le_of_ble_eq_true rfl, Nat.le_of_ble_eq_true rfl⟩) (fun H locs hI => ?_)
      refine lv_goto (tgt := 33) C0.1 C0.2.1 dX10_entitledWeight_29 (by decide) ?_
      exact ee_im C0 hI hr hlocks hf dX10_entitledWeight_33
  · have hf := (if_neg c_3).symm.trans hf
    refine lv_iconst (v := 0) C0.1 C0.2.1 dX10_entitledWeight_9 (by decide) ?_
    refine lv_goto (tgt := 14) C0.1 C0.2.1 dX10_entitledWeight_10 (by decide) ?_
    refine r_put (C := RX10) (T := TX10) (N9 := 20) (ci := 11) (fs := fM b) (ty := .int) C0 C1 hI iX10 tyX10 tyX10_ok nmX10 rfl 0 0 (Nat.le_of_ble_eq_true rfl) (by decide) (fun _ => rfl) rfl rfl rfl (by decide +kernel) ⟨rfl, rfl⟩ (Nat.le_of_ble_eq_true rfl) w_1691 dX10_entitledWeight_14 (fun H locs hI => ?_)
    obtain ⟨M_9, e_10⟩ : ∃ z : Mem, z = up2 M 0 0 0 := ⟨_, rfl⟩
    rw [← e_10] at hI
    have hf := lt_at e_10 hf
    refine lv_aload_n C0.1 C0.2.1 dX10_entitledWeight_17 rfl (lv_at hl 0 rfl) ?_
    refine r_get (C := RX10) (T := TX10) (N9 := 20) (ci := 11) C0 C1 hI iX10 rfl 0 0 (Nat.le_of_ble_eq_true rfl) (by decide) ((fun _ => rfl) _) rfl rfl w_1691 dX10_entitledWeight_18 ?_
    refine lv_if_ne (tgt := 32) C0.1 C0.2.1 dX10_entitledWeight_21 (by decide) (fun c_11 => ?_) (fun c_11 => ?_)
    · have hf := (if_neg c_11).symm.trans hf
      refine lv_iconst (v := 0) C0.1 C0.2.1 dX10_entitledWeight_32 (by decide) ?_
      exact ee_im C0 hI hr hlocks hf dX10_entitledWeight_33
    · have hf := (if_pos c_11).symm.trans hf
      refine lv_aload_n C0.1 C0.2.1 dX10_entitledWeight_24 rfl (lv_at hl 0 rfl) ?_
      refine lv_iload_n C0.1 C0.2.1 dX10_entitledWeight_25 rfl (lv_at hl 1 rfl) ?_
      obtain ⟨r_13, h_12, hf⟩ := ob_some hf
      refine k_i C1 hI (q_V C0 C1 hI 0 (c_X10_entitled l g X b H.size n M_9 x1 h_12) w_1993 w_1995 w_99 w_132 w_1996 ⟨rfl, rfl⟩ hd_X10_entitled ⟨Nat.le_of_ble_eq_true rfl, Nat.le_of_ble_eq_true rfl⟩ (Nat.le_of_ble_eq_true rfl) ((fun _ => rfl) _) rfl rfl rfl hl.1 rfl (Nat.le_of_ble_eq_true rfl) dX10_entitledWeight_26 ⟨Nat.le_of_ble_eq_true rfl, Nat.le_of_ble_eq_true rfl⟩) (fun H locs hI => ?_)
      refine lv_goto (tgt := 33) C0.1 C0.2.1 dX10_entitledWeight_29 (by decide) ?_
      exact ee_im C0 hI hr hlocks hf dX10_entitledWeight_33

def F_X10_isDue (n : Nat) (x1 : Int32) (M : Mem) : Option Int32 :=
  ob (F_X10_of n x1 2 M) (fun r_2 => chk (inb r_2 407) ((if (M 1 (ix r_2)) = 0 then ob (F_X10_of n x1 1 M) (fun r_6 => chk (inb r_6 407) ((if (M 1 (ix r_6)) = 1 then ob (F_X10_of n x1 5 M) (fun r_10 => chk (inb r_10 407) ((if (M 1 (ix r_10)) = 0 then some 1 else some 0))) else some 0))) else some 0)))
theorem hd_X10_isDue : yX10_isDue.cls ≠ "java/lang/invoke/MethodHandle" ∧ yX10_isDue.cls ≠ "java/lang/invoke/VarHandle" ∧ (parseMethodDescriptor yX10_isDue.desc).map (fun d => d.parameters.length) = some 1 := ⟨by decide +kernel, by decide +kernel, by decide +kernel⟩
set_option maxHeartbeats 4000000 in
set_option maxRecDepth 100000 in
theorem c_X10_isDue (l : Launch) (g : GG) (X : va_W) (b : Nat → Nat) (sz n : Nat) (M : Mem) (x1 : Int32) {r0 : Int32} (hf : F_X10_isDue n x1 M = some r0) : Met l yX10_isDue (.code yX10_isDue cX10_isDue 2 (some .boolean) :: LWg) (rmD 1 0 0) (va_Pc [.ref (b 0), .int x1] (PreP g X 10 (shM g b) b sz M)) (Qi g X 10 (shM g b) b sz r0 M) 0 0 (AA X b 10 sz) := by
  refine met_go (by decide +kernel) rfl (Nat.le_of_ble_eq_true rfl) ?_
  intro p e s m below meth c ls H locs C0 C1 hr hlocks hnm hsz hl hI
  subst hsz
  have hl : lv_has ls 2 [(0, .ref (b 0)), (1, .int x1)] := hl
  unfold F_X10_isDue at hf
  refine lv_aload_n C0.1 C0.2.1 dX10_isDue_0 rfl (lv_at hl 0 rfl) ?_
  refine r_get (C := RX10) (T := TX10) (N9 := 20) (ci := 11) C0 C1 hI iX10 rfl 0 5 (Nat.le_of_ble_eq_true rfl) (by decide) ((fun _ => rfl) _) rfl rfl w_1696 dX10_isDue_1 ?_
  refine lv_iload_n C0.1 C0.2.1 dX10_isDue_4 rfl (lv_at hl 1 rfl) ?_
  refine lv_iconst (v := 2) C0.1 C0.2.1 dX10_isDue_5 (by decide) ?_
  obtain ⟨r_2, h_1, hf⟩ := ob_some hf
  refine k_i C1 hI (q_S C0 C1 hI (c_X10_of l g X b H.size n M x1 2 h_1) w_1878 w_1879 w_132 w_1880 ⟨rfl, rfl⟩ hd_X10_of ⟨Nat.le_of_ble_eq_true rfl, Nat.le_of_ble_eq_true rfl⟩ rfl hl.1 rfl (Nat.le_of_ble_eq_true rfl) dX10_isDue_6 ⟨Nat.le_of_ble_eq_true rfl, Nat.le_of_ble_eq_true rfl⟩) (fun H locs hI => ?_)
  obtain ⟨h_3, hf⟩ := chk_some hf
  refine r_iald C0 C1 hI 1 (Nat.le_of_ble_eq_true rfl) (fun _ => rfl) h_3 dX10_isDue_9 ?_
  refine lv_if_ne (tgt := 44) C0.1 C0.2.1 dX10_isDue_10 (by decide) (fun c_4 => ?_) (fun c_4 => ?_)
  · have hf := (if_neg c_4).symm.trans hf
    refine lv_iconst (v := 0) C0.1 C0.2.1 dX10_isDue_44 (by decide) ?_
    exact ee_z C0 hI hr hlocks rfl hf dX10_isDue_45
  · have hf := (if_pos c_4).symm.trans hf
    refine lv_aload_n C0.1 C0.2.1 dX10_isDue_13 rfl (lv_at hl 0 rfl) ?_
    refine r_get (C := RX10) (T := TX10) (N9 := 20) (ci := 11) C0 C1 hI iX10 rfl 0 5 (Nat.le_of_ble_eq_true rfl) (by decide) ((fun _ => rfl) _) rfl rfl w_1696 dX10_isDue_14 ?_
    refine lv_iload_n C0.1 C0.2.1 dX10_isDue_17 rfl (lv_at hl 1 rfl) ?_
    refine lv_iconst (v := 1) C0.1 C0.2.1 dX10_isDue_18 (by decide) ?_
    obtain ⟨r_6, h_5, hf⟩ := ob_some hf
    refine k_i C1 hI (q_S C0 C1 hI (c_X10_of l g X b H.size n M x1 1 h_5) w_1878 w_1879 w_132 w_1880 ⟨rfl, rfl⟩ hd_X10_of ⟨Nat.le_of_ble_eq_true rfl, Nat.le_of_ble_eq_true rfl⟩ rfl hl.1 rfl (Nat.le_of_ble_eq_true rfl) dX10_isDue_19 ⟨Nat.le_of_ble_eq_true rfl, Nat.le_of_ble_eq_true rfl⟩) (fun H locs hI => ?_)
    obtain ⟨h_7, hf⟩ := chk_some hf
    refine r_iald C0 C1 hI 1 (Nat.le_of_ble_eq_true rfl) (fun _ => rfl) h_7 dX10_isDue_22 ?_
    refine lv_iconst (v := 1) C0.1 C0.2.1 dX10_isDue_23 (by decide) ?_
    refine lv_icmp_ne (tgt := 44) C0.1 C0.2.1 dX10_isDue_24 (by decide) (fun c_8 => ?_) (fun c_8 => ?_)
    · have hf := (if_neg c_8).symm.trans hf
      refine lv_iconst (v := 0) C0.1 C0.2.1 dX10_isDue_44 (by decide) ?_
      exact ee_z C0 hI hr hlocks rfl hf dX10_isDue_45
    · have hf := (if_pos c_8).symm.trans hf
      refine lv_aload_n C0.1 C0.2.1 dX10_isDue_27 rfl (lv_at hl 0 rfl) ?_
      refine r_get (C := RX10) (T := TX10) (N9 := 20) (ci := 11) C0 C1 hI iX10 rfl 0 5 (Nat.le_of_ble_eq_true rfl) (by decide) ((fun _ => rfl) _) rfl rfl w_1696 dX10_isDue_28 ?_
      refine lv_iload_n C0.1 C0.2.1 dX10_isDue_31 rfl (lv_at hl 1 rfl) ?_
      refine lv_iconst (v := 5) C0.1 C0.2.1 dX10_isDue_32 (by decide) ?_
      obtain ⟨r_10, h_9, hf⟩ := ob_some hf
      refine k_i C1 hI (q_S C0 C1 hI (c_X10_of l g X b H.size n M x1 5 h_9) w_1878 w_1879 w_132 w_1880 ⟨rfl, rfl⟩ hd_X10_of ⟨Nat.le_of_ble_eq_true rfl, Nat.le_of_ble_eq_true rfl⟩ rfl hl.1 rfl (Nat.le_of_ble_eq_true rfl) dX10_isDue_33 ⟨Nat.le_of_ble_eq_true rfl, Nat.le_of_ble_eq_true rfl⟩) (fun H locs hI => ?_)
      obtain ⟨h_11, hf⟩ := chk_some hf
      refine r_iald C0 C1 hI 1 (Nat.le_of_ble_eq_true rfl) (fun _ => rfl) h_11 dX10_isDue_36 ?_
      refine lv_if_ne (tgt := 44) C0.1 C0.2.1 dX10_isDue_37 (by decide) (fun c_12 => ?_) (fun c_12 => ?_)
      · have hf := (if_neg c_12).symm.trans hf
        refine lv_iconst (v := 0) C0.1 C0.2.1 dX10_isDue_44 (by decide) ?_
        exact ee_z C0 hI hr hlocks rfl hf dX10_isDue_45
      · have hf := (if_pos c_12).symm.trans hf
        refine lv_iconst (v := 1) C0.1 C0.2.1 dX10_isDue_40 (by decide) ?_
        refine lv_goto (tgt := 45) C0.1 C0.2.1 dX10_isDue_41 (by decide) ?_
        exact ee_z C0 hI hr hlocks rfl hf dX10_isDue_45

def F_X10_strength (n : Nat) (x1 : Int32) (x2 : Int32) (M : Mem) : Option Int32 :=
  ob (F_X10_croaked n x1 x2 M) (fun r_2 => chk (inb (r_2 + 1) 407) (ob (F_X10_croaked n x1 x2 M) (fun r_5 => chk (inb r_5 407) (chk (inb (17 + (M 1 (ix r_5))) 407) (some ((M 1 (ix (r_2 + 1))) * (M 1 (ix (17 + (M 1 (ix r_5)))))))))))
theorem hd_X10_strength : yX10_strength.cls ≠ "java/lang/invoke/MethodHandle" ∧ yX10_strength.cls ≠ "java/lang/invoke/VarHandle" ∧ (parseMethodDescriptor yX10_strength.desc).map (fun d => d.parameters.length) = some 2 := ⟨by decide +kernel, by decide +kernel, by decide +kernel⟩
set_option maxHeartbeats 4000000 in
set_option maxRecDepth 100000 in
theorem c_X10_strength (l : Launch) (g : GG) (X : va_W) (b : Nat → Nat) (sz n : Nat) (M : Mem) (x1 : Int32) (x2 : Int32) {r0 : Int32} (hf : F_X10_strength n x1 x2 M = some r0) : Met l yX10_strength (.code yX10_strength cX10_strength 3 (some .int) :: LWg) (rmD 1 0 0) (va_Pc [.ref (b 0), .int x1, .int x2] (PreP g X 10 (shM g b) b sz M)) (Qi g X 10 (shM g b) b sz r0 M) 0 0 (AA X b 10 sz) := by
  refine met_go (by decide +kernel) rfl (Nat.le_of_ble_eq_true rfl) ?_
  intro p e s m below meth c ls H locs C0 C1 hr hlocks hnm hsz hl hI
  subst hsz
  have hl : lv_has ls 3 [(0, .ref (b 0)), (1, .int x1), (2, .int x2)] := hl
  unfold F_X10_strength at hf
  refine lv_aload_n C0.1 C0.2.1 dX10_strength_0 rfl (lv_at hl 0 rfl) ?_
  refine r_get (C := RX10) (T := TX10) (N9 := 20) (ci := 11) C0 C1 hI iX10 rfl 0 5 (Nat.le_of_ble_eq_true rfl) (by decide) ((fun _ => rfl) _) rfl rfl w_1696 dX10_strength_1 ?_
  refine lv_iload_n C0.1 C0.2.1 dX10_strength_4 rfl (lv_at hl 1 rfl) ?_
  refine lv_iload_n C0.1 C0.2.1 dX10_strength_5 rfl (lv_at hl 2 rfl) ?_
  obtain ⟨r_2, h_1, hf⟩ := ob_some hf
  refine k_i C1 hI (q_S C0 C1 hI (c_X10_croaked l g X b H.size n M x1 x2 h_1) w_2025 w_2026 w_132 w_2027 ⟨rfl, rfl⟩ hd_X10_croaked ⟨Nat.le_of_ble_eq_true rfl, Nat.le_of_ble_eq_true rfl⟩ rfl hl.1 rfl (Nat.le_of_ble_eq_true rfl) dX10_strength_6 ⟨Nat.le_of_ble_eq_true rfl, Nat.le_of_ble_eq_true rfl⟩) (fun H locs hI => ?_)
  refine lv_iconst (v := 1) C0.1 C0.2.1 dX10_strength_9 (by decide) ?_
  refine lv_iadd C0.1 C0.2.1 dX10_strength_10 ?_
  obtain ⟨h_3, hf⟩ := chk_some hf
  refine r_iald C0 C1 hI 1 (Nat.le_of_ble_eq_true rfl) (fun _ => rfl) h_3 dX10_strength_11 ?_
  refine lv_aload_n C0.1 C0.2.1 dX10_strength_12 rfl (lv_at hl 0 rfl) ?_
  refine r_get (C := RX10) (T := TX10) (N9 := 20) (ci := 11) C0 C1 hI iX10 rfl 0 5 (Nat.le_of_ble_eq_true rfl) (by decide) ((fun _ => rfl) _) rfl rfl w_1696 dX10_strength_13 ?_
  refine lv_bipush (v := 17) C0.1 C0.2.1 dX10_strength_16 (by decide) ?_
  refine lv_aload_n C0.1 C0.2.1 dX10_strength_18 rfl (lv_at hl 0 rfl) ?_
  refine r_get (C := RX10) (T := TX10) (N9 := 20) (ci := 11) C0 C1 hI iX10 rfl 0 5 (Nat.le_of_ble_eq_true rfl) (by decide) ((fun _ => rfl) _) rfl rfl w_1696 dX10_strength_19 ?_
  refine lv_iload_n C0.1 C0.2.1 dX10_strength_22 rfl (lv_at hl 1 rfl) ?_
  refine lv_iload_n C0.1 C0.2.1 dX10_strength_23 rfl (lv_at hl 2 rfl) ?_
  obtain ⟨r_5, h_4, hf⟩ := ob_some hf
  refine k_i C1 hI (q_S C0 C1 hI (c_X10_croaked l g X b H.size n M x1 x2 h_4) w_2025 w_2026 w_132 w_2027 ⟨rfl, rfl⟩ hd_X10_croaked ⟨Nat.le_of_ble_eq_true rfl, Nat.le_of_ble_eq_true rfl⟩ rfl hl.1 rfl (Nat.le_of_ble_eq_true rfl) dX10_strength_24 ⟨Nat.le_of_ble_eq_true rfl, Nat.le_of_ble_eq_true rfl⟩) (fun H locs hI => ?_)
  obtain ⟨h_6, hf⟩ := chk_some hf
  refine r_iald C0 C1 hI 1 (Nat.le_of_ble_eq_true rfl) (fun _ => rfl) h_6 dX10_strength_27 ?_
  refine lv_iadd C0.1 C0.2.1 dX10_strength_28 ?_
  obtain ⟨h_7, hf⟩ := chk_some hf
  refine r_iald C0 C1 hI 1 (Nat.le_of_ble_eq_true rfl) (fun _ => rfl) h_7 dX10_strength_29 ?_
  refine lv_imul C0.1 C0.2.1 dX10_strength_30 ?_
  exact ee_i C0 hI hr hlocks hf dX10_strength_31

def F_X10_sum_L5 (n : Nat) (M : Mem) : Nat → Int32 → Int32 → Int32 → Int32 → Option Int32
  | 0, _, _, _, _ => none
  | k5 + 1, x1_5, x2_5, x3_5, x4_5 =>
    ob (F_X10_of n x1_5 7 M) (fun r_5_2 => chk (inb r_5_2 407) ((if (M 1 (ix r_5_2)) ≤ x4_5 then some x3_5 else ob (F_X10_croaked n x1_5 x4_5 M) (fun r_5_6 => chk (inb (r_5_6 + 2) 407) ((if (M 1 (ix (r_5_6 + 2))) = x2_5 then ob (F_X10_strength n x1_5 x4_5 M) (fun r_5_14 => lt' (x3_5 + r_5_14) (fun x3_5_15 => lt' (x4_5 + 1) (fun x4_5_17 => F_X10_sum_L5 n M k5 x1_5 x2_5 x3_5_15 x4_5_17))) else lt' (x3_5 + 0) (fun x3_5_9 => lt' (x4_5 + 1) (fun x4_5_11 => F_X10_sum_L5 n M k5 x1_5 x2_5 x3_5_9 x4_5_11))))))))
def F_X10_sum (n : Nat) (x1 : Int32) (x2 : Int32) (M : Mem) : Option Int32 :=
  F_X10_sum_L5 n M n x1 x2 0 0
theorem hd_X10_sum : yX10_sum.cls ≠ "java/lang/invoke/MethodHandle" ∧ yX10_sum.cls ≠ "java/lang/invoke/VarHandle" ∧ (parseMethodDescriptor yX10_sum.desc).map (fun d => d.parameters.length) = some 2 := ⟨by decide +kernel, by decide +kernel, by decide +kernel⟩
set_option maxHeartbeats 4000000 in
set_option maxRecDepth 100000 in
theorem c_X10_sum (l : Launch) (g : GG) (X : va_W) (b : Nat → Nat) (sz n : Nat) (M : Mem) (x1 : Int32) (x2 : Int32) {r0 : Int32} (hf : F_X10_sum n x1 x2 M = some r0) : Met l yX10_sum (.code yX10_sum cX10_sum 5 (some .int) :: LWg) (rmD 2 0 0) (va_Pc [.ref (b 0), .int x1, .int x2] (PreP g X 10 (shM g b) b sz M)) (Qi g X 10 (shM g b) b sz r0 M) 0 0 (AA X b 10 sz) := by
  refine met_go (by decide +kernel) rfl (Nat.le_of_ble_eq_true rfl) ?_
  intro p e s m below meth c ls H locs C0 C1 hr hlocks hnm hsz hl hI
  subst hsz
  have hl : lv_has ls 5 [(0, .ref (b 0)), (1, .int x1), (2, .int x2)] := hl
  unfold F_X10_sum at hf
  refine lv_iconst (v := 0) C0.1 C0.2.1 dX10_sum_0 (by decide) ?_
  refine lv_istore_n (lv' := [(3, .int 0), (0, .ref (b 0)), (1, .int x1), (2, .int x2)]) C0.1 C0.2.1 dX10_sum_1 rfl hl (by decide) rfl (fun ls hl => ?_)
  refine lv_iconst (v := 0) C0.1 C0.2.1 dX10_sum_2 (by decide) ?_
  refine lv_istore (lv' := [(4, .int 0), (3, .int 0), (0, .ref (b 0)), (1, .int x1), (2, .int x2)]) C0.1 C0.2.1 dX10_sum_3 hl (by decide) rfl (fun ls hl => ?_)
  have L5 : ∀ (k5 : Nat) (x1_5 : Int32) (x2_5 : Int32) (x3_5 : Int32) (x4_5 : Int32), F_X10_sum_L5 n M k5 x1_5 x2_5 x3_5 x4_5 = some r0 → ∀ (H : Heap) (locs : List Loc) (ls : Array Slot), PI g X 10 (shM g b) b s M H locs → lv_has ls 5 [(0, .ref (b 0)), (1, .int x1_5), (2, .int x2_5), (3, .int x3_5), (4, .int x4_5)] → W p l e (rmD 2 0 0) s m ([.ref (b 0), .int x1, .int x2] : List Value).toArray below meth c H locs 0 0 (MQ below (Qi g X 10 (shM g b) b s.heap.size r0 M) ([.ref (b 0), .int x1, .int x2] : List Value).toArray s 0 0 (AA X b 10 s.heap.size)) (F0 m 5 ls []) := by
    intro k5
    induction k5 with
    | zero => intro x1_5 x2_5 x3_5 x4_5 hf; exact absurd (show (none : Option Int32) = some r0 from hf) (fun h => by cases h)
    | succ k5 ih5 =>
      intro x1_5 x2_5 x3_5 x4_5 hf H locs ls hI hl
      unfold F_X10_sum_L5 at hf
      refine lv_iload C0.1 C0.2.1 dX10_sum_5 (lv_at hl 4 rfl) ?_
      refine lv_aload_n C0.1 C0.2.1 dX10_sum_7 rfl (lv_at hl 0 rfl) ?_
      refine r_get (C := RX10) (T := TX10) (N9 := 20) (ci := 11) C0 C1 hI iX10 rfl 0 5 (Nat.le_of_ble_eq_true rfl) (by decide) ((fun _ => rfl) _) rfl rfl w_1696 dX10_sum_8 ?_
      refine lv_iload_n C0.1 C0.2.1 dX10_sum_11 rfl (lv_at hl 1 rfl) ?_
      refine lv_bipush (v := 7) C0.1 C0.2.1 dX10_sum_12 (by decide) ?_
      obtain ⟨r_5_2, h_5_1, hf⟩ := ob_some hf
      refine k_i C1 hI (q_S C0 C1 hI (c_X10_of l g X b H.size n M x1_5 7 h_5_1) w_1878 w_1879 w_132 w_1880 ⟨rfl, rfl⟩ hd_X10_of ⟨Nat.le_of_ble_eq_true rfl, Nat.le_of_ble_eq_true rfl⟩ rfl hl.1 rfl (Nat.le_of_ble_eq_true rfl) dX10_sum_14 ⟨Nat.le_of_ble_eq_true rfl, Nat.le_of_ble_eq_true rfl⟩) (fun H locs hI => ?_)
      obtain ⟨h_5_3, hf⟩ := chk_some hf
      refine r_iald C0 C1 hI 1 (Nat.le_of_ble_eq_true rfl) (fun _ => rfl) h_5_3 dX10_sum_17 ?_
      refine lv_icmp_ge (tgt := 58) C0.1 C0.2.1 dX10_sum_18 (by decide) (fun c_5_4 => ?_) (fun c_5_4 => ?_)
      · have hf := (if_pos c_5_4).symm.trans hf
        refine lv_iload_n C0.1 C0.2.1 dX10_sum_58 rfl (lv_at hl 3 rfl) ?_
        exact ee_i C0 hI hr hlocks hf dX10_sum_59
      · have hf := (if_neg c_5_4).symm.trans hf
        refine lv_iload_n C0.1 C0.2.1 dX10_sum_21 rfl (lv_at hl 3 rfl) ?_
        refine lv_aload_n C0.1 C0.2.1 dX10_sum_22 rfl (lv_at hl 0 rfl) ?_
        refine r_get (C := RX10) (T := TX10) (N9 := 20) (ci := 11) C0 C1 hI iX10 rfl 0 5 (Nat.le_of_ble_eq_true rfl) (by decide) ((fun _ => rfl) _) rfl rfl w_1696 dX10_sum_23 ?_
        refine lv_iload_n C0.1 C0.2.1 dX10_sum_26 rfl (lv_at hl 1 rfl) ?_
        refine lv_iload C0.1 C0.2.1 dX10_sum_27 (lv_at hl 4 rfl) ?_
        obtain ⟨r_5_6, h_5_5, hf⟩ := ob_some hf
        refine k_i C1 hI (q_S C0 C1 hI (c_X10_croaked l g X b H.size n M x1_5 x4_5 h_5_5) w_2025 w_2026 w_132 w_2027 ⟨rfl, rfl⟩ hd_X10_croaked ⟨Nat.le_of_ble_eq_true rfl, Nat.le_of_ble_eq_true rfl⟩ rfl hl.1 rfl (Nat.le_of_ble_eq_true rfl) dX10_sum_29 ⟨Nat.le_of_ble_eq_true rfl, Nat.le_of_ble_eq_true rfl⟩) (fun H locs hI => ?_)
        refine lv_iconst (v := 2) C0.1 C0.2.1 dX10_sum_32 (by decide) ?_
        refine lv_iadd C0.1 C0.2.1 dX10_sum_33 ?_
        obtain ⟨h_5_7, hf⟩ := chk_some hf
        refine r_iald C0 C1 hI 1 (Nat.le_of_ble_eq_true rfl) (fun _ => rfl) h_5_7 dX10_sum_34 ?_
        refine lv_iload_n C0.1 C0.2.1 dX10_sum_35 rfl (lv_at hl 2 rfl) ?_
        refine lv_icmp_ne (tgt := 49) C0.1 C0.2.1 dX10_sum_36 (by decide) (fun c_5_8 => ?_) (fun c_5_8 => ?_)
        · have hf := (if_neg c_5_8).symm.trans hf
          refine lv_iconst (v := 0) C0.1 C0.2.1 dX10_sum_49 (by decide) ?_
          refine lv_iadd C0.1 C0.2.1 dX10_sum_50 ?_
          refine lv_topi (fun x3_5_9 e_5_10 => ?_)
          have hf := lt_at e_5_10 hf
          refine lv_istore_n (lv' := [(3, .int x3_5_9), (0, .ref (b 0)), (1, .int x1_5), (2, .int x2_5), (4, .int x4_5)]) C0.1 C0.2.1 dX10_sum_51 rfl hl (by decide) rfl (fun ls hl => ?_)
          obtain ⟨x4_5_11, e_5_12⟩ : ∃ z : Int32, z = x4_5 + 1 := ⟨_, rfl⟩
          have hf := lt_at e_5_12 hf
          refine lv_iinc (v := x4_5_11) (lv' := [(4, .int x4_5_11), (3, .int x3_5_9), (0, .ref (b 0)), (1, .int x1_5), (2, .int x2_5)]) C0.1 C0.2.1 dX10_sum_52 hl (k := 4) rfl (by rw [e_5_12]; rfl) (by decide) rfl (fun ls hl => ?_)
          refine lv_goto (tgt := 5) C0.1 C0.2.1 dX10_sum_55 (by decide) ?_
          exact ih5 x1_5 x2_5 x3_5_9 x4_5_11 hf H locs ls hI (lv_sub hl [2, 3, 4, 1, 0] rfl)
        · have hf := (if_pos c_5_8).symm.trans hf
          refine lv_aload_n C0.1 C0.2.1 dX10_sum_39 rfl (lv_at hl 0 rfl) ?_
          refine lv_iload_n C0.1 C0.2.1 dX10_sum_40 rfl (lv_at hl 1 rfl) ?_
          refine lv_iload C0.1 C0.2.1 dX10_sum_41 (lv_at hl 4 rfl) ?_
          obtain ⟨r_5_14, h_5_13, hf⟩ := ob_some hf
          refine k_i C1 hI (q_V C0 C1 hI 0 (c_X10_strength l g X b H.size n M x1_5 x4_5 h_5_13) w_2032 w_2034 w_104 w_132 w_2035 ⟨rfl, rfl⟩ hd_X10_strength ⟨Nat.le_of_ble_eq_true rfl, Nat.le_of_ble_eq_true rfl⟩ (Nat.le_of_ble_eq_true rfl) ((fun _ => rfl) _) rfl rfl rfl hl.1 rfl (Nat.le_of_ble_eq_true rfl) dX10_sum_43 ⟨Nat.le_of_ble_eq_true rfl, Nat.le_of_ble_eq_true rfl⟩) (fun H locs hI => ?_)
          refine lv_goto (tgt := 50) C0.1 C0.2.1 dX10_sum_46 (by decide) ?_
          refine lv_iadd C0.1 C0.2.1 dX10_sum_50 ?_
          refine lv_topi (fun x3_5_15 e_5_16 => ?_)
          have hf := lt_at e_5_16 hf
          refine lv_istore_n (lv' := [(3, .int x3_5_15), (0, .ref (b 0)), (1, .int x1_5), (2, .int x2_5), (4, .int x4_5)]) C0.1 C0.2.1 dX10_sum_51 rfl hl (by decide) rfl (fun ls hl => ?_)
          obtain ⟨x4_5_17, e_5_18⟩ : ∃ z : Int32, z = x4_5 + 1 := ⟨_, rfl⟩
          have hf := lt_at e_5_18 hf
          refine lv_iinc (v := x4_5_17) (lv' := [(4, .int x4_5_17), (3, .int x3_5_15), (0, .ref (b 0)), (1, .int x1_5), (2, .int x2_5)]) C0.1 C0.2.1 dX10_sum_52 hl (k := 4) rfl (by rw [e_5_18]; rfl) (by decide) rfl (fun ls hl => ?_)
          refine lv_goto (tgt := 5) C0.1 C0.2.1 dX10_sum_55 (by decide) ?_
          exact ih5 x1_5 x2_5 x3_5_15 x4_5_17 hf H locs ls hI (lv_sub hl [2, 3, 4, 1, 0] rfl)
  exact L5 n x1 x2 0 0 hf H locs ls hI (lv_sub hl [2, 3, 4, 1, 0] rfl)

def F_X10_hasCroaked_L2 (n : Nat) (M : Mem) : Nat → Int32 → Int32 → Int32 → Option Int32
  | 0, _, _, _ => none
  | k2 + 1, x1_2, x2_2, x3_2 =>
    ob (F_X10_of n x1_2 7 M) (fun r_2_2 => chk (inb r_2_2 407) ((if (M 1 (ix r_2_2)) ≤ x3_2 then some 0 else ob (F_X10_croaked n x1_2 x3_2 M) (fun r_2_6 => chk (inb r_2_6 407) ((if (M 1 (ix r_2_6)) = x2_2 then some 1 else lt' (x3_2 + 1) (fun x3_2_9 => F_X10_hasCroaked_L2 n M k2 x1_2 x2_2 x3_2_9)))))))
def F_X10_hasCroaked (n : Nat) (x1 : Int32) (x2 : Int32) (M : Mem) : Option Int32 :=
  F_X10_hasCroaked_L2 n M n x1 x2 0
theorem hd_X10_hasCroaked : yX10_hasCroaked.cls ≠ "java/lang/invoke/MethodHandle" ∧ yX10_hasCroaked.cls ≠ "java/lang/invoke/VarHandle" ∧ (parseMethodDescriptor yX10_hasCroaked.desc).map (fun d => d.parameters.length) = some 2 := ⟨by decide +kernel, by decide +kernel, by decide +kernel⟩
set_option maxHeartbeats 4000000 in
set_option maxRecDepth 100000 in
theorem c_X10_hasCroaked (l : Launch) (g : GG) (X : va_W) (b : Nat → Nat) (sz n : Nat) (M : Mem) (x1 : Int32) (x2 : Int32) {r0 : Int32} (hf : F_X10_hasCroaked n x1 x2 M = some r0) : Met l yX10_hasCroaked (.code yX10_hasCroaked cX10_hasCroaked 4 (some .boolean) :: LWg) (rmD 1 0 0) (va_Pc [.ref (b 0), .int x1, .int x2] (PreP g X 10 (shM g b) b sz M)) (Qi g X 10 (shM g b) b sz r0 M) 0 0 (AA X b 10 sz) := by
  refine met_go (by decide +kernel) rfl (Nat.le_of_ble_eq_true rfl) ?_
  intro p e s m below meth c ls H locs C0 C1 hr hlocks hnm hsz hl hI
  subst hsz
  have hl : lv_has ls 4 [(0, .ref (b 0)), (1, .int x1), (2, .int x2)] := hl
  unfold F_X10_hasCroaked at hf
  refine lv_iconst (v := 0) C0.1 C0.2.1 dX10_hasCroaked_0 (by decide) ?_
  refine lv_istore_n (lv' := [(3, .int 0), (0, .ref (b 0)), (1, .int x1), (2, .int x2)]) C0.1 C0.2.1 dX10_hasCroaked_1 rfl hl (by decide) rfl (fun ls hl => ?_)
  have L2 : ∀ (k2 : Nat) (x1_2 : Int32) (x2_2 : Int32) (x3_2 : Int32), F_X10_hasCroaked_L2 n M k2 x1_2 x2_2 x3_2 = some r0 → ∀ (H : Heap) (locs : List Loc) (ls : Array Slot), PI g X 10 (shM g b) b s M H locs → lv_has ls 4 [(0, .ref (b 0)), (1, .int x1_2), (2, .int x2_2), (3, .int x3_2)] → W p l e (rmD 1 0 0) s m ([.ref (b 0), .int x1, .int x2] : List Value).toArray below meth c H locs 0 0 (MQ below (Qi g X 10 (shM g b) b s.heap.size r0 M) ([.ref (b 0), .int x1, .int x2] : List Value).toArray s 0 0 (AA X b 10 s.heap.size)) (F0 m 2 ls []) := by
    intro k2
    induction k2 with
    | zero => intro x1_2 x2_2 x3_2 hf; exact absurd (show (none : Option Int32) = some r0 from hf) (fun h => by cases h)
    | succ k2 ih2 =>
      intro x1_2 x2_2 x3_2 hf H locs ls hI hl
      unfold F_X10_hasCroaked_L2 at hf
      refine lv_iload_n C0.1 C0.2.1 dX10_hasCroaked_2 rfl (lv_at hl 3 rfl) ?_
      refine lv_aload_n C0.1 C0.2.1 dX10_hasCroaked_3 rfl (lv_at hl 0 rfl) ?_
      refine r_get (C := RX10) (T := TX10) (N9 := 20) (ci := 11) C0 C1 hI iX10 rfl 0 5 (Nat.le_of_ble_eq_true rfl) (by decide) ((fun _ => rfl) _) rfl rfl w_1696 dX10_hasCroaked_4 ?_
      refine lv_iload_n C0.1 C0.2.1 dX10_hasCroaked_7 rfl (lv_at hl 1 rfl) ?_
      refine lv_bipush (v := 7) C0.1 C0.2.1 dX10_hasCroaked_8 (by decide) ?_
      obtain ⟨r_2_2, h_2_1, hf⟩ := ob_some hf
      refine k_i C1 hI (q_S C0 C1 hI (c_X10_of l g X b H.size n M x1_2 7 h_2_1) w_1878 w_1879 w_132 w_1880 ⟨rfl, rfl⟩ hd_X10_of ⟨Nat.le_of_ble_eq_true rfl, Nat.le_of_ble_eq_true rfl⟩ rfl hl.1 rfl (Nat.le_of_ble_eq_true rfl) dX10_hasCroaked_10 ⟨Nat.le_of_ble_eq_true rfl, Nat.le_of_ble_eq_true rfl⟩) (fun H locs hI => ?_)
      obtain ⟨h_2_3, hf⟩ := chk_some hf
      refine r_iald C0 C1 hI 1 (Nat.le_of_ble_eq_true rfl) (fun _ => rfl) h_2_3 dX10_hasCroaked_13 ?_
      refine lv_icmp_ge (tgt := 39) C0.1 C0.2.1 dX10_hasCroaked_14 (by decide) (fun c_2_4 => ?_) (fun c_2_4 => ?_)
      · have hf := (if_pos c_2_4).symm.trans hf
        refine lv_iconst (v := 0) C0.1 C0.2.1 dX10_hasCroaked_39 (by decide) ?_
        exact ee_z C0 hI hr hlocks rfl hf dX10_hasCroaked_40
      · have hf := (if_neg c_2_4).symm.trans hf
        refine lv_aload_n C0.1 C0.2.1 dX10_hasCroaked_17 rfl (lv_at hl 0 rfl) ?_
        refine r_get (C := RX10) (T := TX10) (N9 := 20) (ci := 11) C0 C1 hI iX10 rfl 0 5 (Nat.le_of_ble_eq_true rfl) (by decide) ((fun _ => rfl) _) rfl rfl w_1696 dX10_hasCroaked_18 ?_
        refine lv_iload_n C0.1 C0.2.1 dX10_hasCroaked_21 rfl (lv_at hl 1 rfl) ?_
        refine lv_iload_n C0.1 C0.2.1 dX10_hasCroaked_22 rfl (lv_at hl 3 rfl) ?_
        obtain ⟨r_2_6, h_2_5, hf⟩ := ob_some hf
        refine k_i C1 hI (q_S C0 C1 hI (c_X10_croaked l g X b H.size n M x1_2 x3_2 h_2_5) w_2025 w_2026 w_132 w_2027 ⟨rfl, rfl⟩ hd_X10_croaked ⟨Nat.le_of_ble_eq_true rfl, Nat.le_of_ble_eq_true rfl⟩ rfl hl.1 rfl (Nat.le_of_ble_eq_true rfl) dX10_hasCroaked_23 ⟨Nat.le_of_ble_eq_true rfl, Nat.le_of_ble_eq_true rfl⟩) (fun H locs hI => ?_)
        obtain ⟨h_2_7, hf⟩ := chk_some hf
        refine r_iald C0 C1 hI 1 (Nat.le_of_ble_eq_true rfl) (fun _ => rfl) h_2_7 dX10_hasCroaked_26 ?_
        refine lv_iload_n C0.1 C0.2.1 dX10_hasCroaked_27 rfl (lv_at hl 2 rfl) ?_
        refine lv_icmp_ne (tgt := 33) C0.1 C0.2.1 dX10_hasCroaked_28 (by decide) (fun c_2_8 => ?_) (fun c_2_8 => ?_)
        · have hf := (if_neg c_2_8).symm.trans hf
          obtain ⟨x3_2_9, e_2_10⟩ : ∃ z : Int32, z = x3_2 + 1 := ⟨_, rfl⟩
          have hf := lt_at e_2_10 hf
          refine lv_iinc (v := x3_2_9) (lv' := [(3, .int x3_2_9), (0, .ref (b 0)), (1, .int x1_2), (2, .int x2_2)]) C0.1 C0.2.1 dX10_hasCroaked_33 hl (k := 3) rfl (by rw [e_2_10]; rfl) (by decide) rfl (fun ls hl => ?_)
          refine lv_goto (tgt := 2) C0.1 C0.2.1 dX10_hasCroaked_36 (by decide) ?_
          exact ih2 x1_2 x2_2 x3_2_9 hf H locs ls hI (lv_sub hl [1, 2, 3, 0] rfl)
        · have hf := (if_pos c_2_8).symm.trans hf
          refine lv_iconst (v := 1) C0.1 C0.2.1 dX10_hasCroaked_31 (by decide) ?_
          exact ee_z C0 hI hr hlocks rfl hf dX10_hasCroaked_32
  exact L2 n x1 x2 0 hf H locs ls hI (lv_sub hl [1, 2, 3, 0] rfl)

def F_X10_croaks (n : Nat) (x1 : Int32) (x2 : Int32) (x3 : Int32) (x4 : Int32) (M : Mem) : Option (Int32 × Mem) :=
  ob (F_X10_areThere n x1 x2 M) (fun r_2 => (if r_2 = 0 then ob2 (F_X10_fail n 1 M) (fun r_65 M_66 => some (r_65, M_66)) else ob (F_X10_isIn n x3 1 9 M) (fun r_5 => (if r_5 = 0 then ob2 (F_X10_fail n 2 M) (fun r_8 M_9 => some (r_8, M_9)) else ob (F_X10_isFor n x1 x2 M) (fun r_11 => (if r_11 = 0 then ob2 (F_X10_fail n 2 M) (fun r_62 M_63 => some (r_62, M_63)) else ob (F_X10_isDue n x1 M) (fun r_14 => (if r_14 = 0 then ob2 (F_X10_fail n 3 M) (fun r_59 M_60 => some (r_59, M_60)) else ob (F_X10_isOn n x2 M) (fun r_17 => (if r_17 = 0 then ob2 (F_X10_fail n 4 M) (fun r_20 M_21 => some (r_20, M_21)) else ob (F_X10_hasCroaked n x1 x2 M) (fun r_23 => (if r_23 = 0 then ob (F_X10_of n x1 7 M) (fun r_26 => chk (inb r_26 407) (ob (F_X10_croaked n x1 (M 1 (ix r_26)) M) (fun r_29 => chk (inb r_29 407) (lt' (up2 M 1 (ix r_29) x2) (fun M_33 => chk (inb (r_29 + 1) 407) (lt' (up2 M_33 1 (ix (r_29 + 1)) x3) (fun M_38 => chk (inb (r_29 + 2) 407) (lt' (up2 M_38 1 (ix (r_29 + 2)) x4) (fun M_43 => ob (F_X10_of n x1 7 M_43) (fun r_46 => chk (inb r_46 407) (chk (inb r_46 407) (lt' (up2 M_43 1 (ix r_46) ((M_43 1 (ix r_46)) + 1)) (fun M_51 => ob (F_X10_sum n x1 x4 M_51) (fun r_54 => some (r_54, M_51))))))))))))))) else ob2 (F_X10_fail n 4 M) (fun r_56 M_57 => some (r_56, M_57))))))))))))))
theorem hd_X10_croaks : yX10_croaks.cls ≠ "java/lang/invoke/MethodHandle" ∧ yX10_croaks.cls ≠ "java/lang/invoke/VarHandle" ∧ (parseMethodDescriptor yX10_croaks.desc).map (fun d => d.parameters.length) = some 4 := ⟨by decide +kernel, by decide +kernel, by decide +kernel⟩
set_option maxHeartbeats 4000000 in
set_option maxRecDepth 100000 in
theorem c_X10_croaks (l : Launch) (g : GG) (X : va_W) (b : Nat → Nat) (sz n : Nat) (M : Mem) (x1 : Int32) (x2 : Int32) (x3 : Int32) (x4 : Int32) {r0 : Int32} {M' : Mem} (hf : F_X10_croaks n x1 x2 x3 x4 M = some (r0, M')) : Met l yX10_croaks (.code yX10_croaks cX10_croaks 6 (some .int) :: LWg) (rmD 3 0 0) (va_Pc [.ref (b 0), .int x1, .int x2, .int x3, .int x4] (PreP g X 10 (shM g b) b sz M)) (Qi g X 10 (shM g b) b sz r0 M') 0 0 (AA X b 10 sz) := by
  refine met_go (by decide +kernel) rfl (Nat.le_of_ble_eq_true rfl) ?_
  intro p e s m below meth c ls H locs C0 C1 hr hlocks hnm hsz hl hI
  subst hsz
  have hl : lv_has ls 6 [(0, .ref (b 0)), (1, .int x1), (2, .int x2), (3, .int x3), (4, .int x4)] := hl
  unfold F_X10_croaks at hf
  refine lv_aload_n C0.1 C0.2.1 dX10_croaks_0 rfl (lv_at hl 0 rfl) ?_
  refine lv_iload_n C0.1 C0.2.1 dX10_croaks_1 rfl (lv_at hl 1 rfl) ?_
  refine lv_iload_n C0.1 C0.2.1 dX10_croaks_2 rfl (lv_at hl 2 rfl) ?_
  obtain ⟨r_2, h_1, hf⟩ := ob_some hf
  refine k_i C1 hI (q_V C0 C1 hI 0 (c_X10_areThere l g X b H.size n M x1 x2 h_1) w_1889 w_1891 w_85 w_132 w_1892 ⟨rfl, rfl⟩ hd_X10_areThere ⟨Nat.le_of_ble_eq_true rfl, Nat.le_of_ble_eq_true rfl⟩ (Nat.le_of_ble_eq_true rfl) ((fun _ => rfl) _) rfl rfl rfl hl.1 rfl (Nat.le_of_ble_eq_true rfl) dX10_croaks_3 ⟨Nat.le_of_ble_eq_true rfl, Nat.le_of_ble_eq_true rfl⟩) (fun H locs hI => ?_)
  refine lv_if_ne (tgt := 15) C0.1 C0.2.1 dX10_croaks_6 (by decide) (fun c_3 => ?_) (fun c_3 => ?_)
  · have hf := (if_neg c_3).symm.trans hf
    refine lv_iload_n C0.1 C0.2.1 dX10_croaks_15 rfl (lv_at hl 3 rfl) ?_
    refine lv_iconst (v := 1) C0.1 C0.2.1 dX10_croaks_16 (by decide) ?_
    refine lv_bipush (v := 9) C0.1 C0.2.1 dX10_croaks_17 (by decide) ?_
    obtain ⟨r_5, h_4, hf⟩ := ob_some hf
    refine k_i C1 hI (q_S C0 C1 hI (c_X10_isIn l g X b H.size n M x3 1 9 h_4) w_1771 w_1772 w_132 w_1773 ⟨rfl, rfl⟩ hd_X10_isIn ⟨Nat.le_of_ble_eq_true rfl, Nat.le_of_ble_eq_true rfl⟩ rfl hl.1 rfl (Nat.le_of_ble_eq_true rfl) dX10_croaks_19 ⟨Nat.le_of_ble_eq_true rfl, Nat.le_of_ble_eq_true rfl⟩) (fun H locs hI => ?_)
    refine lv_if_eq (tgt := 34) C0.1 C0.2.1 dX10_croaks_22 (by decide) (fun c_6 => ?_) (fun c_6 => ?_)
    · have hf := (if_pos c_6).symm.trans hf
      refine lv_aload_n C0.1 C0.2.1 dX10_croaks_34 rfl (lv_at hl 0 rfl) ?_
      refine lv_iconst (v := 2) C0.1 C0.2.1 dX10_croaks_35 (by decide) ?_
      obtain ⟨r_8, M_9, h_7, hf⟩ := ob2_some hf
      refine k_i C1 hI (q_V C0 C1 hI 0 (c_X10_fail l g X b H.size n M 2 h_7) w_1774 w_1776 w_72 w_132 w_1777 ⟨rfl, rfl⟩ hd_X10_fail ⟨Nat.le_of_ble_eq_true rfl, Nat.le_of_ble_eq_true rfl⟩ (Nat.le_of_ble_eq_true rfl) ((fun _ => rfl) _) rfl rfl rfl hl.1 rfl (Nat.le_of_ble_eq_true rfl) dX10_croaks_36 ⟨Nat.le_of_ble_eq_true rfl, Nat.le_of_ble_eq_true rfl⟩) (fun H locs hI => ?_)
      exact ee_im C0 hI hr hlocks hf dX10_croaks_39
    · have hf := (if_neg c_6).symm.trans hf
      refine lv_aload_n C0.1 C0.2.1 dX10_croaks_25 rfl (lv_at hl 0 rfl) ?_
      refine lv_iload_n C0.1 C0.2.1 dX10_croaks_26 rfl (lv_at hl 1 rfl) ?_
      refine lv_iload_n C0.1 C0.2.1 dX10_croaks_27 rfl (lv_at hl 2 rfl) ?_
      obtain ⟨r_11, h_10, hf⟩ := ob_some hf
      refine k_i C1 hI (q_V C0 C1 hI 0 (c_X10_isFor l g X b H.size n M x1 x2 h_10) w_1897 w_1899 w_87 w_132 w_1900 ⟨rfl, rfl⟩ hd_X10_isFor ⟨Nat.le_of_ble_eq_true rfl, Nat.le_of_ble_eq_true rfl⟩ (Nat.le_of_ble_eq_true rfl) ((fun _ => rfl) _) rfl rfl rfl hl.1 rfl (Nat.le_of_ble_eq_true rfl) dX10_croaks_28 ⟨Nat.le_of_ble_eq_true rfl, Nat.le_of_ble_eq_true rfl⟩) (fun H locs hI => ?_)
      refine lv_if_ne (tgt := 40) C0.1 C0.2.1 dX10_croaks_31 (by decide) (fun c_12 => ?_) (fun c_12 => ?_)
      · have hf := (if_neg c_12).symm.trans hf
        refine lv_aload_n C0.1 C0.2.1 dX10_croaks_40 rfl (lv_at hl 0 rfl) ?_
        refine lv_iload_n C0.1 C0.2.1 dX10_croaks_41 rfl (lv_at hl 1 rfl) ?_
        obtain ⟨r_14, h_13, hf⟩ := ob_some hf
        refine k_i C1 hI (q_V C0 C1 hI 0 (c_X10_isDue l g X b H.size n M x1 h_13) w_2017 w_2019 w_101 w_132 w_2020 ⟨rfl, rfl⟩ hd_X10_isDue ⟨Nat.le_of_ble_eq_true rfl, Nat.le_of_ble_eq_true rfl⟩ (Nat.le_of_ble_eq_true rfl) ((fun _ => rfl) _) rfl rfl rfl hl.1 rfl (Nat.le_of_ble_eq_true rfl) dX10_croaks_42 ⟨Nat.le_of_ble_eq_true rfl, Nat.le_of_ble_eq_true rfl⟩) (fun H locs hI => ?_)
        refine lv_if_ne (tgt := 54) C0.1 C0.2.1 dX10_croaks_45 (by decide) (fun c_15 => ?_) (fun c_15 => ?_)
        · have hf := (if_neg c_15).symm.trans hf
          refine lv_aload_n C0.1 C0.2.1 dX10_croaks_54 rfl (lv_at hl 0 rfl) ?_
          refine lv_iload_n C0.1 C0.2.1 dX10_croaks_55 rfl (lv_at hl 2 rfl) ?_
          obtain ⟨r_17, h_16, hf⟩ := ob_some hf
          refine k_i C1 hI (q_V C0 C1 hI 0 (c_X10_isOn l g X b H.size n M x2 h_16) w_1818 w_1820 w_80 w_132 w_1821 ⟨rfl, rfl⟩ hd_X10_isOn ⟨Nat.le_of_ble_eq_true rfl, Nat.le_of_ble_eq_true rfl⟩ (Nat.le_of_ble_eq_true rfl) ((fun _ => rfl) _) rfl rfl rfl hl.1 rfl (Nat.le_of_ble_eq_true rfl) dX10_croaks_56 ⟨Nat.le_of_ble_eq_true rfl, Nat.le_of_ble_eq_true rfl⟩) (fun H locs hI => ?_)
          refine lv_if_eq (tgt := 71) C0.1 C0.2.1 dX10_croaks_59 (by decide) (fun c_18 => ?_) (fun c_18 => ?_)
          · have hf := (if_pos c_18).symm.trans hf
            refine lv_aload_n C0.1 C0.2.1 dX10_croaks_71 rfl (lv_at hl 0 rfl) ?_
            refine lv_iconst (v := 4) C0.1 C0.2.1 dX10_croaks_72 (by decide) ?_
            obtain ⟨r_20, M_21, h_19, hf⟩ := ob2_some hf
            refine k_i C1 hI (q_V C0 C1 hI 0 (c_X10_fail l g X b H.size n M 4 h_19) w_1774 w_1776 w_72 w_132 w_1777 ⟨rfl, rfl⟩ hd_X10_fail ⟨Nat.le_of_ble_eq_true rfl, Nat.le_of_ble_eq_true rfl⟩ (Nat.le_of_ble_eq_true rfl) ((fun _ => rfl) _) rfl rfl rfl hl.1 rfl (Nat.le_of_ble_eq_true rfl) dX10_croaks_73 ⟨Nat.le_of_ble_eq_true rfl, Nat.le_of_ble_eq_true rfl⟩) (fun H locs hI => ?_)
            exact ee_im C0 hI hr hlocks hf dX10_croaks_76
          · have hf := (if_neg c_18).symm.trans hf
            refine lv_aload_n C0.1 C0.2.1 dX10_croaks_62 rfl (lv_at hl 0 rfl) ?_
            refine lv_iload_n C0.1 C0.2.1 dX10_croaks_63 rfl (lv_at hl 1 rfl) ?_
            refine lv_iload_n C0.1 C0.2.1 dX10_croaks_64 rfl (lv_at hl 2 rfl) ?_
            obtain ⟨r_23, h_22, hf⟩ := ob_some hf
            refine k_i C1 hI (q_V C0 C1 hI 0 (c_X10_hasCroaked l g X b H.size n M x1 x2 h_22) w_2021 w_2023 w_102 w_132 w_2024 ⟨rfl, rfl⟩ hd_X10_hasCroaked ⟨Nat.le_of_ble_eq_true rfl, Nat.le_of_ble_eq_true rfl⟩ (Nat.le_of_ble_eq_true rfl) ((fun _ => rfl) _) rfl rfl rfl hl.1 rfl (Nat.le_of_ble_eq_true rfl) dX10_croaks_65 ⟨Nat.le_of_ble_eq_true rfl, Nat.le_of_ble_eq_true rfl⟩) (fun H locs hI => ?_)
            refine lv_if_eq (tgt := 77) C0.1 C0.2.1 dX10_croaks_68 (by decide) (fun c_24 => ?_) (fun c_24 => ?_)
            · have hf := (if_pos c_24).symm.trans hf
              refine lv_iload_n C0.1 C0.2.1 dX10_croaks_77 rfl (lv_at hl 1 rfl) ?_
              refine lv_aload_n C0.1 C0.2.1 dX10_croaks_78 rfl (lv_at hl 0 rfl) ?_
              refine r_get (C := RX10) (T := TX10) (N9 := 20) (ci := 11) C0 C1 hI iX10 rfl 0 5 (Nat.le_of_ble_eq_true rfl) (by decide) ((fun _ => rfl) _) rfl rfl w_1696 dX10_croaks_79 ?_
              refine lv_iload_n C0.1 C0.2.1 dX10_croaks_82 rfl (lv_at hl 1 rfl) ?_
              refine lv_bipush (v := 7) C0.1 C0.2.1 dX10_croaks_83 (by decide) ?_
              obtain ⟨r_26, h_25, hf⟩ := ob_some hf
              refine k_i C1 hI (q_S C0 C1 hI (c_X10_of l g X b H.size n M x1 7 h_25) w_1878 w_1879 w_132 w_1880 ⟨rfl, rfl⟩ hd_X10_of ⟨Nat.le_of_ble_eq_true rfl, Nat.le_of_ble_eq_true rfl⟩ rfl hl.1 rfl (Nat.le_of_ble_eq_true rfl) dX10_croaks_85 ⟨Nat.le_of_ble_eq_true rfl, Nat.le_of_ble_eq_true rfl⟩) (fun H locs hI => ?_)
              obtain ⟨h_27, hf⟩ := chk_some hf
              refine r_iald C0 C1 hI 1 (Nat.le_of_ble_eq_true rfl) (fun _ => rfl) h_27 dX10_croaks_88 ?_
              obtain ⟨r_29, h_28, hf⟩ := ob_some hf
              refine k_i C1 hI (q_S C0 C1 hI (c_X10_croaked l g X b H.size n M x1 (M 1 (ix r_26)) h_28) w_2025 w_2026 w_132 w_2027 ⟨rfl, rfl⟩ hd_X10_croaked ⟨Nat.le_of_ble_eq_true rfl, Nat.le_of_ble_eq_true rfl⟩ rfl hl.1 rfl (Nat.le_of_ble_eq_true rfl) dX10_croaks_89 ⟨Nat.le_of_ble_eq_true rfl, Nat.le_of_ble_eq_true rfl⟩) (fun H locs hI => ?_)
              refine lv_istore (lv' := [(5, .int r_29), (0, .ref (b 0)), (1, .int x1), (2, .int x2), (3, .int x3), (4, .int x4)]) C0.1 C0.2.1 dX10_croaks_92 hl (by decide) rfl (fun ls hl => ?_)
              refine lv_aload_n C0.1 C0.2.1 dX10_croaks_94 rfl (lv_at hl 1 rfl) ?_
              refine r_get (C := RX10) (T := TX10) (N9 := 20) (ci := 11) C0 C1 hI iX10 rfl 0 5 (Nat.le_of_ble_eq_true rfl) (by decide) ((fun _ => rfl) _) rfl rfl w_1696 dX10_croaks_95 ?_
              refine lv_iload C0.1 C0.2.1 dX10_croaks_98 (lv_at hl 0 rfl) ?_
              refine lv_iload_n C0.1 C0.2.1 dX10_croaks_100 rfl (lv_at hl 3 rfl) ?_
              obtain ⟨h_30, hf⟩ := chk_some hf
              refine r_iast C0 C1 hI 1 (Nat.le_of_ble_eq_true rfl) (fun _ => rfl) h_30 dX10_croaks_101 (fun H locs hI => ?_)
              obtain ⟨M_33, e_34⟩ : ∃ z : Mem, z = up2 M 1 (ix r_29) x2 := ⟨_, rfl⟩
              rw [← e_34] at hI
              have hf := lt_at e_34 hf
              refine lv_aload_n C0.1 C0.2.1 dX10_croaks_102 rfl (lv_at hl 1 rfl) ?_
              refine r_get (C := RX10) (T := TX10) (N9 := 20) (ci := 11) C0 C1 hI iX10 rfl 0 5 (Nat.le_of_ble_eq_true rfl) (by decide) ((fun _ => rfl) _) rfl rfl w_1696 dX10_croaks_103 ?_
              refine lv_iload C0.1 C0.2.1 dX10_croaks_106 (lv_at hl 0 rfl) ?_
              refine lv_iconst (v := 1) C0.1 C0.2.1 dX10_croaks_108 (by decide) ?_
              refine lv_iadd C0.1 C0.2.1 dX10_croaks_109 ?_
              refine lv_iload_n C0.1 C0.2.1 dX10_croaks_110 rfl (lv_at hl 4 rfl) ?_
              obtain ⟨h_35, hf⟩ := chk_some hf
              refine r_iast C0 C1 hI 1 (Nat.le_of_ble_eq_true rfl) (fun _ => rfl) h_35 dX10_croaks_111 (fun H locs hI => ?_)
              obtain ⟨M_38, e_39⟩ : ∃ z : Mem, z = up2 M_33 1 (ix (r_29 + 1)) x3 := ⟨_, rfl⟩
              rw [← e_39] at hI
              have hf := lt_at e_39 hf
              refine lv_aload_n C0.1 C0.2.1 dX10_croaks_112 rfl (lv_at hl 1 rfl) ?_
              refine r_get (C := RX10) (T := TX10) (N9 := 20) (ci := 11) C0 C1 hI iX10 rfl 0 5 (Nat.le_of_ble_eq_true rfl) (by decide) ((fun _ => rfl) _) rfl rfl w_1696 dX10_croaks_113 ?_
              refine lv_iload C0.1 C0.2.1 dX10_croaks_116 (lv_at hl 0 rfl) ?_
              refine lv_iconst (v := 2) C0.1 C0.2.1 dX10_croaks_118 (by decide) ?_
              refine lv_iadd C0.1 C0.2.1 dX10_croaks_119 ?_
              refine lv_iload C0.1 C0.2.1 dX10_croaks_120 (lv_at hl 5 rfl) ?_
              obtain ⟨h_40, hf⟩ := chk_some hf
              refine r_iast C0 C1 hI 1 (Nat.le_of_ble_eq_true rfl) (fun _ => rfl) h_40 dX10_croaks_122 (fun H locs hI => ?_)
              obtain ⟨M_43, e_44⟩ : ∃ z : Mem, z = up2 M_38 1 (ix (r_29 + 2)) x4 := ⟨_, rfl⟩
              rw [← e_44] at hI
              have hf := lt_at e_44 hf
              refine lv_aload_n C0.1 C0.2.1 dX10_croaks_123 rfl (lv_at hl 1 rfl) ?_
              refine r_get (C := RX10) (T := TX10) (N9 := 20) (ci := 11) C0 C1 hI iX10 rfl 0 5 (Nat.le_of_ble_eq_true rfl) (by decide) ((fun _ => rfl) _) rfl rfl w_1696 dX10_croaks_124 ?_
              refine lv_iload_n C0.1 C0.2.1 dX10_croaks_127 rfl (lv_at hl 2 rfl) ?_
              refine lv_bipush (v := 7) C0.1 C0.2.1 dX10_croaks_128 (by decide) ?_
              obtain ⟨r_46, h_45, hf⟩ := ob_some hf
              refine k_i C1 hI (q_S C0 C1 hI (c_X10_of l g X b H.size n M_43 x1 7 h_45) w_1878 w_1879 w_132 w_1880 ⟨rfl, rfl⟩ hd_X10_of ⟨Nat.le_of_ble_eq_true rfl, Nat.le_of_ble_eq_true rfl⟩ rfl hl.1 rfl (Nat.le_of_ble_eq_true rfl) dX10_croaks_130 ⟨Nat.le_of_ble_eq_true rfl, Nat.le_of_ble_eq_true rfl⟩) (fun H locs hI => ?_)
              refine lv_dup2_11 C0.1 C0.2.1 dX10_croaks_133 rfl rfl ?_
              obtain ⟨h_47, hf⟩ := chk_some hf
              refine r_iald C0 C1 hI 1 (Nat.le_of_ble_eq_true rfl) (fun _ => rfl) h_47 dX10_croaks_134 ?_
              refine lv_iconst (v := 1) C0.1 C0.2.1 dX10_croaks_135 (by decide) ?_
              refine lv_iadd C0.1 C0.2.1 dX10_croaks_136 ?_
              obtain ⟨h_48, hf⟩ := chk_some hf
              refine r_iast C0 C1 hI 1 (Nat.le_of_ble_eq_true rfl) (fun _ => rfl) h_48 dX10_croaks_137 (fun H locs hI => ?_)
              obtain ⟨M_51, e_52⟩ : ∃ z : Mem, z = up2 M_43 1 (ix r_46) ((M_43 1 (ix r_46)) + 1) := ⟨_, rfl⟩
              rw [← e_52] at hI
              have hf := lt_at e_52 hf
              refine lv_aload_n C0.1 C0.2.1 dX10_croaks_138 rfl (lv_at hl 1 rfl) ?_
              refine lv_iload_n C0.1 C0.2.1 dX10_croaks_139 rfl (lv_at hl 2 rfl) ?_
              refine lv_iload C0.1 C0.2.1 dX10_croaks_140 (lv_at hl 5 rfl) ?_
              obtain ⟨r_54, h_53, hf⟩ := ob_some hf
              refine k_i C1 hI (q_V C0 C1 hI 0 (c_X10_sum l g X b H.size n M_51 x1 x4 h_53) w_2028 w_2030 w_103 w_132 w_2031 ⟨rfl, rfl⟩ hd_X10_sum ⟨Nat.le_of_ble_eq_true rfl, Nat.le_of_ble_eq_true rfl⟩ (Nat.le_of_ble_eq_true rfl) ((fun _ => rfl) _) rfl rfl rfl hl.1 rfl (Nat.le_of_ble_eq_true rfl) dX10_croaks_142 ⟨Nat.le_of_ble_eq_true rfl, Nat.le_of_ble_eq_true rfl⟩) (fun H locs hI => ?_)
              exact ee_im C0 hI hr hlocks hf dX10_croaks_145
            · have hf := (if_neg c_24).symm.trans hf
              refine lv_aload_n C0.1 C0.2.1 dX10_croaks_71 rfl (lv_at hl 0 rfl) ?_
              refine lv_iconst (v := 4) C0.1 C0.2.1 dX10_croaks_72 (by decide) ?_
              obtain ⟨r_56, M_57, h_55, hf⟩ := ob2_some hf
              refine k_i C1 hI (q_V C0 C1 hI 0 (c_X10_fail l g X b H.size n M 4 h_55) w_1774 w_1776 w_72 w_132 w_1777 ⟨rfl, rfl⟩ hd_X10_fail ⟨Nat.le_of_ble_eq_true rfl, Nat.le_of_ble_eq_true rfl⟩ (Nat.le_of_ble_eq_true rfl) ((fun _ => rfl) _) rfl rfl rfl hl.1 rfl (Nat.le_of_ble_eq_true rfl) dX10_croaks_73 ⟨Nat.le_of_ble_eq_true rfl, Nat.le_of_ble_eq_true rfl⟩) (fun H locs hI => ?_)
              exact ee_im C0 hI hr hlocks hf dX10_croaks_76
        · have hf := (if_pos c_15).symm.trans hf
          refine lv_aload_n C0.1 C0.2.1 dX10_croaks_48 rfl (lv_at hl 0 rfl) ?_
          refine lv_iconst (v := 3) C0.1 C0.2.1 dX10_croaks_49 (by decide) ?_
          obtain ⟨r_59, M_60, h_58, hf⟩ := ob2_some hf
          refine k_i C1 hI (q_V C0 C1 hI 0 (c_X10_fail l g X b H.size n M 3 h_58) w_1774 w_1776 w_72 w_132 w_1777 ⟨rfl, rfl⟩ hd_X10_fail ⟨Nat.le_of_ble_eq_true rfl, Nat.le_of_ble_eq_true rfl⟩ (Nat.le_of_ble_eq_true rfl) ((fun _ => rfl) _) rfl rfl rfl hl.1 rfl (Nat.le_of_ble_eq_true rfl) dX10_croaks_50 ⟨Nat.le_of_ble_eq_true rfl, Nat.le_of_ble_eq_true rfl⟩) (fun H locs hI => ?_)
          exact ee_im C0 hI hr hlocks hf dX10_croaks_53
      · have hf := (if_pos c_12).symm.trans hf
        refine lv_aload_n C0.1 C0.2.1 dX10_croaks_34 rfl (lv_at hl 0 rfl) ?_
        refine lv_iconst (v := 2) C0.1 C0.2.1 dX10_croaks_35 (by decide) ?_
        obtain ⟨r_62, M_63, h_61, hf⟩ := ob2_some hf
        refine k_i C1 hI (q_V C0 C1 hI 0 (c_X10_fail l g X b H.size n M 2 h_61) w_1774 w_1776 w_72 w_132 w_1777 ⟨rfl, rfl⟩ hd_X10_fail ⟨Nat.le_of_ble_eq_true rfl, Nat.le_of_ble_eq_true rfl⟩ (Nat.le_of_ble_eq_true rfl) ((fun _ => rfl) _) rfl rfl rfl hl.1 rfl (Nat.le_of_ble_eq_true rfl) dX10_croaks_36 ⟨Nat.le_of_ble_eq_true rfl, Nat.le_of_ble_eq_true rfl⟩) (fun H locs hI => ?_)
        exact ee_im C0 hI hr hlocks hf dX10_croaks_39
  · have hf := (if_pos c_3).symm.trans hf
    refine lv_aload_n C0.1 C0.2.1 dX10_croaks_9 rfl (lv_at hl 0 rfl) ?_
    refine lv_iconst (v := 1) C0.1 C0.2.1 dX10_croaks_10 (by decide) ?_
    obtain ⟨r_65, M_66, h_64, hf⟩ := ob2_some hf
    refine k_i C1 hI (q_V C0 C1 hI 0 (c_X10_fail l g X b H.size n M 1 h_64) w_1774 w_1776 w_72 w_132 w_1777 ⟨rfl, rfl⟩ hd_X10_fail ⟨Nat.le_of_ble_eq_true rfl, Nat.le_of_ble_eq_true rfl⟩ (Nat.le_of_ble_eq_true rfl) ((fun _ => rfl) _) rfl rfl rfl hl.1 rfl (Nat.le_of_ble_eq_true rfl) dX10_croaks_11 ⟨Nat.le_of_ble_eq_true rfl, Nat.le_of_ble_eq_true rfl⟩) (fun H locs hI => ?_)
    exact ee_im C0 hI hr hlocks hf dX10_croaks_14

def F_X10_croak (n : Nat) (x1 : Int32) (x2 : Int32) (x3 : Int32) (x4 : Int32) (M : Mem) : Option (Int32 × Mem) :=
  ob (F_X10_begins n M) (fun M_2 => (if x4 = 0 then ob2 (F_X10_croaks n x1 x2 x3 0 M_2) (fun r_5 M_6 => ob2 (F_X10_ends n r_5 M_6) (fun r_8 M_9 => some (r_8, M_9))) else ob2 (F_X10_croaks n x1 x2 x3 1 M_2) (fun r_11 M_12 => ob2 (F_X10_ends n r_11 M_12) (fun r_14 M_15 => some (r_14, M_15)))))
theorem hd_X10_croak : yX10_croak.cls ≠ "java/lang/invoke/MethodHandle" ∧ yX10_croak.cls ≠ "java/lang/invoke/VarHandle" ∧ (parseMethodDescriptor yX10_croak.desc).map (fun d => d.parameters.length) = some 4 := ⟨by decide +kernel, by decide +kernel, by decide +kernel⟩
set_option maxHeartbeats 4000000 in
set_option maxRecDepth 100000 in
theorem c_X10_croak (l : Launch) (g : GG) (X : va_W) (b : Nat → Nat) (sz n : Nat) (M : Mem) (x1 : Int32) (x2 : Int32) (x3 : Int32) (x4 : Int32) {r0 : Int32} {M' : Mem} (hf : F_X10_croak n x1 x2 x3 x4 M = some (r0, M')) : Met l yX10_croak (.code yX10_croak cX10_croak 5 (some .int) :: LWg) (rmD 4 0 0) (va_Pc [.ref (b 0), .int x1, .int x2, .int x3, .int x4] (PreP g X 10 (shM g b) b sz M)) (Qi g X 10 (shM g b) b sz r0 M') 0 0 (AA X b 10 sz) := by
  refine met_go (by decide +kernel) rfl (Nat.le_of_ble_eq_true rfl) ?_
  intro p e s m below meth c ls H locs C0 C1 hr hlocks hnm hsz hl hI
  subst hsz
  have hl : lv_has ls 5 [(0, .ref (b 0)), (1, .int x1), (2, .int x2), (3, .int x3), (4, .int x4)] := hl
  unfold F_X10_croak at hf
  refine lv_aload_n C0.1 C0.2.1 dX10_croak_0 rfl (lv_at hl 0 rfl) ?_
  obtain ⟨M_2, h_1, hf⟩ := ob_some hf
  refine k_v C1 hI (q_V C0 C1 hI 0 (c_X10_begins l g X b H.size n M h_1) w_1760 w_1762 w_70 w_132 w_1763 ⟨rfl, rfl⟩ hd_X10_begins ⟨Nat.le_of_ble_eq_true rfl, Nat.le_of_ble_eq_true rfl⟩ (Nat.le_of_ble_eq_true rfl) ((fun _ => rfl) _) rfl rfl rfl hl.1 rfl (Nat.le_of_ble_eq_true rfl) dX10_croak_1 ⟨Nat.le_of_ble_eq_true rfl, Nat.le_of_ble_eq_true rfl⟩) (fun H locs hI => ?_)
  refine lv_aload_n C0.1 C0.2.1 dX10_croak_4 rfl (lv_at hl 0 rfl) ?_
  refine lv_aload_n C0.1 C0.2.1 dX10_croak_5 rfl (lv_at hl 0 rfl) ?_
  refine lv_iload_n C0.1 C0.2.1 dX10_croak_6 rfl (lv_at hl 1 rfl) ?_
  refine lv_iload_n C0.1 C0.2.1 dX10_croak_7 rfl (lv_at hl 2 rfl) ?_
  refine lv_iload_n C0.1 C0.2.1 dX10_croak_8 rfl (lv_at hl 3 rfl) ?_
  refine lv_iload C0.1 C0.2.1 dX10_croak_9 (lv_at hl 4 rfl) ?_
  refine lv_if_eq (tgt := 18) C0.1 C0.2.1 dX10_croak_11 (by decide) (fun c_3 => ?_) (fun c_3 => ?_)
  · have hf := (if_pos c_3).symm.trans hf
    refine lv_iconst (v := 0) C0.1 C0.2.1 dX10_croak_18 (by decide) ?_
    obtain ⟨r_5, M_6, h_4, hf⟩ := ob2_some hf
    refine k_i C1 hI (q_V C0 C1 hI 0 (c_X10_croaks l g X b H.size n M_2 x1 x2 x3 0 h_4) w_2013 w_2015 w_100 w_132 w_2016 ⟨rfl, rfl⟩ hd_X10_croaks ⟨Nat.le_of_ble_eq_true rfl, Nat.le_of_ble_eq_true rfl⟩ (Nat.le_of_ble_eq_true rfl) ((fun _ => rfl) _) rfl rfl rfl hl.1 rfl (Nat.le_of_ble_eq_true rfl) dX10_croak_19 ⟨Nat.le_of_ble_eq_true rfl, Nat.le_of_ble_eq_true rfl⟩) (fun H locs hI => ?_)
    obtain ⟨r_8, M_9, h_7, hf⟩ := ob2_some hf
    refine k_i C1 hI (q_V C0 C1 hI 0 (c_X10_ends l g X b H.size n M_6 r_5 h_7) w_1778 w_1780 w_73 w_132 w_1781 ⟨rfl, rfl⟩ hd_X10_ends ⟨Nat.le_of_ble_eq_true rfl, Nat.le_of_ble_eq_true rfl⟩ (Nat.le_of_ble_eq_true rfl) ((fun _ => rfl) _) rfl rfl rfl hl.1 rfl (Nat.le_of_ble_eq_true rfl) dX10_croak_22 ⟨Nat.le_of_ble_eq_true rfl, Nat.le_of_ble_eq_true rfl⟩) (fun H locs hI => ?_)
    exact ee_im C0 hI hr hlocks hf dX10_croak_25
  · have hf := (if_neg c_3).symm.trans hf
    refine lv_iconst (v := 1) C0.1 C0.2.1 dX10_croak_14 (by decide) ?_
    refine lv_goto (tgt := 19) C0.1 C0.2.1 dX10_croak_15 (by decide) ?_
    obtain ⟨r_11, M_12, h_10, hf⟩ := ob2_some hf
    refine k_i C1 hI (q_V C0 C1 hI 0 (c_X10_croaks l g X b H.size n M_2 x1 x2 x3 1 h_10) w_2013 w_2015 w_100 w_132 w_2016 ⟨rfl, rfl⟩ hd_X10_croaks ⟨Nat.le_of_ble_eq_true rfl, Nat.le_of_ble_eq_true rfl⟩ (Nat.le_of_ble_eq_true rfl) ((fun _ => rfl) _) rfl rfl rfl hl.1 rfl (Nat.le_of_ble_eq_true rfl) dX10_croak_19 ⟨Nat.le_of_ble_eq_true rfl, Nat.le_of_ble_eq_true rfl⟩) (fun H locs hI => ?_)
    obtain ⟨r_14, M_15, h_13, hf⟩ := ob2_some hf
    refine k_i C1 hI (q_V C0 C1 hI 0 (c_X10_ends l g X b H.size n M_12 r_11 h_13) w_1778 w_1780 w_73 w_132 w_1781 ⟨rfl, rfl⟩ hd_X10_ends ⟨Nat.le_of_ble_eq_true rfl, Nat.le_of_ble_eq_true rfl⟩ (Nat.le_of_ble_eq_true rfl) ((fun _ => rfl) _) rfl rfl rfl hl.1 rfl (Nat.le_of_ble_eq_true rfl) dX10_croak_22 ⟨Nat.le_of_ble_eq_true rfl, Nat.le_of_ble_eq_true rfl⟩) (fun H locs hI => ?_)
    exact ee_im C0 hI hr hlocks hf dX10_croak_25

def F_X10_decides (n : Nat) (x1 : Int32) (M : Mem) : Option (Int32 × Mem) :=
  ob (F_X10_isMotion n x1 M) (fun r_2 => (if r_2 = 0 then ob2 (F_X10_fail n 1 M) (fun r_41 M_42 => some (r_41, M_42)) else ob (F_X10_isDue n x1 M) (fun r_5 => (if r_5 = 0 then ob2 (F_X10_fail n 2 M) (fun r_38 M_39 => some (r_38, M_39)) else ob (F_X10_of n x1 2 M) (fun r_8 => chk (inb r_8 407) (lt' (up2 M 1 (ix r_8) 1) (fun M_12 => ob (F_X10_of n x1 3 M_12) (fun r_15 => ob (F_X10_sum n x1 1 M_12) (fun r_17 => ob (F_X10_sum n x1 0 M_12) (fun r_19 => (if r_17 ≤ r_19 then chk (inb r_15 407) (lt' (up2 M_12 1 (ix r_15) 0) (fun M_24 => ob (F_X10_of n x1 3 M_24) (fun r_27 => chk (inb r_27 407) (some (M_24 1 (ix r_27), M_24))))) else chk (inb r_15 407) (lt' (up2 M_12 1 (ix r_15) 1) (fun M_32 => ob (F_X10_of n x1 3 M_32) (fun r_35 => chk (inb r_35 407) (some (M_32 1 (ix r_35), M_32))))))))))))))))
theorem hd_X10_decides : yX10_decides.cls ≠ "java/lang/invoke/MethodHandle" ∧ yX10_decides.cls ≠ "java/lang/invoke/VarHandle" ∧ (parseMethodDescriptor yX10_decides.desc).map (fun d => d.parameters.length) = some 1 := ⟨by decide +kernel, by decide +kernel, by decide +kernel⟩
set_option maxHeartbeats 4000000 in
set_option maxRecDepth 100000 in
theorem c_X10_decides (l : Launch) (g : GG) (X : va_W) (b : Nat → Nat) (sz n : Nat) (M : Mem) (x1 : Int32) {r0 : Int32} {M' : Mem} (hf : F_X10_decides n x1 M = some (r0, M')) : Met l yX10_decides (.code yX10_decides cX10_decides 2 (some .int) :: LWg) (rmD 3 0 0) (va_Pc [.ref (b 0), .int x1] (PreP g X 10 (shM g b) b sz M)) (Qi g X 10 (shM g b) b sz r0 M') 0 0 (AA X b 10 sz) := by
  refine met_go (by decide +kernel) rfl (Nat.le_of_ble_eq_true rfl) ?_
  intro p e s m below meth c ls H locs C0 C1 hr hlocks hnm hsz hl hI
  subst hsz
  have hl : lv_has ls 2 [(0, .ref (b 0)), (1, .int x1)] := hl
  unfold F_X10_decides at hf
  refine lv_aload_n C0.1 C0.2.1 dX10_decides_0 rfl (lv_at hl 0 rfl) ?_
  refine lv_iload_n C0.1 C0.2.1 dX10_decides_1 rfl (lv_at hl 1 rfl) ?_
  obtain ⟨r_2, h_1, hf⟩ := ob_some hf
  refine k_i C1 hI (q_V C0 C1 hI 0 (c_X10_isMotion l g X b H.size n M x1 h_1) w_1893 w_1895 w_86 w_132 w_1896 ⟨rfl, rfl⟩ hd_X10_isMotion ⟨Nat.le_of_ble_eq_true rfl, Nat.le_of_ble_eq_true rfl⟩ (Nat.le_of_ble_eq_true rfl) ((fun _ => rfl) _) rfl rfl rfl hl.1 rfl (Nat.le_of_ble_eq_true rfl) dX10_decides_2 ⟨Nat.le_of_ble_eq_true rfl, Nat.le_of_ble_eq_true rfl⟩) (fun H locs hI => ?_)
  refine lv_if_ne (tgt := 14) C0.1 C0.2.1 dX10_decides_5 (by decide) (fun c_3 => ?_) (fun c_3 => ?_)
  · have hf := (if_neg c_3).symm.trans hf
    refine lv_aload_n C0.1 C0.2.1 dX10_decides_14 rfl (lv_at hl 0 rfl) ?_
    refine lv_iload_n C0.1 C0.2.1 dX10_decides_15 rfl (lv_at hl 1 rfl) ?_
    obtain ⟨r_5, h_4, hf⟩ := ob_some hf
    refine k_i C1 hI (q_V C0 C1 hI 0 (c_X10_isDue l g X b H.size n M x1 h_4) w_2017 w_2019 w_101 w_132 w_2020 ⟨rfl, rfl⟩ hd_X10_isDue ⟨Nat.le_of_ble_eq_true rfl, Nat.le_of_ble_eq_true rfl⟩ (Nat.le_of_ble_eq_true rfl) ((fun _ => rfl) _) rfl rfl rfl hl.1 rfl (Nat.le_of_ble_eq_true rfl) dX10_decides_16 ⟨Nat.le_of_ble_eq_true rfl, Nat.le_of_ble_eq_true rfl⟩) (fun H locs hI => ?_)
    refine lv_if_ne (tgt := 28) C0.1 C0.2.1 dX10_decides_19 (by decide) (fun c_6 => ?_) (fun c_6 => ?_)
    · have hf := (if_neg c_6).symm.trans hf
      refine lv_aload_n C0.1 C0.2.1 dX10_decides_28 rfl (lv_at hl 0 rfl) ?_
      refine r_get (C := RX10) (T := TX10) (N9 := 20) (ci := 11) C0 C1 hI iX10 rfl 0 5 (Nat.le_of_ble_eq_true rfl) (by decide) ((fun _ => rfl) _) rfl rfl w_1696 dX10_decides_29 ?_
      refine lv_iload_n C0.1 C0.2.1 dX10_decides_32 rfl (lv_at hl 1 rfl) ?_
      refine lv_iconst (v := 2) C0.1 C0.2.1 dX10_decides_33 (by decide) ?_
      obtain ⟨r_8, h_7, hf⟩ := ob_some hf
      refine k_i C1 hI (q_S C0 C1 hI (c_X10_of l g X b H.size n M x1 2 h_7) w_1878 w_1879 w_132 w_1880 ⟨rfl, rfl⟩ hd_X10_of ⟨Nat.le_of_ble_eq_true rfl, Nat.le_of_ble_eq_true rfl⟩ rfl hl.1 rfl (Nat.le_of_ble_eq_true rfl) dX10_decides_34 ⟨Nat.le_of_ble_eq_true rfl, Nat.le_of_ble_eq_true rfl⟩) (fun H locs hI => ?_)
      refine lv_iconst (v := 1) C0.1 C0.2.1 dX10_decides_37 (by decide) ?_
      obtain ⟨h_9, hf⟩ := chk_some hf
      refine r_iast C0 C1 hI 1 (Nat.le_of_ble_eq_true rfl) (fun _ => rfl) h_9 dX10_decides_38 (fun H locs hI => ?_)
      obtain ⟨M_12, e_13⟩ : ∃ z : Mem, z = up2 M 1 (ix r_8) 1 := ⟨_, rfl⟩
      rw [← e_13] at hI
      have hf := lt_at e_13 hf
      refine lv_aload_n C0.1 C0.2.1 dX10_decides_39 rfl (lv_at hl 0 rfl) ?_
      refine r_get (C := RX10) (T := TX10) (N9 := 20) (ci := 11) C0 C1 hI iX10 rfl 0 5 (Nat.le_of_ble_eq_true rfl) (by decide) ((fun _ => rfl) _) rfl rfl w_1696 dX10_decides_40 ?_
      refine lv_iload_n C0.1 C0.2.1 dX10_decides_43 rfl (lv_at hl 1 rfl) ?_
      refine lv_iconst (v := 3) C0.1 C0.2.1 dX10_decides_44 (by decide) ?_
      obtain ⟨r_15, h_14, hf⟩ := ob_some hf
      refine k_i C1 hI (q_S C0 C1 hI (c_X10_of l g X b H.size n M_12 x1 3 h_14) w_1878 w_1879 w_132 w_1880 ⟨rfl, rfl⟩ hd_X10_of ⟨Nat.le_of_ble_eq_true rfl, Nat.le_of_ble_eq_true rfl⟩ rfl hl.1 rfl (Nat.le_of_ble_eq_true rfl) dX10_decides_45 ⟨Nat.le_of_ble_eq_true rfl, Nat.le_of_ble_eq_true rfl⟩) (fun H locs hI => ?_)
      refine lv_aload_n C0.1 C0.2.1 dX10_decides_48 rfl (lv_at hl 0 rfl) ?_
      refine lv_iload_n C0.1 C0.2.1 dX10_decides_49 rfl (lv_at hl 1 rfl) ?_
      refine lv_iconst (v := 1) C0.1 C0.2.1 dX10_decides_50 (by decide) ?_
      obtain ⟨r_17, h_16, hf⟩ := ob_some hf
      refine k_i C1 hI (q_V C0 C1 hI 0 (c_X10_sum l g X b H.size n M_12 x1 1 h_16) w_2028 w_2030 w_103 w_132 w_2031 ⟨rfl, rfl⟩ hd_X10_sum ⟨Nat.le_of_ble_eq_true rfl, Nat.le_of_ble_eq_true rfl⟩ (Nat.le_of_ble_eq_true rfl) ((fun _ => rfl) _) rfl rfl rfl hl.1 rfl (Nat.le_of_ble_eq_true rfl) dX10_decides_51 ⟨Nat.le_of_ble_eq_true rfl, Nat.le_of_ble_eq_true rfl⟩) (fun H locs hI => ?_)
      refine lv_aload_n C0.1 C0.2.1 dX10_decides_54 rfl (lv_at hl 0 rfl) ?_
      refine lv_iload_n C0.1 C0.2.1 dX10_decides_55 rfl (lv_at hl 1 rfl) ?_
      refine lv_iconst (v := 0) C0.1 C0.2.1 dX10_decides_56 (by decide) ?_
      obtain ⟨r_19, h_18, hf⟩ := ob_some hf
      refine k_i C1 hI (q_V C0 C1 hI 0 (c_X10_sum l g X b H.size n M_12 x1 0 h_18) w_2028 w_2030 w_103 w_132 w_2031 ⟨rfl, rfl⟩ hd_X10_sum ⟨Nat.le_of_ble_eq_true rfl, Nat.le_of_ble_eq_true rfl⟩ (Nat.le_of_ble_eq_true rfl) ((fun _ => rfl) _) rfl rfl rfl hl.1 rfl (Nat.le_of_ble_eq_true rfl) dX10_decides_57 ⟨Nat.le_of_ble_eq_true rfl, Nat.le_of_ble_eq_true rfl⟩) (fun H locs hI => ?_)
      refine lv_icmp_le (tgt := 67) C0.1 C0.2.1 dX10_decides_60 (by decide) (fun c_20 => ?_) (fun c_20 => ?_)
      · have hf := (if_pos c_20).symm.trans hf
        refine lv_iconst (v := 0) C0.1 C0.2.1 dX10_decides_67 (by decide) ?_
        obtain ⟨h_21, hf⟩ := chk_some hf
        refine r_iast C0 C1 hI 1 (Nat.le_of_ble_eq_true rfl) (fun _ => rfl) h_21 dX10_decides_68 (fun H locs hI => ?_)
        obtain ⟨M_24, e_25⟩ : ∃ z : Mem, z = up2 M_12 1 (ix r_15) 0 := ⟨_, rfl⟩
        rw [← e_25] at hI
        have hf := lt_at e_25 hf
        refine lv_aload_n C0.1 C0.2.1 dX10_decides_69 rfl (lv_at hl 0 rfl) ?_
        refine r_get (C := RX10) (T := TX10) (N9 := 20) (ci := 11) C0 C1 hI iX10 rfl 0 5 (Nat.le_of_ble_eq_true rfl) (by decide) ((fun _ => rfl) _) rfl rfl w_1696 dX10_decides_70 ?_
        refine lv_iload_n C0.1 C0.2.1 dX10_decides_73 rfl (lv_at hl 1 rfl) ?_
        refine lv_iconst (v := 3) C0.1 C0.2.1 dX10_decides_74 (by decide) ?_
        obtain ⟨r_27, h_26, hf⟩ := ob_some hf
        refine k_i C1 hI (q_S C0 C1 hI (c_X10_of l g X b H.size n M_24 x1 3 h_26) w_1878 w_1879 w_132 w_1880 ⟨rfl, rfl⟩ hd_X10_of ⟨Nat.le_of_ble_eq_true rfl, Nat.le_of_ble_eq_true rfl⟩ rfl hl.1 rfl (Nat.le_of_ble_eq_true rfl) dX10_decides_75 ⟨Nat.le_of_ble_eq_true rfl, Nat.le_of_ble_eq_true rfl⟩) (fun H locs hI => ?_)
        obtain ⟨h_28, hf⟩ := chk_some hf
        refine r_iald C0 C1 hI 1 (Nat.le_of_ble_eq_true rfl) (fun _ => rfl) h_28 dX10_decides_78 ?_
        exact ee_im C0 hI hr hlocks hf dX10_decides_79
      · have hf := (if_neg c_20).symm.trans hf
        refine lv_iconst (v := 1) C0.1 C0.2.1 dX10_decides_63 (by decide) ?_
        refine lv_goto (tgt := 68) C0.1 C0.2.1 dX10_decides_64 (by decide) ?_
        obtain ⟨h_29, hf⟩ := chk_some hf
        refine r_iast C0 C1 hI 1 (Nat.le_of_ble_eq_true rfl) (fun _ => rfl) h_29 dX10_decides_68 (fun H locs hI => ?_)
        obtain ⟨M_32, e_33⟩ : ∃ z : Mem, z = up2 M_12 1 (ix r_15) 1 := ⟨_, rfl⟩
        rw [← e_33] at hI
        have hf := lt_at e_33 hf
        refine lv_aload_n C0.1 C0.2.1 dX10_decides_69 rfl (lv_at hl 0 rfl) ?_
        refine r_get (C := RX10) (T := TX10) (N9 := 20) (ci := 11) C0 C1 hI iX10 rfl 0 5 (Nat.le_of_ble_eq_true rfl) (by decide) ((fun _ => rfl) _) rfl rfl w_1696 dX10_decides_70 ?_
        refine lv_iload_n C0.1 C0.2.1 dX10_decides_73 rfl (lv_at hl 1 rfl) ?_
        refine lv_iconst (v := 3) C0.1 C0.2.1 dX10_decides_74 (by decide) ?_
        obtain ⟨r_35, h_34, hf⟩ := ob_some hf
        refine k_i C1 hI (q_S C0 C1 hI (c_X10_of l g X b H.size n M_32 x1 3 h_34) w_1878 w_1879 w_132 w_1880 ⟨rfl, rfl⟩ hd_X10_of ⟨Nat.le_of_ble_eq_true rfl, Nat.le_of_ble_eq_true rfl⟩ rfl hl.1 rfl (Nat.le_of_ble_eq_true rfl) dX10_decides_75 ⟨Nat.le_of_ble_eq_true rfl, Nat.le_of_ble_eq_true rfl⟩) (fun H locs hI => ?_)
        obtain ⟨h_36, hf⟩ := chk_some hf
        refine r_iald C0 C1 hI 1 (Nat.le_of_ble_eq_true rfl) (fun _ => rfl) h_36 dX10_decides_78 ?_
        exact ee_im C0 hI hr hlocks hf dX10_decides_79
    · have hf := (if_pos c_6).symm.trans hf
      refine lv_aload_n C0.1 C0.2.1 dX10_decides_22 rfl (lv_at hl 0 rfl) ?_
      refine lv_iconst (v := 2) C0.1 C0.2.1 dX10_decides_23 (by decide) ?_
      obtain ⟨r_38, M_39, h_37, hf⟩ := ob2_some hf
      refine k_i C1 hI (q_V C0 C1 hI 0 (c_X10_fail l g X b H.size n M 2 h_37) w_1774 w_1776 w_72 w_132 w_1777 ⟨rfl, rfl⟩ hd_X10_fail ⟨Nat.le_of_ble_eq_true rfl, Nat.le_of_ble_eq_true rfl⟩ (Nat.le_of_ble_eq_true rfl) ((fun _ => rfl) _) rfl rfl rfl hl.1 rfl (Nat.le_of_ble_eq_true rfl) dX10_decides_24 ⟨Nat.le_of_ble_eq_true rfl, Nat.le_of_ble_eq_true rfl⟩) (fun H locs hI => ?_)
      exact ee_im C0 hI hr hlocks hf dX10_decides_27
  · have hf := (if_pos c_3).symm.trans hf
    refine lv_aload_n C0.1 C0.2.1 dX10_decides_8 rfl (lv_at hl 0 rfl) ?_
    refine lv_iconst (v := 1) C0.1 C0.2.1 dX10_decides_9 (by decide) ?_
    obtain ⟨r_41, M_42, h_40, hf⟩ := ob2_some hf
    refine k_i C1 hI (q_V C0 C1 hI 0 (c_X10_fail l g X b H.size n M 1 h_40) w_1774 w_1776 w_72 w_132 w_1777 ⟨rfl, rfl⟩ hd_X10_fail ⟨Nat.le_of_ble_eq_true rfl, Nat.le_of_ble_eq_true rfl⟩ (Nat.le_of_ble_eq_true rfl) ((fun _ => rfl) _) rfl rfl rfl hl.1 rfl (Nat.le_of_ble_eq_true rfl) dX10_decides_10 ⟨Nat.le_of_ble_eq_true rfl, Nat.le_of_ble_eq_true rfl⟩) (fun H locs hI => ?_)
    exact ee_im C0 hI hr hlocks hf dX10_decides_13

def F_X10_decide (n : Nat) (x1 : Int32) (M : Mem) : Option (Int32 × Mem) :=
  ob (F_X10_begins n M) (fun M_2 => ob2 (F_X10_decides n x1 M_2) (fun r_4 M_5 => ob2 (F_X10_ends n r_4 M_5) (fun r_7 M_8 => (if r_7 = 1 then some (1, M_8) else some (0, M_8)))))
theorem hd_X10_decide : yX10_decide.cls ≠ "java/lang/invoke/MethodHandle" ∧ yX10_decide.cls ≠ "java/lang/invoke/VarHandle" ∧ (parseMethodDescriptor yX10_decide.desc).map (fun d => d.parameters.length) = some 1 := ⟨by decide +kernel, by decide +kernel, by decide +kernel⟩
set_option maxHeartbeats 4000000 in
set_option maxRecDepth 100000 in
theorem c_X10_decide (l : Launch) (g : GG) (X : va_W) (b : Nat → Nat) (sz n : Nat) (M : Mem) (x1 : Int32) {r0 : Int32} {M' : Mem} (hf : F_X10_decide n x1 M = some (r0, M')) : Met l yX10_decide (.code yX10_decide cX10_decide 2 (some .boolean) :: LWg) (rmD 4 0 0) (va_Pc [.ref (b 0), .int x1] (PreP g X 10 (shM g b) b sz M)) (Qi g X 10 (shM g b) b sz r0 M') 0 0 (AA X b 10 sz) := by
  refine met_go (by decide +kernel) rfl (Nat.le_of_ble_eq_true rfl) ?_
  intro p e s m below meth c ls H locs C0 C1 hr hlocks hnm hsz hl hI
  subst hsz
  have hl : lv_has ls 2 [(0, .ref (b 0)), (1, .int x1)] := hl
  unfold F_X10_decide at hf
  refine lv_aload_n C0.1 C0.2.1 dX10_decide_0 rfl (lv_at hl 0 rfl) ?_
  obtain ⟨M_2, h_1, hf⟩ := ob_some hf
  refine k_v C1 hI (q_V C0 C1 hI 0 (c_X10_begins l g X b H.size n M h_1) w_1760 w_1762 w_70 w_132 w_1763 ⟨rfl, rfl⟩ hd_X10_begins ⟨Nat.le_of_ble_eq_true rfl, Nat.le_of_ble_eq_true rfl⟩ (Nat.le_of_ble_eq_true rfl) ((fun _ => rfl) _) rfl rfl rfl hl.1 rfl (Nat.le_of_ble_eq_true rfl) dX10_decide_1 ⟨Nat.le_of_ble_eq_true rfl, Nat.le_of_ble_eq_true rfl⟩) (fun H locs hI => ?_)
  refine lv_aload_n C0.1 C0.2.1 dX10_decide_4 rfl (lv_at hl 0 rfl) ?_
  refine lv_aload_n C0.1 C0.2.1 dX10_decide_5 rfl (lv_at hl 0 rfl) ?_
  refine lv_iload_n C0.1 C0.2.1 dX10_decide_6 rfl (lv_at hl 1 rfl) ?_
  obtain ⟨r_4, M_5, h_3, hf⟩ := ob2_some hf
  refine k_i C1 hI (q_V C0 C1 hI 0 (c_X10_decides l g X b H.size n M_2 x1 h_3) w_2040 w_2042 w_105 w_132 w_2043 ⟨rfl, rfl⟩ hd_X10_decides ⟨Nat.le_of_ble_eq_true rfl, Nat.le_of_ble_eq_true rfl⟩ (Nat.le_of_ble_eq_true rfl) ((fun _ => rfl) _) rfl rfl rfl hl.1 rfl (Nat.le_of_ble_eq_true rfl) dX10_decide_7 ⟨Nat.le_of_ble_eq_true rfl, Nat.le_of_ble_eq_true rfl⟩) (fun H locs hI => ?_)
  obtain ⟨r_7, M_8, h_6, hf⟩ := ob2_some hf
  refine k_i C1 hI (q_V C0 C1 hI 0 (c_X10_ends l g X b H.size n M_5 r_4 h_6) w_1778 w_1780 w_73 w_132 w_1781 ⟨rfl, rfl⟩ hd_X10_ends ⟨Nat.le_of_ble_eq_true rfl, Nat.le_of_ble_eq_true rfl⟩ (Nat.le_of_ble_eq_true rfl) ((fun _ => rfl) _) rfl rfl rfl hl.1 rfl (Nat.le_of_ble_eq_true rfl) dX10_decide_10 ⟨Nat.le_of_ble_eq_true rfl, Nat.le_of_ble_eq_true rfl⟩) (fun H locs hI => ?_)
  refine lv_iconst (v := 1) C0.1 C0.2.1 dX10_decide_13 (by decide) ?_
  refine lv_icmp_ne (tgt := 21) C0.1 C0.2.1 dX10_decide_14 (by decide) (fun c_9 => ?_) (fun c_9 => ?_)
  · have hf := (if_neg c_9).symm.trans hf
    refine lv_iconst (v := 0) C0.1 C0.2.1 dX10_decide_21 (by decide) ?_
    exact ee_zm C0 hI hr hlocks rfl hf dX10_decide_22
  · have hf := (if_pos c_9).symm.trans hf
    refine lv_iconst (v := 1) C0.1 C0.2.1 dX10_decide_17 (by decide) ?_
    refine lv_goto (tgt := 22) C0.1 C0.2.1 dX10_decide_18 (by decide) ?_
    exact ee_zm C0 hI hr hlocks rfl hf dX10_decide_22

def F_X10_isDecided (n : Nat) (x1 : Int32) (M : Mem) : Option (Int32 × Mem) :=
  ob2 (F_X10_tellsMotion n x1 2 M) (fun r_2 M_3 => (if r_2 = 1 then some (1, M_3) else some (0, M_3)))
theorem hd_X10_isDecided : yX10_isDecided.cls ≠ "java/lang/invoke/MethodHandle" ∧ yX10_isDecided.cls ≠ "java/lang/invoke/VarHandle" ∧ (parseMethodDescriptor yX10_isDecided.desc).map (fun d => d.parameters.length) = some 1 := ⟨by decide +kernel, by decide +kernel, by decide +kernel⟩
set_option maxHeartbeats 4000000 in
set_option maxRecDepth 100000 in
theorem c_X10_isDecided (l : Launch) (g : GG) (X : va_W) (b : Nat → Nat) (sz n : Nat) (M : Mem) (x1 : Int32) {r0 : Int32} {M' : Mem} (hf : F_X10_isDecided n x1 M = some (r0, M')) : Met l yX10_isDecided (.code yX10_isDecided cX10_isDecided 2 (some .boolean) :: LWg) (rmD 3 0 0) (va_Pc [.ref (b 0), .int x1] (PreP g X 10 (shM g b) b sz M)) (Qi g X 10 (shM g b) b sz r0 M') 0 0 (AA X b 10 sz) := by
  refine met_go (by decide +kernel) rfl (Nat.le_of_ble_eq_true rfl) ?_
  intro p e s m below meth c ls H locs C0 C1 hr hlocks hnm hsz hl hI
  subst hsz
  have hl : lv_has ls 2 [(0, .ref (b 0)), (1, .int x1)] := hl
  unfold F_X10_isDecided at hf
  refine lv_aload_n C0.1 C0.2.1 dX10_isDecided_0 rfl (lv_at hl 0 rfl) ?_
  refine lv_iload_n C0.1 C0.2.1 dX10_isDecided_1 rfl (lv_at hl 1 rfl) ?_
  refine lv_iconst (v := 2) C0.1 C0.2.1 dX10_isDecided_2 (by decide) ?_
  obtain ⟨r_2, M_3, h_1, hf⟩ := ob2_some hf
  refine k_i C1 hI (q_V C0 C1 hI 0 (c_X10_tellsMotion l g X b H.size n M x1 2 h_1) w_1952 w_1954 w_96 w_132 w_1955 ⟨rfl, rfl⟩ hd_X10_tellsMotion ⟨Nat.le_of_ble_eq_true rfl, Nat.le_of_ble_eq_true rfl⟩ (Nat.le_of_ble_eq_true rfl) ((fun _ => rfl) _) rfl rfl rfl hl.1 rfl (Nat.le_of_ble_eq_true rfl) dX10_isDecided_3 ⟨Nat.le_of_ble_eq_true rfl, Nat.le_of_ble_eq_true rfl⟩) (fun H locs hI => ?_)
  refine lv_iconst (v := 1) C0.1 C0.2.1 dX10_isDecided_6 (by decide) ?_
  refine lv_icmp_ne (tgt := 14) C0.1 C0.2.1 dX10_isDecided_7 (by decide) (fun c_4 => ?_) (fun c_4 => ?_)
  · have hf := (if_neg c_4).symm.trans hf
    refine lv_iconst (v := 0) C0.1 C0.2.1 dX10_isDecided_14 (by decide) ?_
    exact ee_zm C0 hI hr hlocks rfl hf dX10_isDecided_15
  · have hf := (if_pos c_4).symm.trans hf
    refine lv_iconst (v := 1) C0.1 C0.2.1 dX10_isDecided_10 (by decide) ?_
    refine lv_goto (tgt := 15) C0.1 C0.2.1 dX10_isDecided_11 (by decide) ?_
    exact ee_zm C0 hI hr hlocks rfl hf dX10_isDecided_15

def F_X10_isAdopted (n : Nat) (x1 : Int32) (M : Mem) : Option (Int32 × Mem) :=
  ob2 (F_X10_tellsMotion n x1 3 M) (fun r_2 M_3 => (if r_2 = 1 then some (1, M_3) else some (0, M_3)))
theorem hd_X10_isAdopted : yX10_isAdopted.cls ≠ "java/lang/invoke/MethodHandle" ∧ yX10_isAdopted.cls ≠ "java/lang/invoke/VarHandle" ∧ (parseMethodDescriptor yX10_isAdopted.desc).map (fun d => d.parameters.length) = some 1 := ⟨by decide +kernel, by decide +kernel, by decide +kernel⟩
set_option maxHeartbeats 4000000 in
set_option maxRecDepth 100000 in
theorem c_X10_isAdopted (l : Launch) (g : GG) (X : va_W) (b : Nat → Nat) (sz n : Nat) (M : Mem) (x1 : Int32) {r0 : Int32} {M' : Mem} (hf : F_X10_isAdopted n x1 M = some (r0, M')) : Met l yX10_isAdopted (.code yX10_isAdopted cX10_isAdopted 2 (some .boolean) :: LWg) (rmD 3 0 0) (va_Pc [.ref (b 0), .int x1] (PreP g X 10 (shM g b) b sz M)) (Qi g X 10 (shM g b) b sz r0 M') 0 0 (AA X b 10 sz) := by
  refine met_go (by decide +kernel) rfl (Nat.le_of_ble_eq_true rfl) ?_
  intro p e s m below meth c ls H locs C0 C1 hr hlocks hnm hsz hl hI
  subst hsz
  have hl : lv_has ls 2 [(0, .ref (b 0)), (1, .int x1)] := hl
  unfold F_X10_isAdopted at hf
  refine lv_aload_n C0.1 C0.2.1 dX10_isAdopted_0 rfl (lv_at hl 0 rfl) ?_
  refine lv_iload_n C0.1 C0.2.1 dX10_isAdopted_1 rfl (lv_at hl 1 rfl) ?_
  refine lv_iconst (v := 3) C0.1 C0.2.1 dX10_isAdopted_2 (by decide) ?_
  obtain ⟨r_2, M_3, h_1, hf⟩ := ob2_some hf
  refine k_i C1 hI (q_V C0 C1 hI 0 (c_X10_tellsMotion l g X b H.size n M x1 3 h_1) w_1952 w_1954 w_96 w_132 w_1955 ⟨rfl, rfl⟩ hd_X10_tellsMotion ⟨Nat.le_of_ble_eq_true rfl, Nat.le_of_ble_eq_true rfl⟩ (Nat.le_of_ble_eq_true rfl) ((fun _ => rfl) _) rfl rfl rfl hl.1 rfl (Nat.le_of_ble_eq_true rfl) dX10_isAdopted_3 ⟨Nat.le_of_ble_eq_true rfl, Nat.le_of_ble_eq_true rfl⟩) (fun H locs hI => ?_)
  refine lv_iconst (v := 1) C0.1 C0.2.1 dX10_isAdopted_6 (by decide) ?_
  refine lv_icmp_ne (tgt := 14) C0.1 C0.2.1 dX10_isAdopted_7 (by decide) (fun c_4 => ?_) (fun c_4 => ?_)
  · have hf := (if_neg c_4).symm.trans hf
    refine lv_iconst (v := 0) C0.1 C0.2.1 dX10_isAdopted_14 (by decide) ?_
    exact ee_zm C0 hI hr hlocks rfl hf dX10_isAdopted_15
  · have hf := (if_pos c_4).symm.trans hf
    refine lv_iconst (v := 1) C0.1 C0.2.1 dX10_isAdopted_10 (by decide) ?_
    refine lv_goto (tgt := 15) C0.1 C0.2.1 dX10_isAdopted_11 (by decide) ?_
    exact ee_zm C0 hI hr hlocks rfl hf dX10_isAdopted_15

def F_X10_side (n : Nat) (x1 : Int32) (x2 : Int32) (M : Mem) : Option (Int32 × Mem) :=
  ob (F_X10_isMotion n x1 M) (fun r_2 => (if r_2 = 0 then lt' (up2 M 0 0 1) (fun M_4 => (if (M_4 0 0) = 0 then ob (F_X10_sum n x1 x2 M_4) (fun r_8 => some (r_8, M_4)) else some (0, M_4))) else lt' (up2 M 0 0 0) (fun M_9 => (if (M_9 0 0) = 0 then ob (F_X10_sum n x1 x2 M_9) (fun r_13 => some (r_13, M_9)) else some (0, M_9)))))
theorem hd_X10_side : yX10_side.cls ≠ "java/lang/invoke/MethodHandle" ∧ yX10_side.cls ≠ "java/lang/invoke/VarHandle" ∧ (parseMethodDescriptor yX10_side.desc).map (fun d => d.parameters.length) = some 2 := ⟨by decide +kernel, by decide +kernel, by decide +kernel⟩
set_option maxHeartbeats 4000000 in
set_option maxRecDepth 100000 in
theorem c_X10_side (l : Launch) (g : GG) (X : va_W) (b : Nat → Nat) (sz n : Nat) (M : Mem) (x1 : Int32) (x2 : Int32) {r0 : Int32} {M' : Mem} (hf : F_X10_side n x1 x2 M = some (r0, M')) : Met l yX10_side (.code yX10_side cX10_side 3 (some .int) :: LWg) (rmD 3 0 0) (va_Pc [.ref (b 0), .int x1, .int x2] (PreP g X 10 (shM g b) b sz M)) (Qi g X 10 (shM g b) b sz r0 M') 0 0 (AA X b 10 sz) := by
  refine met_go (by decide +kernel) rfl (Nat.le_of_ble_eq_true rfl) ?_
  intro p e s m below meth c ls H locs C0 C1 hr hlocks hnm hsz hl hI
  subst hsz
  have hl : lv_has ls 3 [(0, .ref (b 0)), (1, .int x1), (2, .int x2)] := hl
  unfold F_X10_side at hf
  refine lv_aload_n C0.1 C0.2.1 dX10_side_0 rfl (lv_at hl 0 rfl) ?_
  refine lv_aload_n C0.1 C0.2.1 dX10_side_1 rfl (lv_at hl 0 rfl) ?_
  refine lv_iload_n C0.1 C0.2.1 dX10_side_2 rfl (lv_at hl 1 rfl) ?_
  obtain ⟨r_2, h_1, hf⟩ := ob_some hf
  refine k_i C1 hI (q_V C0 C1 hI 0 (c_X10_isMotion l g X b H.size n M x1 h_1) w_1893 w_1895 w_86 w_132 w_1896 ⟨rfl, rfl⟩ hd_X10_isMotion ⟨Nat.le_of_ble_eq_true rfl, Nat.le_of_ble_eq_true rfl⟩ (Nat.le_of_ble_eq_true rfl) ((fun _ => rfl) _) rfl rfl rfl hl.1 rfl (Nat.le_of_ble_eq_true rfl) dX10_side_3 ⟨Nat.le_of_ble_eq_true rfl, Nat.le_of_ble_eq_true rfl⟩) (fun H locs hI => ?_)
  refine lv_if_eq (tgt := 13) C0.1 C0.2.1 dX10_side_6 (by decide) (fun c_3 => ?_) (fun c_3 => ?_)
  · have hf := (if_pos c_3).symm.trans hf
    refine lv_iconst (v := 1) C0.1 C0.2.1 dX10_side_13 (by decide) ?_
    refine r_put (C := RX10) (T := TX10) (N9 := 20) (ci := 11) (fs := fM b) (ty := .int) C0 C1 hI iX10 tyX10 tyX10_ok nmX10 rfl 0 0 (Nat.le_of_ble_eq_true rfl) (by decide) (fun _ => rfl) rfl rfl rfl (by decide +kernel) ⟨rfl, rfl⟩ (Nat.le_of_ble_eq_true rfl) w_1691 dX10_side_14 (fun H locs hI => ?_)
    obtain ⟨M_4, e_5⟩ : ∃ z : Mem, z = up2 M 0 0 1 := ⟨_, rfl⟩
    rw [← e_5] at hI
    have hf := lt_at e_5 hf
    refine lv_aload_n C0.1 C0.2.1 dX10_side_17 rfl (lv_at hl 0 rfl) ?_
    refine r_get (C := RX10) (T := TX10) (N9 := 20) (ci := 11) C0 C1 hI iX10 rfl 0 0 (Nat.le_of_ble_eq_true rfl) (by decide) ((fun _ => rfl) _) rfl rfl w_1691 dX10_side_18 ?_
    refine lv_if_ne (tgt := 33) C0.1 C0.2.1 dX10_side_21 (by decide) (fun c_6 => ?_) (fun c_6 => ?_)
    · have hf := (if_neg c_6).symm.trans hf
      refine lv_iconst (v := 0) C0.1 C0.2.1 dX10_side_33 (by decide) ?_
      exact ee_im C0 hI hr hlocks hf dX10_side_34
    · have hf := (if_pos c_6).symm.trans hf
      refine lv_aload_n C0.1 C0.2.1 dX10_side_24 rfl (lv_at hl 0 rfl) ?_
      refine lv_iload_n C0.1 C0.2.1 dX10_side_25 rfl (lv_at hl 1 rfl) ?_
      refine lv_iload_n C0.1 C0.2.1 dX10_side_26 rfl (lv_at hl 2 rfl) ?_
      obtain ⟨r_8, h_7, hf⟩ := ob_some hf
      refine k_i C1 hI (q_V C0 C1 hI 0 (c_X10_sum l g X b H.size n M_4 x1 x2 h_7) w_2028 w_2030 w_103 w_132 w_2031 ⟨rfl, rfl⟩ hd_X10_sum ⟨Nat.le_of_ble_eq_true rfl, Nat.le_of_ble_eq_true rfl⟩ (Nat.le_of_ble_eq_true rfl) ((fun _ => rfl) _) rfl rfl rfl hl.1 rfl (Nat.le_of_ble_eq_true rfl) dX10_side_27 ⟨Nat.le_of_ble_eq_true rfl, Nat.le_of_ble_eq_true rfl⟩) (fun H locs hI => ?_)
      refine lv_goto (tgt := 34) C0.1 C0.2.1 dX10_side_30 (by decide) ?_
      exact ee_im C0 hI hr hlocks hf dX10_side_34
  · have hf := (if_neg c_3).symm.trans hf
    refine lv_iconst (v := 0) C0.1 C0.2.1 dX10_side_9 (by decide) ?_
    refine lv_goto (tgt := 14) C0.1 C0.2.1 dX10_side_10 (by decide) ?_
    refine r_put (C := RX10) (T := TX10) (N9 := 20) (ci := 11) (fs := fM b) (ty := .int) C0 C1 hI iX10 tyX10 tyX10_ok nmX10 rfl 0 0 (Nat.le_of_ble_eq_true rfl) (by decide) (fun _ => rfl) rfl rfl rfl (by decide +kernel) ⟨rfl, rfl⟩ (Nat.le_of_ble_eq_true rfl) w_1691 dX10_side_14 (fun H locs hI => ?_)
    obtain ⟨M_9, e_10⟩ : ∃ z : Mem, z = up2 M 0 0 0 := ⟨_, rfl⟩
    rw [← e_10] at hI
    have hf := lt_at e_10 hf
    refine lv_aload_n C0.1 C0.2.1 dX10_side_17 rfl (lv_at hl 0 rfl) ?_
    refine r_get (C := RX10) (T := TX10) (N9 := 20) (ci := 11) C0 C1 hI iX10 rfl 0 0 (Nat.le_of_ble_eq_true rfl) (by decide) ((fun _ => rfl) _) rfl rfl w_1691 dX10_side_18 ?_
    refine lv_if_ne (tgt := 33) C0.1 C0.2.1 dX10_side_21 (by decide) (fun c_11 => ?_) (fun c_11 => ?_)
    · have hf := (if_neg c_11).symm.trans hf
      refine lv_iconst (v := 0) C0.1 C0.2.1 dX10_side_33 (by decide) ?_
      exact ee_im C0 hI hr hlocks hf dX10_side_34
    · have hf := (if_pos c_11).symm.trans hf
      refine lv_aload_n C0.1 C0.2.1 dX10_side_24 rfl (lv_at hl 0 rfl) ?_
      refine lv_iload_n C0.1 C0.2.1 dX10_side_25 rfl (lv_at hl 1 rfl) ?_
      refine lv_iload_n C0.1 C0.2.1 dX10_side_26 rfl (lv_at hl 2 rfl) ?_
      obtain ⟨r_13, h_12, hf⟩ := ob_some hf
      refine k_i C1 hI (q_V C0 C1 hI 0 (c_X10_sum l g X b H.size n M_9 x1 x2 h_12) w_2028 w_2030 w_103 w_132 w_2031 ⟨rfl, rfl⟩ hd_X10_sum ⟨Nat.le_of_ble_eq_true rfl, Nat.le_of_ble_eq_true rfl⟩ (Nat.le_of_ble_eq_true rfl) ((fun _ => rfl) _) rfl rfl rfl hl.1 rfl (Nat.le_of_ble_eq_true rfl) dX10_side_27 ⟨Nat.le_of_ble_eq_true rfl, Nat.le_of_ble_eq_true rfl⟩) (fun H locs hI => ?_)
      refine lv_goto (tgt := 34) C0.1 C0.2.1 dX10_side_30 (by decide) ?_
      exact ee_im C0 hI hr hlocks hf dX10_side_34

def F_X10_croaksFor (n : Nat) (x1 : Int32) (M : Mem) : Option (Int32 × Mem) :=
  ob2 (F_X10_side n x1 1 M) (fun r_2 M_3 => some (r_2, M_3))
theorem hd_X10_croaksFor : yX10_croaksFor.cls ≠ "java/lang/invoke/MethodHandle" ∧ yX10_croaksFor.cls ≠ "java/lang/invoke/VarHandle" ∧ (parseMethodDescriptor yX10_croaksFor.desc).map (fun d => d.parameters.length) = some 1 := ⟨by decide +kernel, by decide +kernel, by decide +kernel⟩
set_option maxHeartbeats 4000000 in
set_option maxRecDepth 100000 in
theorem c_X10_croaksFor (l : Launch) (g : GG) (X : va_W) (b : Nat → Nat) (sz n : Nat) (M : Mem) (x1 : Int32) {r0 : Int32} {M' : Mem} (hf : F_X10_croaksFor n x1 M = some (r0, M')) : Met l yX10_croaksFor (.code yX10_croaksFor cX10_croaksFor 2 (some .int) :: LWg) (rmD 4 0 0) (va_Pc [.ref (b 0), .int x1] (PreP g X 10 (shM g b) b sz M)) (Qi g X 10 (shM g b) b sz r0 M') 0 0 (AA X b 10 sz) := by
  refine met_go (by decide +kernel) rfl (Nat.le_of_ble_eq_true rfl) ?_
  intro p e s m below meth c ls H locs C0 C1 hr hlocks hnm hsz hl hI
  subst hsz
  have hl : lv_has ls 2 [(0, .ref (b 0)), (1, .int x1)] := hl
  unfold F_X10_croaksFor at hf
  refine lv_aload_n C0.1 C0.2.1 dX10_croaksFor_0 rfl (lv_at hl 0 rfl) ?_
  refine lv_iload_n C0.1 C0.2.1 dX10_croaksFor_1 rfl (lv_at hl 1 rfl) ?_
  refine lv_iconst (v := 1) C0.1 C0.2.1 dX10_croaksFor_2 (by decide) ?_
  obtain ⟨r_2, M_3, h_1, hf⟩ := ob2_some hf
  refine k_i C1 hI (q_V C0 C1 hI 0 (c_X10_side l g X b H.size n M x1 1 h_1) w_2056 w_2058 w_106 w_132 w_2059 ⟨rfl, rfl⟩ hd_X10_side ⟨Nat.le_of_ble_eq_true rfl, Nat.le_of_ble_eq_true rfl⟩ (Nat.le_of_ble_eq_true rfl) ((fun _ => rfl) _) rfl rfl rfl hl.1 rfl (Nat.le_of_ble_eq_true rfl) dX10_croaksFor_3 ⟨Nat.le_of_ble_eq_true rfl, Nat.le_of_ble_eq_true rfl⟩) (fun H locs hI => ?_)
  exact ee_im C0 hI hr hlocks hf dX10_croaksFor_6

def F_X10_croaksForByPonds (n : Nat) (x1 : Int32) (M : Mem) : Option (Int32 × Mem) :=
  ob2 (F_X10_side n x1 1 M) (fun r_2 M_3 => some (r_2, M_3))
theorem hd_X10_croaksForByPonds : yX10_croaksForByPonds.cls ≠ "java/lang/invoke/MethodHandle" ∧ yX10_croaksForByPonds.cls ≠ "java/lang/invoke/VarHandle" ∧ (parseMethodDescriptor yX10_croaksForByPonds.desc).map (fun d => d.parameters.length) = some 1 := ⟨by decide +kernel, by decide +kernel, by decide +kernel⟩
set_option maxHeartbeats 4000000 in
set_option maxRecDepth 100000 in
theorem c_X10_croaksForByPonds (l : Launch) (g : GG) (X : va_W) (b : Nat → Nat) (sz n : Nat) (M : Mem) (x1 : Int32) {r0 : Int32} {M' : Mem} (hf : F_X10_croaksForByPonds n x1 M = some (r0, M')) : Met l yX10_croaksForByPonds (.code yX10_croaksForByPonds cX10_croaksForByPonds 2 (some .int) :: LWg) (rmD 4 0 0) (va_Pc [.ref (b 0), .int x1] (PreP g X 10 (shM g b) b sz M)) (Qi g X 10 (shM g b) b sz r0 M') 0 0 (AA X b 10 sz) := by
  refine met_go (by decide +kernel) rfl (Nat.le_of_ble_eq_true rfl) ?_
  intro p e s m below meth c ls H locs C0 C1 hr hlocks hnm hsz hl hI
  subst hsz
  have hl : lv_has ls 2 [(0, .ref (b 0)), (1, .int x1)] := hl
  unfold F_X10_croaksForByPonds at hf
  refine lv_aload_n C0.1 C0.2.1 dX10_croaksForByPonds_0 rfl (lv_at hl 0 rfl) ?_
  refine lv_iload_n C0.1 C0.2.1 dX10_croaksForByPonds_1 rfl (lv_at hl 1 rfl) ?_
  refine lv_iconst (v := 1) C0.1 C0.2.1 dX10_croaksForByPonds_2 (by decide) ?_
  obtain ⟨r_2, M_3, h_1, hf⟩ := ob2_some hf
  refine k_i C1 hI (q_V C0 C1 hI 0 (c_X10_side l g X b H.size n M x1 1 h_1) w_2056 w_2058 w_106 w_132 w_2059 ⟨rfl, rfl⟩ hd_X10_side ⟨Nat.le_of_ble_eq_true rfl, Nat.le_of_ble_eq_true rfl⟩ (Nat.le_of_ble_eq_true rfl) ((fun _ => rfl) _) rfl rfl rfl hl.1 rfl (Nat.le_of_ble_eq_true rfl) dX10_croaksForByPonds_3 ⟨Nat.le_of_ble_eq_true rfl, Nat.le_of_ble_eq_true rfl⟩) (fun H locs hI => ?_)
  exact ee_im C0 hI hr hlocks hf dX10_croaksForByPonds_6

def F_X10_croaksAgainst (n : Nat) (x1 : Int32) (M : Mem) : Option (Int32 × Mem) :=
  ob2 (F_X10_side n x1 0 M) (fun r_2 M_3 => some (r_2, M_3))
theorem hd_X10_croaksAgainst : yX10_croaksAgainst.cls ≠ "java/lang/invoke/MethodHandle" ∧ yX10_croaksAgainst.cls ≠ "java/lang/invoke/VarHandle" ∧ (parseMethodDescriptor yX10_croaksAgainst.desc).map (fun d => d.parameters.length) = some 1 := ⟨by decide +kernel, by decide +kernel, by decide +kernel⟩
set_option maxHeartbeats 4000000 in
set_option maxRecDepth 100000 in
theorem c_X10_croaksAgainst (l : Launch) (g : GG) (X : va_W) (b : Nat → Nat) (sz n : Nat) (M : Mem) (x1 : Int32) {r0 : Int32} {M' : Mem} (hf : F_X10_croaksAgainst n x1 M = some (r0, M')) : Met l yX10_croaksAgainst (.code yX10_croaksAgainst cX10_croaksAgainst 2 (some .int) :: LWg) (rmD 4 0 0) (va_Pc [.ref (b 0), .int x1] (PreP g X 10 (shM g b) b sz M)) (Qi g X 10 (shM g b) b sz r0 M') 0 0 (AA X b 10 sz) := by
  refine met_go (by decide +kernel) rfl (Nat.le_of_ble_eq_true rfl) ?_
  intro p e s m below meth c ls H locs C0 C1 hr hlocks hnm hsz hl hI
  subst hsz
  have hl : lv_has ls 2 [(0, .ref (b 0)), (1, .int x1)] := hl
  unfold F_X10_croaksAgainst at hf
  refine lv_aload_n C0.1 C0.2.1 dX10_croaksAgainst_0 rfl (lv_at hl 0 rfl) ?_
  refine lv_iload_n C0.1 C0.2.1 dX10_croaksAgainst_1 rfl (lv_at hl 1 rfl) ?_
  refine lv_iconst (v := 0) C0.1 C0.2.1 dX10_croaksAgainst_2 (by decide) ?_
  obtain ⟨r_2, M_3, h_1, hf⟩ := ob2_some hf
  refine k_i C1 hI (q_V C0 C1 hI 0 (c_X10_side l g X b H.size n M x1 0 h_1) w_2056 w_2058 w_106 w_132 w_2059 ⟨rfl, rfl⟩ hd_X10_side ⟨Nat.le_of_ble_eq_true rfl, Nat.le_of_ble_eq_true rfl⟩ (Nat.le_of_ble_eq_true rfl) ((fun _ => rfl) _) rfl rfl rfl hl.1 rfl (Nat.le_of_ble_eq_true rfl) dX10_croaksAgainst_3 ⟨Nat.le_of_ble_eq_true rfl, Nat.le_of_ble_eq_true rfl⟩) (fun H locs hI => ?_)
  exact ee_im C0 hI hr hlocks hf dX10_croaksAgainst_6

def F_X10_strongestFrog_L48 (n : Nat) : Nat → Int32 → Int32 → Int32 → Mem → Option (Int32 × Mem)
  | 0, _, _, _, _ => none
  | k48 + 1, x1_48, x2_48, x3_48, M =>
    ob (F_X10_of n x1_48 7 M) (fun r_48_2 => chk (inb r_48_2 407) ((if (M 1 (ix r_48_2)) ≤ x3_48 then ob (F_X10_croaked n x1_48 x2_48 M) (fun r_48_6 => chk (inb r_48_6 407) (some (M 1 (ix r_48_6), M))) else ob (F_X10_strength n x1_48 x3_48 M) (fun r_48_9 => ob (F_X10_strength n x1_48 x2_48 M) (fun r_48_11 => (if r_48_9 ≤ r_48_11 then lt' (x3_48 + 1) (fun x3_48_13 => F_X10_strongestFrog_L48 n k48 x1_48 x2_48 x3_48_13 M) else lt' (x3_48 + 1) (fun x3_48_15 => F_X10_strongestFrog_L48 n k48 x1_48 x3_48 x3_48_15 M)))))))
def F_X10_strongestFrog (n : Nat) (x1 : Int32) (M : Mem) : Option (Int32 × Mem) :=
  ob (F_X10_isMotion n x1 M) (fun r_2 => (if r_2 = 0 then lt' (up2 M 0 0 1) (fun M_14 => (if (M_14 0 0) = 0 then F_X10_strongestFrog_L48 n n x1 0 1 M_14 else some (0, M_14))) else ob (F_X10_of n x1 7 M) (fun r_5 => chk (inb r_5 407) ((if (M 1 (ix r_5)) = 0 then lt' (up2 M 0 0 2) (fun M_11 => (if (M_11 0 0) = 0 then F_X10_strongestFrog_L48 n n x1 0 1 M_11 else some (0, M_11))) else lt' (up2 M 0 0 0) (fun M_8 => (if (M_8 0 0) = 0 then F_X10_strongestFrog_L48 n n x1 0 1 M_8 else some (0, M_8))))))))
theorem hd_X10_strongestFrog : yX10_strongestFrog.cls ≠ "java/lang/invoke/MethodHandle" ∧ yX10_strongestFrog.cls ≠ "java/lang/invoke/VarHandle" ∧ (parseMethodDescriptor yX10_strongestFrog.desc).map (fun d => d.parameters.length) = some 1 := ⟨by decide +kernel, by decide +kernel, by decide +kernel⟩
set_option maxHeartbeats 4000000 in
set_option maxRecDepth 100000 in
theorem c_X10_strongestFrog (l : Launch) (g : GG) (X : va_W) (b : Nat → Nat) (sz n : Nat) (M : Mem) (x1 : Int32) {r0 : Int32} {M' : Mem} (hf : F_X10_strongestFrog n x1 M = some (r0, M')) : Met l yX10_strongestFrog (.code yX10_strongestFrog cX10_strongestFrog 4 (some .int) :: LWg) (rmD 2 0 0) (va_Pc [.ref (b 0), .int x1] (PreP g X 10 (shM g b) b sz M)) (Qi g X 10 (shM g b) b sz r0 M') 0 0 (AA X b 10 sz) := by
  refine met_go (by decide +kernel) rfl (Nat.le_of_ble_eq_true rfl) ?_
  intro p e s m below meth c ls H locs C0 C1 hr hlocks hnm hsz hl hI
  subst hsz
  have hl : lv_has ls 4 [(0, .ref (b 0)), (1, .int x1)] := hl
  unfold F_X10_strongestFrog at hf
  refine lv_aload_n C0.1 C0.2.1 dX10_strongestFrog_0 rfl (lv_at hl 0 rfl) ?_
  refine lv_aload_n C0.1 C0.2.1 dX10_strongestFrog_1 rfl (lv_at hl 0 rfl) ?_
  refine lv_iload_n C0.1 C0.2.1 dX10_strongestFrog_2 rfl (lv_at hl 1 rfl) ?_
  obtain ⟨r_2, h_1, hf⟩ := ob_some hf
  refine k_i C1 hI (q_V C0 C1 hI 0 (c_X10_isMotion l g X b H.size n M x1 h_1) w_1893 w_1895 w_86 w_132 w_1896 ⟨rfl, rfl⟩ hd_X10_isMotion ⟨Nat.le_of_ble_eq_true rfl, Nat.le_of_ble_eq_true rfl⟩ (Nat.le_of_ble_eq_true rfl) ((fun _ => rfl) _) rfl rfl rfl hl.1 rfl (Nat.le_of_ble_eq_true rfl) dX10_strongestFrog_3 ⟨Nat.le_of_ble_eq_true rfl, Nat.le_of_ble_eq_true rfl⟩) (fun H locs hI => ?_)
  refine lv_if_ne (tgt := 13) C0.1 C0.2.1 dX10_strongestFrog_6 (by decide) (fun c_3 => ?_) (fun c_3 => ?_)
  · have hf := (if_neg c_3).symm.trans hf
    refine lv_aload_n C0.1 C0.2.1 dX10_strongestFrog_13 rfl (lv_at hl 0 rfl) ?_
    refine r_get (C := RX10) (T := TX10) (N9 := 20) (ci := 11) C0 C1 hI iX10 rfl 0 5 (Nat.le_of_ble_eq_true rfl) (by decide) ((fun _ => rfl) _) rfl rfl w_1696 dX10_strongestFrog_14 ?_
    refine lv_iload_n C0.1 C0.2.1 dX10_strongestFrog_17 rfl (lv_at hl 1 rfl) ?_
    refine lv_bipush (v := 7) C0.1 C0.2.1 dX10_strongestFrog_18 (by decide) ?_
    obtain ⟨r_5, h_4, hf⟩ := ob_some hf
    refine k_i C1 hI (q_S C0 C1 hI (c_X10_of l g X b H.size n M x1 7 h_4) w_1878 w_1879 w_132 w_1880 ⟨rfl, rfl⟩ hd_X10_of ⟨Nat.le_of_ble_eq_true rfl, Nat.le_of_ble_eq_true rfl⟩ rfl hl.1 rfl (Nat.le_of_ble_eq_true rfl) dX10_strongestFrog_20 ⟨Nat.le_of_ble_eq_true rfl, Nat.le_of_ble_eq_true rfl⟩) (fun H locs hI => ?_)
    obtain ⟨h_6, hf⟩ := chk_some hf
    refine r_iald C0 C1 hI 1 (Nat.le_of_ble_eq_true rfl) (fun _ => rfl) h_6 dX10_strongestFrog_23 ?_
    refine lv_if_ne (tgt := 31) C0.1 C0.2.1 dX10_strongestFrog_24 (by decide) (fun c_7 => ?_) (fun c_7 => ?_)
    · have hf := (if_neg c_7).symm.trans hf
      refine lv_iconst (v := 0) C0.1 C0.2.1 dX10_strongestFrog_31 (by decide) ?_
      refine r_put (C := RX10) (T := TX10) (N9 := 20) (ci := 11) (fs := fM b) (ty := .int) C0 C1 hI iX10 tyX10 tyX10_ok nmX10 rfl 0 0 (Nat.le_of_ble_eq_true rfl) (by decide) (fun _ => rfl) rfl rfl rfl (by decide +kernel) ⟨rfl, rfl⟩ (Nat.le_of_ble_eq_true rfl) w_1691 dX10_strongestFrog_32 (fun H locs hI => ?_)
      obtain ⟨M_8, e_9⟩ : ∃ z : Mem, z = up2 M 0 0 0 := ⟨_, rfl⟩
      rw [← e_9] at hI
      have hf := lt_at e_9 hf
      refine lv_aload_n C0.1 C0.2.1 dX10_strongestFrog_35 rfl (lv_at hl 0 rfl) ?_
      refine r_get (C := RX10) (T := TX10) (N9 := 20) (ci := 11) C0 C1 hI iX10 rfl 0 0 (Nat.le_of_ble_eq_true rfl) (by decide) ((fun _ => rfl) _) rfl rfl w_1691 dX10_strongestFrog_36 ?_
      refine lv_if_eq (tgt := 44) C0.1 C0.2.1 dX10_strongestFrog_39 (by decide) (fun c_10 => ?_) (fun c_10 => ?_)
      · have hf := (if_pos c_10).symm.trans hf
        refine lv_iconst (v := 0) C0.1 C0.2.1 dX10_strongestFrog_44 (by decide) ?_
        refine lv_istore_n (lv' := [(2, .int 0), (0, .ref (b 0)), (1, .int x1)]) C0.1 C0.2.1 dX10_strongestFrog_45 rfl hl (by decide) rfl (fun ls hl => ?_)
        refine lv_iconst (v := 1) C0.1 C0.2.1 dX10_strongestFrog_46 (by decide) ?_
        refine lv_istore_n (lv' := [(3, .int 1), (2, .int 0), (0, .ref (b 0)), (1, .int x1)]) C0.1 C0.2.1 dX10_strongestFrog_47 rfl hl (by decide) rfl (fun ls hl => ?_)
        have L48 : ∀ (k48 : Nat) (x1_48 : Int32) (x2_48 : Int32) (x3_48 : Int32) (M : Mem), F_X10_strongestFrog_L48 n k48 x1_48 x2_48 x3_48 M = some (r0, M') → ∀ (H : Heap) (locs : List Loc) (ls : Array Slot), PI g X 10 (shM g b) b s M H locs → lv_has ls 4 [(0, .ref (b 0)), (1, .int x1_48), (2, .int x2_48), (3, .int x3_48)] → W p l e (rmD 2 0 0) s m ([.ref (b 0), .int x1] : List Value).toArray below meth c H locs 0 0 (MQ below (Qi g X 10 (shM g b) b s.heap.size r0 M') ([.ref (b 0), .int x1] : List Value).toArray s 0 0 (AA X b 10 s.heap.size)) (F0 m 48 ls []) := by
          intro k48
          induction k48 with
          | zero => intro x1_48 x2_48 x3_48 M hf; exact absurd (show (none : Option (Int32 × Mem)) = some (r0, M') from hf) (fun h => by cases h)
          | succ k48 ih48 =>
            intro x1_48 x2_48 x3_48 M hf H locs ls hI hl
            unfold F_X10_strongestFrog_L48 at hf
            refine lv_iload_n C0.1 C0.2.1 dX10_strongestFrog_48 rfl (lv_at hl 3 rfl) ?_
            refine lv_aload_n C0.1 C0.2.1 dX10_strongestFrog_49 rfl (lv_at hl 0 rfl) ?_
            refine r_get (C := RX10) (T := TX10) (N9 := 20) (ci := 11) C0 C1 hI iX10 rfl 0 5 (Nat.le_of_ble_eq_true rfl) (by decide) ((fun _ => rfl) _) rfl rfl w_1696 dX10_strongestFrog_50 ?_
            refine lv_iload_n C0.1 C0.2.1 dX10_strongestFrog_53 rfl (lv_at hl 1 rfl) ?_
            refine lv_bipush (v := 7) C0.1 C0.2.1 dX10_strongestFrog_54 (by decide) ?_
            obtain ⟨r_48_2, h_48_1, hf⟩ := ob_some hf
            refine k_i C1 hI (q_S C0 C1 hI (c_X10_of l g X b H.size n M x1_48 7 h_48_1) w_1878 w_1879 w_132 w_1880 ⟨rfl, rfl⟩ hd_X10_of ⟨Nat.le_of_ble_eq_true rfl, Nat.le_of_ble_eq_true rfl⟩ rfl hl.1 rfl (Nat.le_of_ble_eq_true rfl) dX10_strongestFrog_56 ⟨Nat.le_of_ble_eq_true rfl, Nat.le_of_ble_eq_true rfl⟩) (fun H locs hI => ?_)
            obtain ⟨h_48_3, hf⟩ := chk_some hf
            refine r_iald C0 C1 hI 1 (Nat.le_of_ble_eq_true rfl) (fun _ => rfl) h_48_3 dX10_strongestFrog_59 ?_
            refine lv_icmp_ge (tgt := 86) C0.1 C0.2.1 dX10_strongestFrog_60 (by decide) (fun c_48_4 => ?_) (fun c_48_4 => ?_)
            · have hf := (if_pos c_48_4).symm.trans hf
              refine lv_aload_n C0.1 C0.2.1 dX10_strongestFrog_86 rfl (lv_at hl 0 rfl) ?_
              refine r_get (C := RX10) (T := TX10) (N9 := 20) (ci := 11) C0 C1 hI iX10 rfl 0 5 (Nat.le_of_ble_eq_true rfl) (by decide) ((fun _ => rfl) _) rfl rfl w_1696 dX10_strongestFrog_87 ?_
              refine lv_iload_n C0.1 C0.2.1 dX10_strongestFrog_90 rfl (lv_at hl 1 rfl) ?_
              refine lv_iload_n C0.1 C0.2.1 dX10_strongestFrog_91 rfl (lv_at hl 2 rfl) ?_
              obtain ⟨r_48_6, h_48_5, hf⟩ := ob_some hf
              refine k_i C1 hI (q_S C0 C1 hI (c_X10_croaked l g X b H.size n M x1_48 x2_48 h_48_5) w_2025 w_2026 w_132 w_2027 ⟨rfl, rfl⟩ hd_X10_croaked ⟨Nat.le_of_ble_eq_true rfl, Nat.le_of_ble_eq_true rfl⟩ rfl hl.1 rfl (Nat.le_of_ble_eq_true rfl) dX10_strongestFrog_92 ⟨Nat.le_of_ble_eq_true rfl, Nat.le_of_ble_eq_true rfl⟩) (fun H locs hI => ?_)
              obtain ⟨h_48_7, hf⟩ := chk_some hf
              refine r_iald C0 C1 hI 1 (Nat.le_of_ble_eq_true rfl) (fun _ => rfl) h_48_7 dX10_strongestFrog_95 ?_
              exact ee_im C0 hI hr hlocks hf dX10_strongestFrog_96
            · have hf := (if_neg c_48_4).symm.trans hf
              refine lv_aload_n C0.1 C0.2.1 dX10_strongestFrog_63 rfl (lv_at hl 0 rfl) ?_
              refine lv_iload_n C0.1 C0.2.1 dX10_strongestFrog_64 rfl (lv_at hl 1 rfl) ?_
              refine lv_iload_n C0.1 C0.2.1 dX10_strongestFrog_65 rfl (lv_at hl 3 rfl) ?_
              obtain ⟨r_48_9, h_48_8, hf⟩ := ob_some hf
              refine k_i C1 hI (q_V C0 C1 hI 0 (c_X10_strength l g X b H.size n M x1_48 x3_48 h_48_8) w_2032 w_2034 w_104 w_132 w_2035 ⟨rfl, rfl⟩ hd_X10_strength ⟨Nat.le_of_ble_eq_true rfl, Nat.le_of_ble_eq_true rfl⟩ (Nat.le_of_ble_eq_true rfl) ((fun _ => rfl) _) rfl rfl rfl hl.1 rfl (Nat.le_of_ble_eq_true rfl) dX10_strongestFrog_66 ⟨Nat.le_of_ble_eq_true rfl, Nat.le_of_ble_eq_true rfl⟩) (fun H locs hI => ?_)
              refine lv_aload_n C0.1 C0.2.1 dX10_strongestFrog_69 rfl (lv_at hl 0 rfl) ?_
              refine lv_iload_n C0.1 C0.2.1 dX10_strongestFrog_70 rfl (lv_at hl 1 rfl) ?_
              refine lv_iload_n C0.1 C0.2.1 dX10_strongestFrog_71 rfl (lv_at hl 2 rfl) ?_
              obtain ⟨r_48_11, h_48_10, hf⟩ := ob_some hf
              refine k_i C1 hI (q_V C0 C1 hI 0 (c_X10_strength l g X b H.size n M x1_48 x2_48 h_48_10) w_2032 w_2034 w_104 w_132 w_2035 ⟨rfl, rfl⟩ hd_X10_strength ⟨Nat.le_of_ble_eq_true rfl, Nat.le_of_ble_eq_true rfl⟩ (Nat.le_of_ble_eq_true rfl) ((fun _ => rfl) _) rfl rfl rfl hl.1 rfl (Nat.le_of_ble_eq_true rfl) dX10_strongestFrog_72 ⟨Nat.le_of_ble_eq_true rfl, Nat.le_of_ble_eq_true rfl⟩) (fun H locs hI => ?_)
              refine lv_icmp_le (tgt := 80) C0.1 C0.2.1 dX10_strongestFrog_75 (by decide) (fun c_48_12 => ?_) (fun c_48_12 => ?_)
              · have hf := (if_pos c_48_12).symm.trans hf
                obtain ⟨x3_48_13, e_48_14⟩ : ∃ z : Int32, z = x3_48 + 1 := ⟨_, rfl⟩
                have hf := lt_at e_48_14 hf
                refine lv_iinc (v := x3_48_13) (lv' := [(3, .int x3_48_13), (0, .ref (b 0)), (1, .int x1_48), (2, .int x2_48)]) C0.1 C0.2.1 dX10_strongestFrog_80 hl (k := 3) rfl (by rw [e_48_14]; rfl) (by decide) rfl (fun ls hl => ?_)
                refine lv_goto (tgt := 48) C0.1 C0.2.1 dX10_strongestFrog_83 (by decide) ?_
                exact ih48 x1_48 x2_48 x3_48_13 M hf H locs ls hI (lv_sub hl [1, 2, 3, 0] rfl)
              · have hf := (if_neg c_48_12).symm.trans hf
                refine lv_iload_n C0.1 C0.2.1 dX10_strongestFrog_78 rfl (lv_at hl 3 rfl) ?_
                refine lv_istore_n (lv' := [(2, .int x3_48), (0, .ref (b 0)), (1, .int x1_48), (3, .int x3_48)]) C0.1 C0.2.1 dX10_strongestFrog_79 rfl hl (by decide) rfl (fun ls hl => ?_)
                obtain ⟨x3_48_15, e_48_16⟩ : ∃ z : Int32, z = x3_48 + 1 := ⟨_, rfl⟩
                have hf := lt_at e_48_16 hf
                refine lv_iinc (v := x3_48_15) (lv' := [(3, .int x3_48_15), (2, .int x3_48), (0, .ref (b 0)), (1, .int x1_48)]) C0.1 C0.2.1 dX10_strongestFrog_80 hl (k := 3) rfl (by rw [e_48_16]; rfl) (by decide) rfl (fun ls hl => ?_)
                refine lv_goto (tgt := 48) C0.1 C0.2.1 dX10_strongestFrog_83 (by decide) ?_
                exact ih48 x1_48 x3_48 x3_48_15 M hf H locs ls hI (lv_sub hl [2, 3, 1, 0] rfl)
        exact L48 n x1 0 1 M_8 hf H locs ls hI (lv_sub hl [2, 3, 1, 0] rfl)
      · have hf := (if_neg c_10).symm.trans hf
        refine lv_iconst (v := 0) C0.1 C0.2.1 dX10_strongestFrog_42 (by decide) ?_
        exact ee_im C0 hI hr hlocks hf dX10_strongestFrog_43
    · have hf := (if_pos c_7).symm.trans hf
      refine lv_iconst (v := 2) C0.1 C0.2.1 dX10_strongestFrog_27 (by decide) ?_
      refine lv_goto (tgt := 32) C0.1 C0.2.1 dX10_strongestFrog_28 (by decide) ?_
      refine r_put (C := RX10) (T := TX10) (N9 := 20) (ci := 11) (fs := fM b) (ty := .int) C0 C1 hI iX10 tyX10 tyX10_ok nmX10 rfl 0 0 (Nat.le_of_ble_eq_true rfl) (by decide) (fun _ => rfl) rfl rfl rfl (by decide +kernel) ⟨rfl, rfl⟩ (Nat.le_of_ble_eq_true rfl) w_1691 dX10_strongestFrog_32 (fun H locs hI => ?_)
      obtain ⟨M_11, e_12⟩ : ∃ z : Mem, z = up2 M 0 0 2 := ⟨_, rfl⟩
      rw [← e_12] at hI
      have hf := lt_at e_12 hf
      refine lv_aload_n C0.1 C0.2.1 dX10_strongestFrog_35 rfl (lv_at hl 0 rfl) ?_
      refine r_get (C := RX10) (T := TX10) (N9 := 20) (ci := 11) C0 C1 hI iX10 rfl 0 0 (Nat.le_of_ble_eq_true rfl) (by decide) ((fun _ => rfl) _) rfl rfl w_1691 dX10_strongestFrog_36 ?_
      refine lv_if_eq (tgt := 44) C0.1 C0.2.1 dX10_strongestFrog_39 (by decide) (fun c_13 => ?_) (fun c_13 => ?_)
      · have hf := (if_pos c_13).symm.trans hf
        refine lv_iconst (v := 0) C0.1 C0.2.1 dX10_strongestFrog_44 (by decide) ?_
        refine lv_istore_n (lv' := [(2, .int 0), (0, .ref (b 0)), (1, .int x1)]) C0.1 C0.2.1 dX10_strongestFrog_45 rfl hl (by decide) rfl (fun ls hl => ?_)
        refine lv_iconst (v := 1) C0.1 C0.2.1 dX10_strongestFrog_46 (by decide) ?_
        refine lv_istore_n (lv' := [(3, .int 1), (2, .int 0), (0, .ref (b 0)), (1, .int x1)]) C0.1 C0.2.1 dX10_strongestFrog_47 rfl hl (by decide) rfl (fun ls hl => ?_)
        have L48 : ∀ (k48 : Nat) (x1_48 : Int32) (x2_48 : Int32) (x3_48 : Int32) (M : Mem), F_X10_strongestFrog_L48 n k48 x1_48 x2_48 x3_48 M = some (r0, M') → ∀ (H : Heap) (locs : List Loc) (ls : Array Slot), PI g X 10 (shM g b) b s M H locs → lv_has ls 4 [(0, .ref (b 0)), (1, .int x1_48), (2, .int x2_48), (3, .int x3_48)] → W p l e (rmD 2 0 0) s m ([.ref (b 0), .int x1] : List Value).toArray below meth c H locs 0 0 (MQ below (Qi g X 10 (shM g b) b s.heap.size r0 M') ([.ref (b 0), .int x1] : List Value).toArray s 0 0 (AA X b 10 s.heap.size)) (F0 m 48 ls []) := by
          intro k48
          induction k48 with
          | zero => intro x1_48 x2_48 x3_48 M hf; exact absurd (show (none : Option (Int32 × Mem)) = some (r0, M') from hf) (fun h => by cases h)
          | succ k48 ih48 =>
            intro x1_48 x2_48 x3_48 M hf H locs ls hI hl
            unfold F_X10_strongestFrog_L48 at hf
            refine lv_iload_n C0.1 C0.2.1 dX10_strongestFrog_48 rfl (lv_at hl 3 rfl) ?_
            refine lv_aload_n C0.1 C0.2.1 dX10_strongestFrog_49 rfl (lv_at hl 0 rfl) ?_
            refine r_get (C := RX10) (T := TX10) (N9 := 20) (ci := 11) C0 C1 hI iX10 rfl 0 5 (Nat.le_of_ble_eq_true rfl) (by decide) ((fun _ => rfl) _) rfl rfl w_1696 dX10_strongestFrog_50 ?_
            refine lv_iload_n C0.1 C0.2.1 dX10_strongestFrog_53 rfl (lv_at hl 1 rfl) ?_
            refine lv_bipush (v := 7) C0.1 C0.2.1 dX10_strongestFrog_54 (by decide) ?_
            obtain ⟨r_48_2, h_48_1, hf⟩ := ob_some hf
            refine k_i C1 hI (q_S C0 C1 hI (c_X10_of l g X b H.size n M x1_48 7 h_48_1) w_1878 w_1879 w_132 w_1880 ⟨rfl, rfl⟩ hd_X10_of ⟨Nat.le_of_ble_eq_true rfl, Nat.le_of_ble_eq_true rfl⟩ rfl hl.1 rfl (Nat.le_of_ble_eq_true rfl) dX10_strongestFrog_56 ⟨Nat.le_of_ble_eq_true rfl, Nat.le_of_ble_eq_true rfl⟩) (fun H locs hI => ?_)
            obtain ⟨h_48_3, hf⟩ := chk_some hf
            refine r_iald C0 C1 hI 1 (Nat.le_of_ble_eq_true rfl) (fun _ => rfl) h_48_3 dX10_strongestFrog_59 ?_
            refine lv_icmp_ge (tgt := 86) C0.1 C0.2.1 dX10_strongestFrog_60 (by decide) (fun c_48_4 => ?_) (fun c_48_4 => ?_)
            · have hf := (if_pos c_48_4).symm.trans hf
              refine lv_aload_n C0.1 C0.2.1 dX10_strongestFrog_86 rfl (lv_at hl 0 rfl) ?_
              refine r_get (C := RX10) (T := TX10) (N9 := 20) (ci := 11) C0 C1 hI iX10 rfl 0 5 (Nat.le_of_ble_eq_true rfl) (by decide) ((fun _ => rfl) _) rfl rfl w_1696 dX10_strongestFrog_87 ?_
              refine lv_iload_n C0.1 C0.2.1 dX10_strongestFrog_90 rfl (lv_at hl 1 rfl) ?_
              refine lv_iload_n C0.1 C0.2.1 dX10_strongestFrog_91 rfl (lv_at hl 2 rfl) ?_
              obtain ⟨r_48_6, h_48_5, hf⟩ := ob_some hf
              refine k_i C1 hI (q_S C0 C1 hI (c_X10_croaked l g X b H.size n M x1_48 x2_48 h_48_5) w_2025 w_2026 w_132 w_2027 ⟨rfl, rfl⟩ hd_X10_croaked ⟨Nat.le_of_ble_eq_true rfl, Nat.le_of_ble_eq_true rfl⟩ rfl hl.1 rfl (Nat.le_of_ble_eq_true rfl) dX10_strongestFrog_92 ⟨Nat.le_of_ble_eq_true rfl, Nat.le_of_ble_eq_true rfl⟩) (fun H locs hI => ?_)
              obtain ⟨h_48_7, hf⟩ := chk_some hf
              refine r_iald C0 C1 hI 1 (Nat.le_of_ble_eq_true rfl) (fun _ => rfl) h_48_7 dX10_strongestFrog_95 ?_
              exact ee_im C0 hI hr hlocks hf dX10_strongestFrog_96
            · have hf := (if_neg c_48_4).symm.trans hf
              refine lv_aload_n C0.1 C0.2.1 dX10_strongestFrog_63 rfl (lv_at hl 0 rfl) ?_
              refine lv_iload_n C0.1 C0.2.1 dX10_strongestFrog_64 rfl (lv_at hl 1 rfl) ?_
              refine lv_iload_n C0.1 C0.2.1 dX10_strongestFrog_65 rfl (lv_at hl 3 rfl) ?_
              obtain ⟨r_48_9, h_48_8, hf⟩ := ob_some hf
              refine k_i C1 hI (q_V C0 C1 hI 0 (c_X10_strength l g X b H.size n M x1_48 x3_48 h_48_8) w_2032 w_2034 w_104 w_132 w_2035 ⟨rfl, rfl⟩ hd_X10_strength ⟨Nat.le_of_ble_eq_true rfl, Nat.le_of_ble_eq_true rfl⟩ (Nat.le_of_ble_eq_true rfl) ((fun _ => rfl) _) rfl rfl rfl hl.1 rfl (Nat.le_of_ble_eq_true rfl) dX10_strongestFrog_66 ⟨Nat.le_of_ble_eq_true rfl, Nat.le_of_ble_eq_true rfl⟩) (fun H locs hI => ?_)
              refine lv_aload_n C0.1 C0.2.1 dX10_strongestFrog_69 rfl (lv_at hl 0 rfl) ?_
              refine lv_iload_n C0.1 C0.2.1 dX10_strongestFrog_70 rfl (lv_at hl 1 rfl) ?_
              refine lv_iload_n C0.1 C0.2.1 dX10_strongestFrog_71 rfl (lv_at hl 2 rfl) ?_
              obtain ⟨r_48_11, h_48_10, hf⟩ := ob_some hf
              refine k_i C1 hI (q_V C0 C1 hI 0 (c_X10_strength l g X b H.size n M x1_48 x2_48 h_48_10) w_2032 w_2034 w_104 w_132 w_2035 ⟨rfl, rfl⟩ hd_X10_strength ⟨Nat.le_of_ble_eq_true rfl, Nat.le_of_ble_eq_true rfl⟩ (Nat.le_of_ble_eq_true rfl) ((fun _ => rfl) _) rfl rfl rfl hl.1 rfl (Nat.le_of_ble_eq_true rfl) dX10_strongestFrog_72 ⟨Nat.le_of_ble_eq_true rfl, Nat.le_of_ble_eq_true rfl⟩) (fun H locs hI => ?_)
              refine lv_icmp_le (tgt := 80) C0.1 C0.2.1 dX10_strongestFrog_75 (by decide) (fun c_48_12 => ?_) (fun c_48_12 => ?_)
              · have hf := (if_pos c_48_12).symm.trans hf
                obtain ⟨x3_48_13, e_48_14⟩ : ∃ z : Int32, z = x3_48 + 1 := ⟨_, rfl⟩
                have hf := lt_at e_48_14 hf
                refine lv_iinc (v := x3_48_13) (lv' := [(3, .int x3_48_13), (0, .ref (b 0)), (1, .int x1_48), (2, .int x2_48)]) C0.1 C0.2.1 dX10_strongestFrog_80 hl (k := 3) rfl (by rw [e_48_14]; rfl) (by decide) rfl (fun ls hl => ?_)
                refine lv_goto (tgt := 48) C0.1 C0.2.1 dX10_strongestFrog_83 (by decide) ?_
                exact ih48 x1_48 x2_48 x3_48_13 M hf H locs ls hI (lv_sub hl [1, 2, 3, 0] rfl)
              · have hf := (if_neg c_48_12).symm.trans hf
                refine lv_iload_n C0.1 C0.2.1 dX10_strongestFrog_78 rfl (lv_at hl 3 rfl) ?_
                refine lv_istore_n (lv' := [(2, .int x3_48), (0, .ref (b 0)), (1, .int x1_48), (3, .int x3_48)]) C0.1 C0.2.1 dX10_strongestFrog_79 rfl hl (by decide) rfl (fun ls hl => ?_)
                obtain ⟨x3_48_15, e_48_16⟩ : ∃ z : Int32, z = x3_48 + 1 := ⟨_, rfl⟩
                have hf := lt_at e_48_16 hf
                refine lv_iinc (v := x3_48_15) (lv' := [(3, .int x3_48_15), (2, .int x3_48), (0, .ref (b 0)), (1, .int x1_48)]) C0.1 C0.2.1 dX10_strongestFrog_80 hl (k := 3) rfl (by rw [e_48_16]; rfl) (by decide) rfl (fun ls hl => ?_)
                refine lv_goto (tgt := 48) C0.1 C0.2.1 dX10_strongestFrog_83 (by decide) ?_
                exact ih48 x1_48 x3_48 x3_48_15 M hf H locs ls hI (lv_sub hl [2, 3, 1, 0] rfl)
        exact L48 n x1 0 1 M_11 hf H locs ls hI (lv_sub hl [2, 3, 1, 0] rfl)
      · have hf := (if_neg c_13).symm.trans hf
        refine lv_iconst (v := 0) C0.1 C0.2.1 dX10_strongestFrog_42 (by decide) ?_
        exact ee_im C0 hI hr hlocks hf dX10_strongestFrog_43
  · have hf := (if_pos c_3).symm.trans hf
    refine lv_iconst (v := 1) C0.1 C0.2.1 dX10_strongestFrog_9 (by decide) ?_
    refine lv_goto (tgt := 32) C0.1 C0.2.1 dX10_strongestFrog_10 (by decide) ?_
    refine r_put (C := RX10) (T := TX10) (N9 := 20) (ci := 11) (fs := fM b) (ty := .int) C0 C1 hI iX10 tyX10 tyX10_ok nmX10 rfl 0 0 (Nat.le_of_ble_eq_true rfl) (by decide) (fun _ => rfl) rfl rfl rfl (by decide +kernel) ⟨rfl, rfl⟩ (Nat.le_of_ble_eq_true rfl) w_1691 dX10_strongestFrog_32 (fun H locs hI => ?_)
    obtain ⟨M_14, e_15⟩ : ∃ z : Mem, z = up2 M 0 0 1 := ⟨_, rfl⟩
    rw [← e_15] at hI
    have hf := lt_at e_15 hf
    refine lv_aload_n C0.1 C0.2.1 dX10_strongestFrog_35 rfl (lv_at hl 0 rfl) ?_
    refine r_get (C := RX10) (T := TX10) (N9 := 20) (ci := 11) C0 C1 hI iX10 rfl 0 0 (Nat.le_of_ble_eq_true rfl) (by decide) ((fun _ => rfl) _) rfl rfl w_1691 dX10_strongestFrog_36 ?_
    refine lv_if_eq (tgt := 44) C0.1 C0.2.1 dX10_strongestFrog_39 (by decide) (fun c_16 => ?_) (fun c_16 => ?_)
    · have hf := (if_pos c_16).symm.trans hf
      refine lv_iconst (v := 0) C0.1 C0.2.1 dX10_strongestFrog_44 (by decide) ?_
      refine lv_istore_n (lv' := [(2, .int 0), (0, .ref (b 0)), (1, .int x1)]) C0.1 C0.2.1 dX10_strongestFrog_45 rfl hl (by decide) rfl (fun ls hl => ?_)
      refine lv_iconst (v := 1) C0.1 C0.2.1 dX10_strongestFrog_46 (by decide) ?_
      refine lv_istore_n (lv' := [(3, .int 1), (2, .int 0), (0, .ref (b 0)), (1, .int x1)]) C0.1 C0.2.1 dX10_strongestFrog_47 rfl hl (by decide) rfl (fun ls hl => ?_)
      have L48 : ∀ (k48 : Nat) (x1_48 : Int32) (x2_48 : Int32) (x3_48 : Int32) (M : Mem), F_X10_strongestFrog_L48 n k48 x1_48 x2_48 x3_48 M = some (r0, M') → ∀ (H : Heap) (locs : List Loc) (ls : Array Slot), PI g X 10 (shM g b) b s M H locs → lv_has ls 4 [(0, .ref (b 0)), (1, .int x1_48), (2, .int x2_48), (3, .int x3_48)] → W p l e (rmD 2 0 0) s m ([.ref (b 0), .int x1] : List Value).toArray below meth c H locs 0 0 (MQ below (Qi g X 10 (shM g b) b s.heap.size r0 M') ([.ref (b 0), .int x1] : List Value).toArray s 0 0 (AA X b 10 s.heap.size)) (F0 m 48 ls []) := by
        intro k48
        induction k48 with
        | zero => intro x1_48 x2_48 x3_48 M hf; exact absurd (show (none : Option (Int32 × Mem)) = some (r0, M') from hf) (fun h => by cases h)
        | succ k48 ih48 =>
          intro x1_48 x2_48 x3_48 M hf H locs ls hI hl
          unfold F_X10_strongestFrog_L48 at hf
          refine lv_iload_n C0.1 C0.2.1 dX10_strongestFrog_48 rfl (lv_at hl 3 rfl) ?_
          refine lv_aload_n C0.1 C0.2.1 dX10_strongestFrog_49 rfl (lv_at hl 0 rfl) ?_
          refine r_get (C := RX10) (T := TX10) (N9 := 20) (ci := 11) C0 C1 hI iX10 rfl 0 5 (Nat.le_of_ble_eq_true rfl) (by decide) ((fun _ => rfl) _) rfl rfl w_1696 dX10_strongestFrog_50 ?_
          refine lv_iload_n C0.1 C0.2.1 dX10_strongestFrog_53 rfl (lv_at hl 1 rfl) ?_
          refine lv_bipush (v := 7) C0.1 C0.2.1 dX10_strongestFrog_54 (by decide) ?_
          obtain ⟨r_48_2, h_48_1, hf⟩ := ob_some hf
          refine k_i C1 hI (q_S C0 C1 hI (c_X10_of l g X b H.size n M x1_48 7 h_48_1) w_1878 w_1879 w_132 w_1880 ⟨rfl, rfl⟩ hd_X10_of ⟨Nat.le_of_ble_eq_true rfl, Nat.le_of_ble_eq_true rfl⟩ rfl hl.1 rfl (Nat.le_of_ble_eq_true rfl) dX10_strongestFrog_56 ⟨Nat.le_of_ble_eq_true rfl, Nat.le_of_ble_eq_true rfl⟩) (fun H locs hI => ?_)
          obtain ⟨h_48_3, hf⟩ := chk_some hf
          refine r_iald C0 C1 hI 1 (Nat.le_of_ble_eq_true rfl) (fun _ => rfl) h_48_3 dX10_strongestFrog_59 ?_
          refine lv_icmp_ge (tgt := 86) C0.1 C0.2.1 dX10_strongestFrog_60 (by decide) (fun c_48_4 => ?_) (fun c_48_4 => ?_)
          · have hf := (if_pos c_48_4).symm.trans hf
            refine lv_aload_n C0.1 C0.2.1 dX10_strongestFrog_86 rfl (lv_at hl 0 rfl) ?_
            refine r_get (C := RX10) (T := TX10) (N9 := 20) (ci := 11) C0 C1 hI iX10 rfl 0 5 (Nat.le_of_ble_eq_true rfl) (by decide) ((fun _ => rfl) _) rfl rfl w_1696 dX10_strongestFrog_87 ?_
            refine lv_iload_n C0.1 C0.2.1 dX10_strongestFrog_90 rfl (lv_at hl 1 rfl) ?_
            refine lv_iload_n C0.1 C0.2.1 dX10_strongestFrog_91 rfl (lv_at hl 2 rfl) ?_
            obtain ⟨r_48_6, h_48_5, hf⟩ := ob_some hf
            refine k_i C1 hI (q_S C0 C1 hI (c_X10_croaked l g X b H.size n M x1_48 x2_48 h_48_5) w_2025 w_2026 w_132 w_2027 ⟨rfl, rfl⟩ hd_X10_croaked ⟨Nat.le_of_ble_eq_true rfl, Nat.le_of_ble_eq_true rfl⟩ rfl hl.1 rfl (Nat.le_of_ble_eq_true rfl) dX10_strongestFrog_92 ⟨Nat.le_of_ble_eq_true rfl, Nat.le_of_ble_eq_true rfl⟩) (fun H locs hI => ?_)
            obtain ⟨h_48_7, hf⟩ := chk_some hf
            refine r_iald C0 C1 hI 1 (Nat.le_of_ble_eq_true rfl) (fun _ => rfl) h_48_7 dX10_strongestFrog_95 ?_
            exact ee_im C0 hI hr hlocks hf dX10_strongestFrog_96
          · have hf := (if_neg c_48_4).symm.trans hf
            refine lv_aload_n C0.1 C0.2.1 dX10_strongestFrog_63 rfl (lv_at hl 0 rfl) ?_
            refine lv_iload_n C0.1 C0.2.1 dX10_strongestFrog_64 rfl (lv_at hl 1 rfl) ?_
            refine lv_iload_n C0.1 C0.2.1 dX10_strongestFrog_65 rfl (lv_at hl 3 rfl) ?_
            obtain ⟨r_48_9, h_48_8, hf⟩ := ob_some hf
            refine k_i C1 hI (q_V C0 C1 hI 0 (c_X10_strength l g X b H.size n M x1_48 x3_48 h_48_8) w_2032 w_2034 w_104 w_132 w_2035 ⟨rfl, rfl⟩ hd_X10_strength ⟨Nat.le_of_ble_eq_true rfl, Nat.le_of_ble_eq_true rfl⟩ (Nat.le_of_ble_eq_true rfl) ((fun _ => rfl) _) rfl rfl rfl hl.1 rfl (Nat.le_of_ble_eq_true rfl) dX10_strongestFrog_66 ⟨Nat.le_of_ble_eq_true rfl, Nat.le_of_ble_eq_true rfl⟩) (fun H locs hI => ?_)
            refine lv_aload_n C0.1 C0.2.1 dX10_strongestFrog_69 rfl (lv_at hl 0 rfl) ?_
            refine lv_iload_n C0.1 C0.2.1 dX10_strongestFrog_70 rfl (lv_at hl 1 rfl) ?_
            refine lv_iload_n C0.1 C0.2.1 dX10_strongestFrog_71 rfl (lv_at hl 2 rfl) ?_
            obtain ⟨r_48_11, h_48_10, hf⟩ := ob_some hf
            refine k_i C1 hI (q_V C0 C1 hI 0 (c_X10_strength l g X b H.size n M x1_48 x2_48 h_48_10) w_2032 w_2034 w_104 w_132 w_2035 ⟨rfl, rfl⟩ hd_X10_strength ⟨Nat.le_of_ble_eq_true rfl, Nat.le_of_ble_eq_true rfl⟩ (Nat.le_of_ble_eq_true rfl) ((fun _ => rfl) _) rfl rfl rfl hl.1 rfl (Nat.le_of_ble_eq_true rfl) dX10_strongestFrog_72 ⟨Nat.le_of_ble_eq_true rfl, Nat.le_of_ble_eq_true rfl⟩) (fun H locs hI => ?_)
            refine lv_icmp_le (tgt := 80) C0.1 C0.2.1 dX10_strongestFrog_75 (by decide) (fun c_48_12 => ?_) (fun c_48_12 => ?_)
            · have hf := (if_pos c_48_12).symm.trans hf
              obtain ⟨x3_48_13, e_48_14⟩ : ∃ z : Int32, z = x3_48 + 1 := ⟨_, rfl⟩
              have hf := lt_at e_48_14 hf
              refine lv_iinc (v := x3_48_13) (lv' := [(3, .int x3_48_13), (0, .ref (b 0)), (1, .int x1_48), (2, .int x2_48)]) C0.1 C0.2.1 dX10_strongestFrog_80 hl (k := 3) rfl (by rw [e_48_14]; rfl) (by decide) rfl (fun ls hl => ?_)
              refine lv_goto (tgt := 48) C0.1 C0.2.1 dX10_strongestFrog_83 (by decide) ?_
              exact ih48 x1_48 x2_48 x3_48_13 M hf H locs ls hI (lv_sub hl [1, 2, 3, 0] rfl)
            · have hf := (if_neg c_48_12).symm.trans hf
              refine lv_iload_n C0.1 C0.2.1 dX10_strongestFrog_78 rfl (lv_at hl 3 rfl) ?_
              refine lv_istore_n (lv' := [(2, .int x3_48), (0, .ref (b 0)), (1, .int x1_48), (3, .int x3_48)]) C0.1 C0.2.1 dX10_strongestFrog_79 rfl hl (by decide) rfl (fun ls hl => ?_)
              obtain ⟨x3_48_15, e_48_16⟩ : ∃ z : Int32, z = x3_48 + 1 := ⟨_, rfl⟩
              have hf := lt_at e_48_16 hf
              refine lv_iinc (v := x3_48_15) (lv' := [(3, .int x3_48_15), (2, .int x3_48), (0, .ref (b 0)), (1, .int x1_48)]) C0.1 C0.2.1 dX10_strongestFrog_80 hl (k := 3) rfl (by rw [e_48_16]; rfl) (by decide) rfl (fun ls hl => ?_)
              refine lv_goto (tgt := 48) C0.1 C0.2.1 dX10_strongestFrog_83 (by decide) ?_
              exact ih48 x1_48 x3_48 x3_48_15 M hf H locs ls hI (lv_sub hl [2, 3, 1, 0] rfl)
      exact L48 n x1 0 1 M_14 hf H locs ls hI (lv_sub hl [2, 3, 1, 0] rfl)
    · have hf := (if_neg c_16).symm.trans hf
      refine lv_iconst (v := 0) C0.1 C0.2.1 dX10_strongestFrog_42 (by decide) ?_
      exact ee_im C0 hI hr hlocks hf dX10_strongestFrog_43

def F_X10_speechTotal (n : Nat) (M : Mem) : Option (Int32 × Mem) :=
  ob2 (F_X10_tells n 3 M) (fun r_2 M_3 => some (r_2, M_3))
theorem hd_X10_speechTotal : yX10_speechTotal.cls ≠ "java/lang/invoke/MethodHandle" ∧ yX10_speechTotal.cls ≠ "java/lang/invoke/VarHandle" ∧ (parseMethodDescriptor yX10_speechTotal.desc).map (fun d => d.parameters.length) = some 0 := ⟨by decide +kernel, by decide +kernel, by decide +kernel⟩
set_option maxHeartbeats 4000000 in
set_option maxRecDepth 100000 in
theorem c_X10_speechTotal (l : Launch) (g : GG) (X : va_W) (b : Nat → Nat) (sz n : Nat) (M : Mem) {r0 : Int32} {M' : Mem} (hf : F_X10_speechTotal n M = some (r0, M')) : Met l yX10_speechTotal (.code yX10_speechTotal cX10_speechTotal 1 (some .int) :: LWg) (rmD 1 0 0) (va_Pc [.ref (b 0)] (PreP g X 10 (shM g b) b sz M)) (Qi g X 10 (shM g b) b sz r0 M') 0 0 (AA X b 10 sz) := by
  refine met_go (by decide +kernel) rfl (Nat.le_of_ble_eq_true rfl) ?_
  intro p e s m below meth c ls H locs C0 C1 hr hlocks hnm hsz hl hI
  subst hsz
  have hl : lv_has ls 1 [(0, .ref (b 0))] := hl
  unfold F_X10_speechTotal at hf
  refine lv_aload_n C0.1 C0.2.1 dX10_speechTotal_0 rfl (lv_at hl 0 rfl) ?_
  refine lv_iconst (v := 3) C0.1 C0.2.1 dX10_speechTotal_1 (by decide) ?_
  obtain ⟨r_2, M_3, h_1, hf⟩ := ob2_some hf
  refine k_i C1 hI (q_V C0 C1 hI 0 (c_X10_tells l g X b H.size n M 3 h_1) w_1826 w_1828 w_81 w_132 w_1829 ⟨rfl, rfl⟩ hd_X10_tells ⟨Nat.le_of_ble_eq_true rfl, Nat.le_of_ble_eq_true rfl⟩ (Nat.le_of_ble_eq_true rfl) ((fun _ => rfl) _) rfl rfl rfl hl.1 rfl (Nat.le_of_ble_eq_true rfl) dX10_speechTotal_2 ⟨Nat.le_of_ble_eq_true rfl, Nat.le_of_ble_eq_true rfl⟩) (fun H locs hI => ?_)
  exact ee_im C0 hI hr hlocks hf dX10_speechTotal_5

def F_X10_missedTotal (n : Nat) (M : Mem) : Option (Int32 × Mem) :=
  ob2 (F_X10_tells n 4 M) (fun r_2 M_3 => some (r_2, M_3))
theorem hd_X10_missedTotal : yX10_missedTotal.cls ≠ "java/lang/invoke/MethodHandle" ∧ yX10_missedTotal.cls ≠ "java/lang/invoke/VarHandle" ∧ (parseMethodDescriptor yX10_missedTotal.desc).map (fun d => d.parameters.length) = some 0 := ⟨by decide +kernel, by decide +kernel, by decide +kernel⟩
set_option maxHeartbeats 4000000 in
set_option maxRecDepth 100000 in
theorem c_X10_missedTotal (l : Launch) (g : GG) (X : va_W) (b : Nat → Nat) (sz n : Nat) (M : Mem) {r0 : Int32} {M' : Mem} (hf : F_X10_missedTotal n M = some (r0, M')) : Met l yX10_missedTotal (.code yX10_missedTotal cX10_missedTotal 1 (some .int) :: LWg) (rmD 1 0 0) (va_Pc [.ref (b 0)] (PreP g X 10 (shM g b) b sz M)) (Qi g X 10 (shM g b) b sz r0 M') 0 0 (AA X b 10 sz) := by
  refine met_go (by decide +kernel) rfl (Nat.le_of_ble_eq_true rfl) ?_
  intro p e s m below meth c ls H locs C0 C1 hr hlocks hnm hsz hl hI
  subst hsz
  have hl : lv_has ls 1 [(0, .ref (b 0))] := hl
  unfold F_X10_missedTotal at hf
  refine lv_aload_n C0.1 C0.2.1 dX10_missedTotal_0 rfl (lv_at hl 0 rfl) ?_
  refine lv_iconst (v := 4) C0.1 C0.2.1 dX10_missedTotal_1 (by decide) ?_
  obtain ⟨r_2, M_3, h_1, hf⟩ := ob2_some hf
  refine k_i C1 hI (q_V C0 C1 hI 0 (c_X10_tells l g X b H.size n M 4 h_1) w_1826 w_1828 w_81 w_132 w_1829 ⟨rfl, rfl⟩ hd_X10_tells ⟨Nat.le_of_ble_eq_true rfl, Nat.le_of_ble_eq_true rfl⟩ (Nat.le_of_ble_eq_true rfl) ((fun _ => rfl) _) rfl rfl rfl hl.1 rfl (Nat.le_of_ble_eq_true rfl) dX10_missedTotal_2 ⟨Nat.le_of_ble_eq_true rfl, Nat.le_of_ble_eq_true rfl⟩) (fun H locs hI => ?_)
  exact ee_im C0 hI hr hlocks hf dX10_missedTotal_5

def F_X10_adoptedCount_L9 (n : Nat) : Nat → Int32 → Int32 → Mem → Option (Int32 × Mem)
  | 0, _, _, _ => none
  | k9 + 1, x1_9, x2_9, M =>
    chk (inb 2 407) ((if (M 1 (ix 2)) ≤ x2_9 then some (x1_9, M) else ob (F_X10_of n x2_9 3 M) (fun r_9_4 => chk (inb r_9_4 407) (lt' (x1_9 + (M 1 (ix r_9_4))) (fun x1_9_6 => lt' (x2_9 + 1) (fun x2_9_8 => F_X10_adoptedCount_L9 n k9 x1_9_6 x2_9_8 M))))))
def F_X10_adoptedCount (n : Nat) (M : Mem) : Option (Int32 × Mem) :=
  lt' (up2 M 0 0 0) (fun M_1 => F_X10_adoptedCount_L9 n n 0 0 M_1)
theorem hd_X10_adoptedCount : yX10_adoptedCount.cls ≠ "java/lang/invoke/MethodHandle" ∧ yX10_adoptedCount.cls ≠ "java/lang/invoke/VarHandle" ∧ (parseMethodDescriptor yX10_adoptedCount.desc).map (fun d => d.parameters.length) = some 0 := ⟨by decide +kernel, by decide +kernel, by decide +kernel⟩
set_option maxHeartbeats 4000000 in
set_option maxRecDepth 100000 in
theorem c_X10_adoptedCount (l : Launch) (g : GG) (X : va_W) (b : Nat → Nat) (sz n : Nat) (M : Mem) {r0 : Int32} {M' : Mem} (hf : F_X10_adoptedCount n M = some (r0, M')) : Met l yX10_adoptedCount (.code yX10_adoptedCount cX10_adoptedCount 3 (some .int) :: LWg) (rmD 1 0 0) (va_Pc [.ref (b 0)] (PreP g X 10 (shM g b) b sz M)) (Qi g X 10 (shM g b) b sz r0 M') 0 0 (AA X b 10 sz) := by
  refine met_go (by decide +kernel) rfl (Nat.le_of_ble_eq_true rfl) ?_
  intro p e s m below meth c ls H locs C0 C1 hr hlocks hnm hsz hl hI
  subst hsz
  have hl : lv_has ls 3 [(0, .ref (b 0))] := hl
  unfold F_X10_adoptedCount at hf
  refine lv_aload_n C0.1 C0.2.1 dX10_adoptedCount_0 rfl (lv_at hl 0 rfl) ?_
  refine lv_iconst (v := 0) C0.1 C0.2.1 dX10_adoptedCount_1 (by decide) ?_
  refine r_put (C := RX10) (T := TX10) (N9 := 20) (ci := 11) (fs := fM b) (ty := .int) C0 C1 hI iX10 tyX10 tyX10_ok nmX10 rfl 0 0 (Nat.le_of_ble_eq_true rfl) (by decide) (fun _ => rfl) rfl rfl rfl (by decide +kernel) ⟨rfl, rfl⟩ (Nat.le_of_ble_eq_true rfl) w_1691 dX10_adoptedCount_2 (fun H locs hI => ?_)
  obtain ⟨M_1, e_2⟩ : ∃ z : Mem, z = up2 M 0 0 0 := ⟨_, rfl⟩
  rw [← e_2] at hI
  have hf := lt_at e_2 hf
  refine lv_iconst (v := 0) C0.1 C0.2.1 dX10_adoptedCount_5 (by decide) ?_
  refine lv_istore_n (lv' := [(1, .int 0), (0, .ref (b 0))]) C0.1 C0.2.1 dX10_adoptedCount_6 rfl hl (by decide) rfl (fun ls hl => ?_)
  refine lv_iconst (v := 0) C0.1 C0.2.1 dX10_adoptedCount_7 (by decide) ?_
  refine lv_istore_n (lv' := [(2, .int 0), (1, .int 0), (0, .ref (b 0))]) C0.1 C0.2.1 dX10_adoptedCount_8 rfl hl (by decide) rfl (fun ls hl => ?_)
  have L9 : ∀ (k9 : Nat) (x1_9 : Int32) (x2_9 : Int32) (M : Mem), F_X10_adoptedCount_L9 n k9 x1_9 x2_9 M = some (r0, M') → ∀ (H : Heap) (locs : List Loc) (ls : Array Slot), PI g X 10 (shM g b) b s M H locs → lv_has ls 3 [(0, .ref (b 0)), (1, .int x1_9), (2, .int x2_9)] → W p l e (rmD 1 0 0) s m ([.ref (b 0)] : List Value).toArray below meth c H locs 0 0 (MQ below (Qi g X 10 (shM g b) b s.heap.size r0 M') ([.ref (b 0)] : List Value).toArray s 0 0 (AA X b 10 s.heap.size)) (F0 m 9 ls []) := by
    intro k9
    induction k9 with
    | zero => intro x1_9 x2_9 M hf; exact absurd (show (none : Option (Int32 × Mem)) = some (r0, M') from hf) (fun h => by cases h)
    | succ k9 ih9 =>
      intro x1_9 x2_9 M hf H locs ls hI hl
      unfold F_X10_adoptedCount_L9 at hf
      refine lv_iload_n C0.1 C0.2.1 dX10_adoptedCount_9 rfl (lv_at hl 2 rfl) ?_
      refine lv_aload_n C0.1 C0.2.1 dX10_adoptedCount_10 rfl (lv_at hl 0 rfl) ?_
      refine r_get (C := RX10) (T := TX10) (N9 := 20) (ci := 11) C0 C1 hI iX10 rfl 0 5 (Nat.le_of_ble_eq_true rfl) (by decide) ((fun _ => rfl) _) rfl rfl w_1696 dX10_adoptedCount_11 ?_
      refine lv_iconst (v := 2) C0.1 C0.2.1 dX10_adoptedCount_14 (by decide) ?_
      obtain ⟨h_9_1, hf⟩ := chk_some hf
      refine r_iald C0 C1 hI 1 (Nat.le_of_ble_eq_true rfl) (fun _ => rfl) h_9_1 dX10_adoptedCount_15 ?_
      refine lv_icmp_ge (tgt := 38) C0.1 C0.2.1 dX10_adoptedCount_16 (by decide) (fun c_9_2 => ?_) (fun c_9_2 => ?_)
      · have hf := (if_pos c_9_2).symm.trans hf
        refine lv_iload_n C0.1 C0.2.1 dX10_adoptedCount_38 rfl (lv_at hl 1 rfl) ?_
        exact ee_im C0 hI hr hlocks hf dX10_adoptedCount_39
      · have hf := (if_neg c_9_2).symm.trans hf
        refine lv_iload_n C0.1 C0.2.1 dX10_adoptedCount_19 rfl (lv_at hl 1 rfl) ?_
        refine lv_aload_n C0.1 C0.2.1 dX10_adoptedCount_20 rfl (lv_at hl 0 rfl) ?_
        refine r_get (C := RX10) (T := TX10) (N9 := 20) (ci := 11) C0 C1 hI iX10 rfl 0 5 (Nat.le_of_ble_eq_true rfl) (by decide) ((fun _ => rfl) _) rfl rfl w_1696 dX10_adoptedCount_21 ?_
        refine lv_iload_n C0.1 C0.2.1 dX10_adoptedCount_24 rfl (lv_at hl 2 rfl) ?_
        refine lv_iconst (v := 3) C0.1 C0.2.1 dX10_adoptedCount_25 (by decide) ?_
        obtain ⟨r_9_4, h_9_3, hf⟩ := ob_some hf
        refine k_i C1 hI (q_S C0 C1 hI (c_X10_of l g X b H.size n M x2_9 3 h_9_3) w_1878 w_1879 w_132 w_1880 ⟨rfl, rfl⟩ hd_X10_of ⟨Nat.le_of_ble_eq_true rfl, Nat.le_of_ble_eq_true rfl⟩ rfl hl.1 rfl (Nat.le_of_ble_eq_true rfl) dX10_adoptedCount_26 ⟨Nat.le_of_ble_eq_true rfl, Nat.le_of_ble_eq_true rfl⟩) (fun H locs hI => ?_)
        obtain ⟨h_9_5, hf⟩ := chk_some hf
        refine r_iald C0 C1 hI 1 (Nat.le_of_ble_eq_true rfl) (fun _ => rfl) h_9_5 dX10_adoptedCount_29 ?_
        refine lv_iadd C0.1 C0.2.1 dX10_adoptedCount_30 ?_
        refine lv_topi (fun x1_9_6 e_9_7 => ?_)
        have hf := lt_at e_9_7 hf
        refine lv_istore_n (lv' := [(1, .int x1_9_6), (0, .ref (b 0)), (2, .int x2_9)]) C0.1 C0.2.1 dX10_adoptedCount_31 rfl hl (by decide) rfl (fun ls hl => ?_)
        obtain ⟨x2_9_8, e_9_9⟩ : ∃ z : Int32, z = x2_9 + 1 := ⟨_, rfl⟩
        have hf := lt_at e_9_9 hf
        refine lv_iinc (v := x2_9_8) (lv' := [(2, .int x2_9_8), (1, .int x1_9_6), (0, .ref (b 0))]) C0.1 C0.2.1 dX10_adoptedCount_32 hl (k := 2) rfl (by rw [e_9_9]; rfl) (by decide) rfl (fun ls hl => ?_)
        refine lv_goto (tgt := 9) C0.1 C0.2.1 dX10_adoptedCount_35 (by decide) ?_
        exact ih9 x1_9_6 x2_9_8 M hf H locs ls hI (lv_sub hl [2, 1, 0] rfl)
  exact L9 n 0 0 M_1 hf H locs ls hI (lv_sub hl [2, 1, 0] rfl)

def F_X10_append (n : Nat) (x1 : Int32) (M : Mem) : Option (Int32 × Mem) :=
  ob (F_X10_isIn n x1 32 126 M) (fun r_2 => (if r_2 = 0 then lt' (up2 M 0 0 1) (fun M_25 => (if (M_25 0 0) = 0 then chk (inb (M_25 0 14) 60) (lt' (up2 M_25 5 (ix (M_25 0 14)) x1) (fun M_31 => lt' (up2 M_31 0 14 ((M_31 0 14) + 1)) (fun M_33 => some (M_33 0 14, M_33)))) else some (0, M_25))) else (if (M 0 14) = 60 then lt' (up2 M 0 0 2) (fun M_15 => (if (M_15 0 0) = 0 then chk (inb (M_15 0 14) 60) (lt' (up2 M_15 5 (ix (M_15 0 14)) x1) (fun M_21 => lt' (up2 M_21 0 14 ((M_21 0 14) + 1)) (fun M_23 => some (M_23 0 14, M_23)))) else some (0, M_15))) else lt' (up2 M 0 0 0) (fun M_5 => (if (M_5 0 0) = 0 then chk (inb (M_5 0 14) 60) (lt' (up2 M_5 5 (ix (M_5 0 14)) x1) (fun M_11 => lt' (up2 M_11 0 14 ((M_11 0 14) + 1)) (fun M_13 => some (M_13 0 14, M_13)))) else some (0, M_5))))))
theorem hd_X10_append : yX10_append.cls ≠ "java/lang/invoke/MethodHandle" ∧ yX10_append.cls ≠ "java/lang/invoke/VarHandle" ∧ (parseMethodDescriptor yX10_append.desc).map (fun d => d.parameters.length) = some 1 := ⟨by decide +kernel, by decide +kernel, by decide +kernel⟩
set_option maxHeartbeats 4000000 in
set_option maxRecDepth 100000 in
theorem c_X10_append (l : Launch) (g : GG) (X : va_W) (b : Nat → Nat) (sz n : Nat) (M : Mem) (x1 : Int32) {r0 : Int32} {M' : Mem} (hf : F_X10_append n x1 M = some (r0, M')) : Met l yX10_append (.code yX10_append cX10_append 2 (some .int) :: LWg) (rmD 1 0 0) (va_Pc [.ref (b 0), .int x1] (PreP g X 10 (shM g b) b sz M)) (Qi g X 10 (shM g b) b sz r0 M') 0 0 (AA X b 10 sz) := by
  refine met_go (by decide +kernel) rfl (Nat.le_of_ble_eq_true rfl) ?_
  intro p e s m below meth c ls H locs C0 C1 hr hlocks hnm hsz hl hI
  subst hsz
  have hl : lv_has ls 2 [(0, .ref (b 0)), (1, .int x1)] := hl
  unfold F_X10_append at hf
  refine lv_aload_n C0.1 C0.2.1 dX10_append_0 rfl (lv_at hl 0 rfl) ?_
  refine lv_iload_n C0.1 C0.2.1 dX10_append_1 rfl (lv_at hl 1 rfl) ?_
  refine lv_bipush (v := 32) C0.1 C0.2.1 dX10_append_2 (by decide) ?_
  refine lv_bipush (v := 126) C0.1 C0.2.1 dX10_append_4 (by decide) ?_
  obtain ⟨r_2, h_1, hf⟩ := ob_some hf
  refine k_i C1 hI (q_S C0 C1 hI (c_X10_isIn l g X b H.size n M x1 32 126 h_1) w_1771 w_1772 w_132 w_1773 ⟨rfl, rfl⟩ hd_X10_isIn ⟨Nat.le_of_ble_eq_true rfl, Nat.le_of_ble_eq_true rfl⟩ rfl hl.1 rfl (Nat.le_of_ble_eq_true rfl) dX10_append_6 ⟨Nat.le_of_ble_eq_true rfl, Nat.le_of_ble_eq_true rfl⟩) (fun H locs hI => ?_)
  refine lv_if_ne (tgt := 16) C0.1 C0.2.1 dX10_append_9 (by decide) (fun c_3 => ?_) (fun c_3 => ?_)
  · have hf := (if_neg c_3).symm.trans hf
    refine lv_aload_n C0.1 C0.2.1 dX10_append_16 rfl (lv_at hl 0 rfl) ?_
    refine r_get (C := RX10) (T := TX10) (N9 := 20) (ci := 11) C0 C1 hI iX10 rfl 0 14 (Nat.le_of_ble_eq_true rfl) (by decide) ((fun _ => rfl) _) rfl rfl w_1705 dX10_append_17 ?_
    refine lv_bipush (v := 60) C0.1 C0.2.1 dX10_append_20 (by decide) ?_
    refine lv_icmp_ne (tgt := 29) C0.1 C0.2.1 dX10_append_22 (by decide) (fun c_4 => ?_) (fun c_4 => ?_)
    · have hf := (if_neg c_4).symm.trans hf
      refine lv_iconst (v := 0) C0.1 C0.2.1 dX10_append_29 (by decide) ?_
      refine r_put (C := RX10) (T := TX10) (N9 := 20) (ci := 11) (fs := fM b) (ty := .int) C0 C1 hI iX10 tyX10 tyX10_ok nmX10 rfl 0 0 (Nat.le_of_ble_eq_true rfl) (by decide) (fun _ => rfl) rfl rfl rfl (by decide +kernel) ⟨rfl, rfl⟩ (Nat.le_of_ble_eq_true rfl) w_1691 dX10_append_30 (fun H locs hI => ?_)
      obtain ⟨M_5, e_6⟩ : ∃ z : Mem, z = up2 M 0 0 0 := ⟨_, rfl⟩
      rw [← e_6] at hI
      have hf := lt_at e_6 hf
      refine lv_aload_n C0.1 C0.2.1 dX10_append_33 rfl (lv_at hl 0 rfl) ?_
      refine r_get (C := RX10) (T := TX10) (N9 := 20) (ci := 11) C0 C1 hI iX10 rfl 0 0 (Nat.le_of_ble_eq_true rfl) (by decide) ((fun _ => rfl) _) rfl rfl w_1691 dX10_append_34 ?_
      refine lv_if_eq (tgt := 42) C0.1 C0.2.1 dX10_append_37 (by decide) (fun c_7 => ?_) (fun c_7 => ?_)
      · have hf := (if_pos c_7).symm.trans hf
        refine lv_aload_n C0.1 C0.2.1 dX10_append_42 rfl (lv_at hl 0 rfl) ?_
        refine r_get (C := RX10) (T := TX10) (N9 := 20) (ci := 11) C0 C1 hI iX10 rfl 0 9 (Nat.le_of_ble_eq_true rfl) (by decide) ((fun _ => rfl) _) rfl rfl w_1700 dX10_append_43 ?_
        refine lv_aload_n C0.1 C0.2.1 dX10_append_46 rfl (lv_at hl 0 rfl) ?_
        refine r_get (C := RX10) (T := TX10) (N9 := 20) (ci := 11) C0 C1 hI iX10 rfl 0 14 (Nat.le_of_ble_eq_true rfl) (by decide) ((fun _ => rfl) _) rfl rfl w_1705 dX10_append_47 ?_
        refine lv_iload_n C0.1 C0.2.1 dX10_append_50 rfl (lv_at hl 1 rfl) ?_
        obtain ⟨h_8, hf⟩ := chk_some hf
        refine r_iast C0 C1 hI 5 (Nat.le_of_ble_eq_true rfl) (fun _ => rfl) h_8 dX10_append_51 (fun H locs hI => ?_)
        obtain ⟨M_11, e_12⟩ : ∃ z : Mem, z = up2 M_5 5 (ix (M_5 0 14)) x1 := ⟨_, rfl⟩
        rw [← e_12] at hI
        have hf := lt_at e_12 hf
        refine lv_aload_n C0.1 C0.2.1 dX10_append_52 rfl (lv_at hl 0 rfl) ?_
        refine lv_dup C0.1 C0.2.1 dX10_append_53 rfl ?_
        refine r_get (C := RX10) (T := TX10) (N9 := 20) (ci := 11) C0 C1 hI iX10 rfl 0 14 (Nat.le_of_ble_eq_true rfl) (by decide) ((fun _ => rfl) _) rfl rfl w_1705 dX10_append_54 ?_
        refine lv_iconst (v := 1) C0.1 C0.2.1 dX10_append_57 (by decide) ?_
        refine lv_iadd C0.1 C0.2.1 dX10_append_58 ?_
        refine r_put (C := RX10) (T := TX10) (N9 := 20) (ci := 11) (fs := fM b) (ty := .int) C0 C1 hI iX10 tyX10 tyX10_ok nmX10 rfl 0 14 (Nat.le_of_ble_eq_true rfl) (by decide) (fun _ => rfl) rfl rfl rfl (by decide +kernel) ⟨rfl, rfl⟩ (Nat.le_of_ble_eq_true rfl) w_1705 dX10_append_59 (fun H locs hI => ?_)
        obtain ⟨M_13, e_14⟩ : ∃ z : Mem, z = up2 M_11 0 14 ((M_11 0 14) + 1) := ⟨_, rfl⟩
        rw [← e_14] at hI
        have hf := lt_at e_14 hf
        refine lv_aload_n C0.1 C0.2.1 dX10_append_62 rfl (lv_at hl 0 rfl) ?_
        refine r_get (C := RX10) (T := TX10) (N9 := 20) (ci := 11) C0 C1 hI iX10 rfl 0 14 (Nat.le_of_ble_eq_true rfl) (by decide) ((fun _ => rfl) _) rfl rfl w_1705 dX10_append_63 ?_
        exact ee_im C0 hI hr hlocks hf dX10_append_66
      · have hf := (if_neg c_7).symm.trans hf
        refine lv_iconst (v := 0) C0.1 C0.2.1 dX10_append_40 (by decide) ?_
        exact ee_im C0 hI hr hlocks hf dX10_append_41
    · have hf := (if_pos c_4).symm.trans hf
      refine lv_iconst (v := 2) C0.1 C0.2.1 dX10_append_25 (by decide) ?_
      refine lv_goto (tgt := 30) C0.1 C0.2.1 dX10_append_26 (by decide) ?_
      refine r_put (C := RX10) (T := TX10) (N9 := 20) (ci := 11) (fs := fM b) (ty := .int) C0 C1 hI iX10 tyX10 tyX10_ok nmX10 rfl 0 0 (Nat.le_of_ble_eq_true rfl) (by decide) (fun _ => rfl) rfl rfl rfl (by decide +kernel) ⟨rfl, rfl⟩ (Nat.le_of_ble_eq_true rfl) w_1691 dX10_append_30 (fun H locs hI => ?_)
      obtain ⟨M_15, e_16⟩ : ∃ z : Mem, z = up2 M 0 0 2 := ⟨_, rfl⟩
      rw [← e_16] at hI
      have hf := lt_at e_16 hf
      refine lv_aload_n C0.1 C0.2.1 dX10_append_33 rfl (lv_at hl 0 rfl) ?_
      refine r_get (C := RX10) (T := TX10) (N9 := 20) (ci := 11) C0 C1 hI iX10 rfl 0 0 (Nat.le_of_ble_eq_true rfl) (by decide) ((fun _ => rfl) _) rfl rfl w_1691 dX10_append_34 ?_
      refine lv_if_eq (tgt := 42) C0.1 C0.2.1 dX10_append_37 (by decide) (fun c_17 => ?_) (fun c_17 => ?_)
      · have hf := (if_pos c_17).symm.trans hf
        refine lv_aload_n C0.1 C0.2.1 dX10_append_42 rfl (lv_at hl 0 rfl) ?_
        refine r_get (C := RX10) (T := TX10) (N9 := 20) (ci := 11) C0 C1 hI iX10 rfl 0 9 (Nat.le_of_ble_eq_true rfl) (by decide) ((fun _ => rfl) _) rfl rfl w_1700 dX10_append_43 ?_
        refine lv_aload_n C0.1 C0.2.1 dX10_append_46 rfl (lv_at hl 0 rfl) ?_
        refine r_get (C := RX10) (T := TX10) (N9 := 20) (ci := 11) C0 C1 hI iX10 rfl 0 14 (Nat.le_of_ble_eq_true rfl) (by decide) ((fun _ => rfl) _) rfl rfl w_1705 dX10_append_47 ?_
        refine lv_iload_n C0.1 C0.2.1 dX10_append_50 rfl (lv_at hl 1 rfl) ?_
        obtain ⟨h_18, hf⟩ := chk_some hf
        refine r_iast C0 C1 hI 5 (Nat.le_of_ble_eq_true rfl) (fun _ => rfl) h_18 dX10_append_51 (fun H locs hI => ?_)
        obtain ⟨M_21, e_22⟩ : ∃ z : Mem, z = up2 M_15 5 (ix (M_15 0 14)) x1 := ⟨_, rfl⟩
        rw [← e_22] at hI
        have hf := lt_at e_22 hf
        refine lv_aload_n C0.1 C0.2.1 dX10_append_52 rfl (lv_at hl 0 rfl) ?_
        refine lv_dup C0.1 C0.2.1 dX10_append_53 rfl ?_
        refine r_get (C := RX10) (T := TX10) (N9 := 20) (ci := 11) C0 C1 hI iX10 rfl 0 14 (Nat.le_of_ble_eq_true rfl) (by decide) ((fun _ => rfl) _) rfl rfl w_1705 dX10_append_54 ?_
        refine lv_iconst (v := 1) C0.1 C0.2.1 dX10_append_57 (by decide) ?_
        refine lv_iadd C0.1 C0.2.1 dX10_append_58 ?_
        refine r_put (C := RX10) (T := TX10) (N9 := 20) (ci := 11) (fs := fM b) (ty := .int) C0 C1 hI iX10 tyX10 tyX10_ok nmX10 rfl 0 14 (Nat.le_of_ble_eq_true rfl) (by decide) (fun _ => rfl) rfl rfl rfl (by decide +kernel) ⟨rfl, rfl⟩ (Nat.le_of_ble_eq_true rfl) w_1705 dX10_append_59 (fun H locs hI => ?_)
        obtain ⟨M_23, e_24⟩ : ∃ z : Mem, z = up2 M_21 0 14 ((M_21 0 14) + 1) := ⟨_, rfl⟩
        rw [← e_24] at hI
        have hf := lt_at e_24 hf
        refine lv_aload_n C0.1 C0.2.1 dX10_append_62 rfl (lv_at hl 0 rfl) ?_
        refine r_get (C := RX10) (T := TX10) (N9 := 20) (ci := 11) C0 C1 hI iX10 rfl 0 14 (Nat.le_of_ble_eq_true rfl) (by decide) ((fun _ => rfl) _) rfl rfl w_1705 dX10_append_63 ?_
        exact ee_im C0 hI hr hlocks hf dX10_append_66
      · have hf := (if_neg c_17).symm.trans hf
        refine lv_iconst (v := 0) C0.1 C0.2.1 dX10_append_40 (by decide) ?_
        exact ee_im C0 hI hr hlocks hf dX10_append_41
  · have hf := (if_pos c_3).symm.trans hf
    refine lv_iconst (v := 1) C0.1 C0.2.1 dX10_append_12 (by decide) ?_
    refine lv_goto (tgt := 30) C0.1 C0.2.1 dX10_append_13 (by decide) ?_
    refine r_put (C := RX10) (T := TX10) (N9 := 20) (ci := 11) (fs := fM b) (ty := .int) C0 C1 hI iX10 tyX10 tyX10_ok nmX10 rfl 0 0 (Nat.le_of_ble_eq_true rfl) (by decide) (fun _ => rfl) rfl rfl rfl (by decide +kernel) ⟨rfl, rfl⟩ (Nat.le_of_ble_eq_true rfl) w_1691 dX10_append_30 (fun H locs hI => ?_)
    obtain ⟨M_25, e_26⟩ : ∃ z : Mem, z = up2 M 0 0 1 := ⟨_, rfl⟩
    rw [← e_26] at hI
    have hf := lt_at e_26 hf
    refine lv_aload_n C0.1 C0.2.1 dX10_append_33 rfl (lv_at hl 0 rfl) ?_
    refine r_get (C := RX10) (T := TX10) (N9 := 20) (ci := 11) C0 C1 hI iX10 rfl 0 0 (Nat.le_of_ble_eq_true rfl) (by decide) ((fun _ => rfl) _) rfl rfl w_1691 dX10_append_34 ?_
    refine lv_if_eq (tgt := 42) C0.1 C0.2.1 dX10_append_37 (by decide) (fun c_27 => ?_) (fun c_27 => ?_)
    · have hf := (if_pos c_27).symm.trans hf
      refine lv_aload_n C0.1 C0.2.1 dX10_append_42 rfl (lv_at hl 0 rfl) ?_
      refine r_get (C := RX10) (T := TX10) (N9 := 20) (ci := 11) C0 C1 hI iX10 rfl 0 9 (Nat.le_of_ble_eq_true rfl) (by decide) ((fun _ => rfl) _) rfl rfl w_1700 dX10_append_43 ?_
      refine lv_aload_n C0.1 C0.2.1 dX10_append_46 rfl (lv_at hl 0 rfl) ?_
      refine r_get (C := RX10) (T := TX10) (N9 := 20) (ci := 11) C0 C1 hI iX10 rfl 0 14 (Nat.le_of_ble_eq_true rfl) (by decide) ((fun _ => rfl) _) rfl rfl w_1705 dX10_append_47 ?_
      refine lv_iload_n C0.1 C0.2.1 dX10_append_50 rfl (lv_at hl 1 rfl) ?_
      obtain ⟨h_28, hf⟩ := chk_some hf
      refine r_iast C0 C1 hI 5 (Nat.le_of_ble_eq_true rfl) (fun _ => rfl) h_28 dX10_append_51 (fun H locs hI => ?_)
      obtain ⟨M_31, e_32⟩ : ∃ z : Mem, z = up2 M_25 5 (ix (M_25 0 14)) x1 := ⟨_, rfl⟩
      rw [← e_32] at hI
      have hf := lt_at e_32 hf
      refine lv_aload_n C0.1 C0.2.1 dX10_append_52 rfl (lv_at hl 0 rfl) ?_
      refine lv_dup C0.1 C0.2.1 dX10_append_53 rfl ?_
      refine r_get (C := RX10) (T := TX10) (N9 := 20) (ci := 11) C0 C1 hI iX10 rfl 0 14 (Nat.le_of_ble_eq_true rfl) (by decide) ((fun _ => rfl) _) rfl rfl w_1705 dX10_append_54 ?_
      refine lv_iconst (v := 1) C0.1 C0.2.1 dX10_append_57 (by decide) ?_
      refine lv_iadd C0.1 C0.2.1 dX10_append_58 ?_
      refine r_put (C := RX10) (T := TX10) (N9 := 20) (ci := 11) (fs := fM b) (ty := .int) C0 C1 hI iX10 tyX10 tyX10_ok nmX10 rfl 0 14 (Nat.le_of_ble_eq_true rfl) (by decide) (fun _ => rfl) rfl rfl rfl (by decide +kernel) ⟨rfl, rfl⟩ (Nat.le_of_ble_eq_true rfl) w_1705 dX10_append_59 (fun H locs hI => ?_)
      obtain ⟨M_33, e_34⟩ : ∃ z : Mem, z = up2 M_31 0 14 ((M_31 0 14) + 1) := ⟨_, rfl⟩
      rw [← e_34] at hI
      have hf := lt_at e_34 hf
      refine lv_aload_n C0.1 C0.2.1 dX10_append_62 rfl (lv_at hl 0 rfl) ?_
      refine r_get (C := RX10) (T := TX10) (N9 := 20) (ci := 11) C0 C1 hI iX10 rfl 0 14 (Nat.le_of_ble_eq_true rfl) (by decide) ((fun _ => rfl) _) rfl rfl w_1705 dX10_append_63 ?_
      exact ee_im C0 hI hr hlocks hf dX10_append_66
    · have hf := (if_neg c_27).symm.trans hf
      refine lv_iconst (v := 0) C0.1 C0.2.1 dX10_append_40 (by decide) ?_
      exact ee_im C0 hI hr hlocks hf dX10_append_41

def F_X10_sign (n : Nat) (M : Mem) : Option Int32 :=
  (if (M 0 16) ≤ (M 0 15) then some (-1) else chk (inb (M 0 15) 60) (some (M 5 (ix (M 0 15)))))
theorem hd_X10_sign : yX10_sign.cls ≠ "java/lang/invoke/MethodHandle" ∧ yX10_sign.cls ≠ "java/lang/invoke/VarHandle" ∧ (parseMethodDescriptor yX10_sign.desc).map (fun d => d.parameters.length) = some 0 := ⟨by decide +kernel, by decide +kernel, by decide +kernel⟩
set_option maxHeartbeats 4000000 in
set_option maxRecDepth 100000 in
theorem c_X10_sign (l : Launch) (g : GG) (X : va_W) (b : Nat → Nat) (sz n : Nat) (M : Mem) {r0 : Int32} (hf : F_X10_sign n M = some r0) : Met l yX10_sign (.code yX10_sign cX10_sign 1 (some .int) :: LWg) (rmD 0 0 0) (va_Pc [.ref (b 0)] (PreP g X 10 (shM g b) b sz M)) (Qi g X 10 (shM g b) b sz r0 M) 0 0 (AA X b 10 sz) := by
  refine met_go (by decide +kernel) rfl (Nat.le_of_ble_eq_true rfl) ?_
  intro p e s m below meth c ls H locs C0 C1 hr hlocks hnm hsz hl hI
  subst hsz
  have hl : lv_has ls 1 [(0, .ref (b 0))] := hl
  unfold F_X10_sign at hf
  refine lv_aload_n C0.1 C0.2.1 dX10_sign_0 rfl (lv_at hl 0 rfl) ?_
  refine r_get (C := RX10) (T := TX10) (N9 := 20) (ci := 11) C0 C1 hI iX10 rfl 0 15 (Nat.le_of_ble_eq_true rfl) (by decide) ((fun _ => rfl) _) rfl rfl w_1706 dX10_sign_1 ?_
  refine lv_aload_n C0.1 C0.2.1 dX10_sign_4 rfl (lv_at hl 0 rfl) ?_
  refine r_get (C := RX10) (T := TX10) (N9 := 20) (ci := 11) C0 C1 hI iX10 rfl 0 16 (Nat.le_of_ble_eq_true rfl) (by decide) ((fun _ => rfl) _) rfl rfl w_1707 dX10_sign_5 ?_
  refine lv_icmp_ge (tgt := 23) C0.1 C0.2.1 dX10_sign_8 (by decide) (fun c_1 => ?_) (fun c_1 => ?_)
  · have hf := (if_pos c_1).symm.trans hf
    refine lv_iconst (v := (-1)) C0.1 C0.2.1 dX10_sign_23 (by decide) ?_
    exact ee_i C0 hI hr hlocks hf dX10_sign_24
  · have hf := (if_neg c_1).symm.trans hf
    refine lv_aload_n C0.1 C0.2.1 dX10_sign_11 rfl (lv_at hl 0 rfl) ?_
    refine r_get (C := RX10) (T := TX10) (N9 := 20) (ci := 11) C0 C1 hI iX10 rfl 0 9 (Nat.le_of_ble_eq_true rfl) (by decide) ((fun _ => rfl) _) rfl rfl w_1700 dX10_sign_12 ?_
    refine lv_aload_n C0.1 C0.2.1 dX10_sign_15 rfl (lv_at hl 0 rfl) ?_
    refine r_get (C := RX10) (T := TX10) (N9 := 20) (ci := 11) C0 C1 hI iX10 rfl 0 15 (Nat.le_of_ble_eq_true rfl) (by decide) ((fun _ => rfl) _) rfl rfl w_1706 dX10_sign_16 ?_
    obtain ⟨h_2, hf⟩ := chk_some hf
    refine r_iald C0 C1 hI 5 (Nat.le_of_ble_eq_true rfl) (fun _ => rfl) h_2 dX10_sign_19 ?_
    refine lv_goto (tgt := 24) C0.1 C0.2.1 dX10_sign_20 (by decide) ?_
    exact ee_i C0 hI hr hlocks hf dX10_sign_24

def F_X10_mark (n : Nat) (x1 : Int32) (M : Mem) : Option Mem :=
  (if (M 0 18) = 0 then ob (F_X10_sign n M) (fun r_3 => (if r_3 = x1 then lt' (up2 M 0 18 0) (fun M_5 => (if (M_5 0 18) = 0 then lt' (up2 M_5 0 15 ((M_5 0 15) + 1)) (fun M_8 => some M_8) else lt' (up2 M_5 0 15 ((M_5 0 15) + 0)) (fun M_10 => some M_10))) else lt' (up2 M 0 18 1) (fun M_12 => (if (M_12 0 18) = 0 then lt' (up2 M_12 0 15 ((M_12 0 15) + 1)) (fun M_15 => some M_15) else lt' (up2 M_12 0 15 ((M_12 0 15) + 0)) (fun M_17 => some M_17))))) else some M)
theorem hd_X10_mark : yX10_mark.cls ≠ "java/lang/invoke/MethodHandle" ∧ yX10_mark.cls ≠ "java/lang/invoke/VarHandle" ∧ (parseMethodDescriptor yX10_mark.desc).map (fun d => d.parameters.length) = some 1 := ⟨by decide +kernel, by decide +kernel, by decide +kernel⟩
set_option maxHeartbeats 4000000 in
set_option maxRecDepth 100000 in
theorem c_X10_mark (l : Launch) (g : GG) (X : va_W) (b : Nat → Nat) (sz n : Nat) (M : Mem) (x1 : Int32)  {M' : Mem} (hf : F_X10_mark n x1 M = some M') : Met l yX10_mark (.code yX10_mark cX10_mark 2 none :: LWg) (rmD 1 0 0) (va_Pc [.ref (b 0), .int x1] (PreP g X 10 (shM g b) b sz M)) (Qv g X 10 (shM g b) b sz M') 0 0 (AA X b 10 sz) := by
  refine met_go (by decide +kernel) rfl (Nat.le_of_ble_eq_true rfl) ?_
  intro p e s m below meth c ls H locs C0 C1 hr hlocks hnm hsz hl hI
  subst hsz
  have hl : lv_has ls 2 [(0, .ref (b 0)), (1, .int x1)] := hl
  unfold F_X10_mark at hf
  refine lv_aload_n C0.1 C0.2.1 dX10_mark_0 rfl (lv_at hl 0 rfl) ?_
  refine r_get (C := RX10) (T := TX10) (N9 := 20) (ci := 11) C0 C1 hI iX10 rfl 0 18 (Nat.le_of_ble_eq_true rfl) (by decide) ((fun _ => rfl) _) rfl rfl w_1709 dX10_mark_1 ?_
  refine lv_if_eq (tgt := 8) C0.1 C0.2.1 dX10_mark_4 (by decide) (fun c_1 => ?_) (fun c_1 => ?_)
  · have hf := (if_pos c_1).symm.trans hf
    refine lv_aload_n C0.1 C0.2.1 dX10_mark_8 rfl (lv_at hl 0 rfl) ?_
    refine lv_aload_n C0.1 C0.2.1 dX10_mark_9 rfl (lv_at hl 0 rfl) ?_
    obtain ⟨r_3, h_2, hf⟩ := ob_some hf
    refine k_i C1 hI (q_V C0 C1 hI 0 (c_X10_sign l g X b H.size n M h_2) w_2108 w_2110 w_110 w_132 w_2111 ⟨rfl, rfl⟩ hd_X10_sign ⟨Nat.le_of_ble_eq_true rfl, Nat.le_of_ble_eq_true rfl⟩ (Nat.le_of_ble_eq_true rfl) ((fun _ => rfl) _) rfl rfl rfl hl.1 rfl (Nat.le_of_ble_eq_true rfl) dX10_mark_10 ⟨Nat.le_of_ble_eq_true rfl, Nat.le_of_ble_eq_true rfl⟩) (fun H locs hI => ?_)
    refine lv_iload_n C0.1 C0.2.1 dX10_mark_13 rfl (lv_at hl 1 rfl) ?_
    refine lv_icmp_eq (tgt := 21) C0.1 C0.2.1 dX10_mark_14 (by decide) (fun c_4 => ?_) (fun c_4 => ?_)
    · have hf := (if_pos c_4).symm.trans hf
      refine lv_iconst (v := 0) C0.1 C0.2.1 dX10_mark_21 (by decide) ?_
      refine r_put (C := RX10) (T := TX10) (N9 := 20) (ci := 11) (fs := fM b) (ty := .boolean) C0 C1 hI iX10 tyX10 tyX10_ok nmX10 rfl 0 18 (Nat.le_of_ble_eq_true rfl) (by decide) (fun _ => rfl) rfl rfl rfl (by decide +kernel) ⟨rfl, rfl⟩ (Nat.le_of_ble_eq_true rfl) w_1709 dX10_mark_22 (fun H locs hI => ?_)
      obtain ⟨M_5, e_6⟩ : ∃ z : Mem, z = up2 M 0 18 0 := ⟨_, rfl⟩
      rw [← e_6] at hI
      have hf := lt_at e_6 hf
      refine lv_aload_n C0.1 C0.2.1 dX10_mark_25 rfl (lv_at hl 0 rfl) ?_
      refine lv_dup C0.1 C0.2.1 dX10_mark_26 rfl ?_
      refine r_get (C := RX10) (T := TX10) (N9 := 20) (ci := 11) C0 C1 hI iX10 rfl 0 15 (Nat.le_of_ble_eq_true rfl) (by decide) ((fun _ => rfl) _) rfl rfl w_1706 dX10_mark_27 ?_
      refine lv_aload_n C0.1 C0.2.1 dX10_mark_30 rfl (lv_at hl 0 rfl) ?_
      refine r_get (C := RX10) (T := TX10) (N9 := 20) (ci := 11) C0 C1 hI iX10 rfl 0 18 (Nat.le_of_ble_eq_true rfl) (by decide) ((fun _ => rfl) _) rfl rfl w_1709 dX10_mark_31 ?_
      refine lv_if_eq (tgt := 41) C0.1 C0.2.1 dX10_mark_34 (by decide) (fun c_7 => ?_) (fun c_7 => ?_)
      · have hf := (if_pos c_7).symm.trans hf
        refine lv_iconst (v := 1) C0.1 C0.2.1 dX10_mark_41 (by decide) ?_
        refine lv_iadd C0.1 C0.2.1 dX10_mark_42 ?_
        refine r_put (C := RX10) (T := TX10) (N9 := 20) (ci := 11) (fs := fM b) (ty := .int) C0 C1 hI iX10 tyX10 tyX10_ok nmX10 rfl 0 15 (Nat.le_of_ble_eq_true rfl) (by decide) (fun _ => rfl) rfl rfl rfl (by decide +kernel) ⟨rfl, rfl⟩ (Nat.le_of_ble_eq_true rfl) w_1706 dX10_mark_43 (fun H locs hI => ?_)
        obtain ⟨M_8, e_9⟩ : ∃ z : Mem, z = up2 M_5 0 15 ((M_5 0 15) + 1) := ⟨_, rfl⟩
        rw [← e_9] at hI
        have hf := lt_at e_9 hf
        exact ee_vm C0 hI hr hlocks hf dX10_mark_46
      · have hf := (if_neg c_7).symm.trans hf
        refine lv_iconst (v := 0) C0.1 C0.2.1 dX10_mark_37 (by decide) ?_
        refine lv_goto (tgt := 42) C0.1 C0.2.1 dX10_mark_38 (by decide) ?_
        refine lv_iadd C0.1 C0.2.1 dX10_mark_42 ?_
        refine r_put (C := RX10) (T := TX10) (N9 := 20) (ci := 11) (fs := fM b) (ty := .int) C0 C1 hI iX10 tyX10 tyX10_ok nmX10 rfl 0 15 (Nat.le_of_ble_eq_true rfl) (by decide) (fun _ => rfl) rfl rfl rfl (by decide +kernel) ⟨rfl, rfl⟩ (Nat.le_of_ble_eq_true rfl) w_1706 dX10_mark_43 (fun H locs hI => ?_)
        obtain ⟨M_10, e_11⟩ : ∃ z : Mem, z = up2 M_5 0 15 ((M_5 0 15) + 0) := ⟨_, rfl⟩
        rw [← e_11] at hI
        have hf := lt_at e_11 hf
        exact ee_vm C0 hI hr hlocks hf dX10_mark_46
    · have hf := (if_neg c_4).symm.trans hf
      refine lv_iconst (v := 1) C0.1 C0.2.1 dX10_mark_17 (by decide) ?_
      refine lv_goto (tgt := 22) C0.1 C0.2.1 dX10_mark_18 (by decide) ?_
      refine r_put (C := RX10) (T := TX10) (N9 := 20) (ci := 11) (fs := fM b) (ty := .boolean) C0 C1 hI iX10 tyX10 tyX10_ok nmX10 rfl 0 18 (Nat.le_of_ble_eq_true rfl) (by decide) (fun _ => rfl) rfl rfl rfl (by decide +kernel) ⟨rfl, rfl⟩ (Nat.le_of_ble_eq_true rfl) w_1709 dX10_mark_22 (fun H locs hI => ?_)
      obtain ⟨M_12, e_13⟩ : ∃ z : Mem, z = up2 M 0 18 1 := ⟨_, rfl⟩
      rw [← e_13] at hI
      have hf := lt_at e_13 hf
      refine lv_aload_n C0.1 C0.2.1 dX10_mark_25 rfl (lv_at hl 0 rfl) ?_
      refine lv_dup C0.1 C0.2.1 dX10_mark_26 rfl ?_
      refine r_get (C := RX10) (T := TX10) (N9 := 20) (ci := 11) C0 C1 hI iX10 rfl 0 15 (Nat.le_of_ble_eq_true rfl) (by decide) ((fun _ => rfl) _) rfl rfl w_1706 dX10_mark_27 ?_
      refine lv_aload_n C0.1 C0.2.1 dX10_mark_30 rfl (lv_at hl 0 rfl) ?_
      refine r_get (C := RX10) (T := TX10) (N9 := 20) (ci := 11) C0 C1 hI iX10 rfl 0 18 (Nat.le_of_ble_eq_true rfl) (by decide) ((fun _ => rfl) _) rfl rfl w_1709 dX10_mark_31 ?_
      refine lv_if_eq (tgt := 41) C0.1 C0.2.1 dX10_mark_34 (by decide) (fun c_14 => ?_) (fun c_14 => ?_)
      · have hf := (if_pos c_14).symm.trans hf
        refine lv_iconst (v := 1) C0.1 C0.2.1 dX10_mark_41 (by decide) ?_
        refine lv_iadd C0.1 C0.2.1 dX10_mark_42 ?_
        refine r_put (C := RX10) (T := TX10) (N9 := 20) (ci := 11) (fs := fM b) (ty := .int) C0 C1 hI iX10 tyX10 tyX10_ok nmX10 rfl 0 15 (Nat.le_of_ble_eq_true rfl) (by decide) (fun _ => rfl) rfl rfl rfl (by decide +kernel) ⟨rfl, rfl⟩ (Nat.le_of_ble_eq_true rfl) w_1706 dX10_mark_43 (fun H locs hI => ?_)
        obtain ⟨M_15, e_16⟩ : ∃ z : Mem, z = up2 M_12 0 15 ((M_12 0 15) + 1) := ⟨_, rfl⟩
        rw [← e_16] at hI
        have hf := lt_at e_16 hf
        exact ee_vm C0 hI hr hlocks hf dX10_mark_46
      · have hf := (if_neg c_14).symm.trans hf
        refine lv_iconst (v := 0) C0.1 C0.2.1 dX10_mark_37 (by decide) ?_
        refine lv_goto (tgt := 42) C0.1 C0.2.1 dX10_mark_38 (by decide) ?_
        refine lv_iadd C0.1 C0.2.1 dX10_mark_42 ?_
        refine r_put (C := RX10) (T := TX10) (N9 := 20) (ci := 11) (fs := fM b) (ty := .int) C0 C1 hI iX10 tyX10 tyX10_ok nmX10 rfl 0 15 (Nat.le_of_ble_eq_true rfl) (by decide) (fun _ => rfl) rfl rfl rfl (by decide +kernel) ⟨rfl, rfl⟩ (Nat.le_of_ble_eq_true rfl) w_1706 dX10_mark_43 (fun H locs hI => ?_)
        obtain ⟨M_17, e_18⟩ : ∃ z : Mem, z = up2 M_12 0 15 ((M_12 0 15) + 0) := ⟨_, rfl⟩
        rw [← e_18] at hI
        have hf := lt_at e_18 hf
        exact ee_vm C0 hI hr hlocks hf dX10_mark_46
  · have hf := (if_neg c_1).symm.trans hf
    exact ee_vm C0 hI hr hlocks hf dX10_mark_7

def F_X10_digits_L4 (n : Nat) : Nat → Int32 → Int32 → Int32 → Mem → Option (Int32 × Mem)
  | 0, _, _, _, _ => none
  | k4 + 1, x1_4, x2_4, x3_4, M =>
    (if (M 0 18) = 0 then (if x1_4 ≤ x3_4 then (if x3_4 = 0 then chk (isB ((M 0 18) ||| 1)) (lt' (up2 M 0 18 ((M 0 18) ||| 1)) (fun M_4_15 => some (x2_4, M_4_15))) else chk (isB ((M 0 18) ||| 0)) (lt' (up2 M 0 18 ((M 0 18) ||| 0)) (fun M_4_12 => some (x2_4, M_4_12)))) else ob (F_X10_sign n M) (fun r_4_18 => ob (F_X10_isIn n r_4_18 48 57 M) (fun r_4_20 => (if r_4_20 = 0 then (if x3_4 = 0 then chk (isB ((M 0 18) ||| 1)) (lt' (up2 M 0 18 ((M 0 18) ||| 1)) (fun M_4_27 => some (x2_4, M_4_27))) else chk (isB ((M 0 18) ||| 0)) (lt' (up2 M 0 18 ((M 0 18) ||| 0)) (fun M_4_24 => some (x2_4, M_4_24)))) else ob (F_X10_sign n M) (fun r_4_30 => lt' (((10 * x2_4) + r_4_30) - 48) (fun x2_4_31 => lt' (up2 M 0 15 ((M 0 15) + 1)) (fun M_4_33 => lt' (x3_4 + 1) (fun x3_4_35 => F_X10_digits_L4 n k4 x1_4 x2_4_31 x3_4_35 M_4_33)))))))) else (if x3_4 = 0 then chk (isB ((M 0 18) ||| 1)) (lt' (up2 M 0 18 ((M 0 18) ||| 1)) (fun M_4_7 => some (x2_4, M_4_7))) else chk (isB ((M 0 18) ||| 0)) (lt' (up2 M 0 18 ((M 0 18) ||| 0)) (fun M_4_4 => some (x2_4, M_4_4)))))
def F_X10_digits (n : Nat) (x1 : Int32) (M : Mem) : Option (Int32 × Mem) :=
  F_X10_digits_L4 n n x1 0 0 M
theorem hd_X10_digits : yX10_digits.cls ≠ "java/lang/invoke/MethodHandle" ∧ yX10_digits.cls ≠ "java/lang/invoke/VarHandle" ∧ (parseMethodDescriptor yX10_digits.desc).map (fun d => d.parameters.length) = some 1 := ⟨by decide +kernel, by decide +kernel, by decide +kernel⟩
set_option maxHeartbeats 4000000 in
set_option maxRecDepth 100000 in
theorem c_X10_digits (l : Launch) (g : GG) (X : va_W) (b : Nat → Nat) (sz n : Nat) (M : Mem) (x1 : Int32) {r0 : Int32} {M' : Mem} (hf : F_X10_digits n x1 M = some (r0, M')) : Met l yX10_digits (.code yX10_digits cX10_digits 4 (some .int) :: LWg) (rmD 1 0 0) (va_Pc [.ref (b 0), .int x1] (PreP g X 10 (shM g b) b sz M)) (Qi g X 10 (shM g b) b sz r0 M') 0 0 (AA X b 10 sz) := by
  refine met_go (by decide +kernel) rfl (Nat.le_of_ble_eq_true rfl) ?_
  intro p e s m below meth c ls H locs C0 C1 hr hlocks hnm hsz hl hI
  subst hsz
  have hl : lv_has ls 4 [(0, .ref (b 0)), (1, .int x1)] := hl
  unfold F_X10_digits at hf
  refine lv_iconst (v := 0) C0.1 C0.2.1 dX10_digits_0 (by decide) ?_
  refine lv_istore_n (lv' := [(2, .int 0), (0, .ref (b 0)), (1, .int x1)]) C0.1 C0.2.1 dX10_digits_1 rfl hl (by decide) rfl (fun ls hl => ?_)
  refine lv_iconst (v := 0) C0.1 C0.2.1 dX10_digits_2 (by decide) ?_
  refine lv_istore_n (lv' := [(3, .int 0), (2, .int 0), (0, .ref (b 0)), (1, .int x1)]) C0.1 C0.2.1 dX10_digits_3 rfl hl (by decide) rfl (fun ls hl => ?_)
  have L4 : ∀ (k4 : Nat) (x1_4 : Int32) (x2_4 : Int32) (x3_4 : Int32) (M : Mem), F_X10_digits_L4 n k4 x1_4 x2_4 x3_4 M = some (r0, M') → ∀ (H : Heap) (locs : List Loc) (ls : Array Slot), PI g X 10 (shM g b) b s M H locs → lv_has ls 4 [(0, .ref (b 0)), (1, .int x1_4), (2, .int x2_4), (3, .int x3_4)] → W p l e (rmD 1 0 0) s m ([.ref (b 0), .int x1] : List Value).toArray below meth c H locs 0 0 (MQ below (Qi g X 10 (shM g b) b s.heap.size r0 M') ([.ref (b 0), .int x1] : List Value).toArray s 0 0 (AA X b 10 s.heap.size)) (F0 m 4 ls []) := by
    intro k4
    induction k4 with
    | zero => intro x1_4 x2_4 x3_4 M hf; exact absurd (show (none : Option (Int32 × Mem)) = some (r0, M') from hf) (fun h => by cases h)
    | succ k4 ih4 =>
      intro x1_4 x2_4 x3_4 M hf H locs ls hI hl
      unfold F_X10_digits_L4 at hf
      refine lv_aload_n C0.1 C0.2.1 dX10_digits_4 rfl (lv_at hl 0 rfl) ?_
      refine r_get (C := RX10) (T := TX10) (N9 := 20) (ci := 11) C0 C1 hI iX10 rfl 0 18 (Nat.le_of_ble_eq_true rfl) (by decide) ((fun _ => rfl) _) rfl rfl w_1709 dX10_digits_5 ?_
      refine lv_if_ne (tgt := 59) C0.1 C0.2.1 dX10_digits_8 (by decide) (fun c_4_1 => ?_) (fun c_4_1 => ?_)
      · have hf := (if_neg c_4_1).symm.trans hf
        refine lv_aload_n C0.1 C0.2.1 dX10_digits_59 rfl (lv_at hl 0 rfl) ?_
        refine lv_dup C0.1 C0.2.1 dX10_digits_60 rfl ?_
        refine r_get (C := RX10) (T := TX10) (N9 := 20) (ci := 11) C0 C1 hI iX10 rfl 0 18 (Nat.le_of_ble_eq_true rfl) (by decide) ((fun _ => rfl) _) rfl rfl w_1709 dX10_digits_61 ?_
        refine lv_iload_n C0.1 C0.2.1 dX10_digits_64 rfl (lv_at hl 3 rfl) ?_
        refine lv_if_ne (tgt := 72) C0.1 C0.2.1 dX10_digits_65 (by decide) (fun c_4_2 => ?_) (fun c_4_2 => ?_)
        · have hf := (if_neg c_4_2).symm.trans hf
          refine lv_iconst (v := 0) C0.1 C0.2.1 dX10_digits_72 (by decide) ?_
          refine lv_ior C0.1 C0.2.1 dX10_digits_73 ?_
          obtain ⟨h_4_3, hf⟩ := chk_some hf
          refine r_put (C := RX10) (T := TX10) (N9 := 20) (ci := 11) (fs := fM b) (ty := .boolean) C0 C1 hI iX10 tyX10 tyX10_ok nmX10 rfl 0 18 (Nat.le_of_ble_eq_true rfl) (by decide) (fun _ => rfl) rfl rfl rfl (by decide +kernel) (isB_n h_4_3) (Nat.le_of_ble_eq_true rfl) w_1709 dX10_digits_74 (fun H locs hI => ?_)
          obtain ⟨M_4_4, e_4_5⟩ : ∃ z : Mem, z = up2 M 0 18 ((M 0 18) ||| 0) := ⟨_, rfl⟩
          rw [← e_4_5] at hI
          have hf := lt_at e_4_5 hf
          refine lv_iload_n C0.1 C0.2.1 dX10_digits_77 rfl (lv_at hl 2 rfl) ?_
          exact ee_im C0 hI hr hlocks hf dX10_digits_78
        · have hf := (if_pos c_4_2).symm.trans hf
          refine lv_iconst (v := 1) C0.1 C0.2.1 dX10_digits_68 (by decide) ?_
          refine lv_goto (tgt := 73) C0.1 C0.2.1 dX10_digits_69 (by decide) ?_
          refine lv_ior C0.1 C0.2.1 dX10_digits_73 ?_
          obtain ⟨h_4_6, hf⟩ := chk_some hf
          refine r_put (C := RX10) (T := TX10) (N9 := 20) (ci := 11) (fs := fM b) (ty := .boolean) C0 C1 hI iX10 tyX10 tyX10_ok nmX10 rfl 0 18 (Nat.le_of_ble_eq_true rfl) (by decide) (fun _ => rfl) rfl rfl rfl (by decide +kernel) (isB_n h_4_6) (Nat.le_of_ble_eq_true rfl) w_1709 dX10_digits_74 (fun H locs hI => ?_)
          obtain ⟨M_4_7, e_4_8⟩ : ∃ z : Mem, z = up2 M 0 18 ((M 0 18) ||| 1) := ⟨_, rfl⟩
          rw [← e_4_8] at hI
          have hf := lt_at e_4_8 hf
          refine lv_iload_n C0.1 C0.2.1 dX10_digits_77 rfl (lv_at hl 2 rfl) ?_
          exact ee_im C0 hI hr hlocks hf dX10_digits_78
      · have hf := (if_pos c_4_1).symm.trans hf
        refine lv_iload_n C0.1 C0.2.1 dX10_digits_11 rfl (lv_at hl 3 rfl) ?_
        refine lv_iload_n C0.1 C0.2.1 dX10_digits_12 rfl (lv_at hl 1 rfl) ?_
        refine lv_icmp_ge (tgt := 59) C0.1 C0.2.1 dX10_digits_13 (by decide) (fun c_4_9 => ?_) (fun c_4_9 => ?_)
        · have hf := (if_pos c_4_9).symm.trans hf
          refine lv_aload_n C0.1 C0.2.1 dX10_digits_59 rfl (lv_at hl 0 rfl) ?_
          refine lv_dup C0.1 C0.2.1 dX10_digits_60 rfl ?_
          refine r_get (C := RX10) (T := TX10) (N9 := 20) (ci := 11) C0 C1 hI iX10 rfl 0 18 (Nat.le_of_ble_eq_true rfl) (by decide) ((fun _ => rfl) _) rfl rfl w_1709 dX10_digits_61 ?_
          refine lv_iload_n C0.1 C0.2.1 dX10_digits_64 rfl (lv_at hl 3 rfl) ?_
          refine lv_if_ne (tgt := 72) C0.1 C0.2.1 dX10_digits_65 (by decide) (fun c_4_10 => ?_) (fun c_4_10 => ?_)
          · have hf := (if_neg c_4_10).symm.trans hf
            refine lv_iconst (v := 0) C0.1 C0.2.1 dX10_digits_72 (by decide) ?_
            refine lv_ior C0.1 C0.2.1 dX10_digits_73 ?_
            obtain ⟨h_4_11, hf⟩ := chk_some hf
            refine r_put (C := RX10) (T := TX10) (N9 := 20) (ci := 11) (fs := fM b) (ty := .boolean) C0 C1 hI iX10 tyX10 tyX10_ok nmX10 rfl 0 18 (Nat.le_of_ble_eq_true rfl) (by decide) (fun _ => rfl) rfl rfl rfl (by decide +kernel) (isB_n h_4_11) (Nat.le_of_ble_eq_true rfl) w_1709 dX10_digits_74 (fun H locs hI => ?_)
            obtain ⟨M_4_12, e_4_13⟩ : ∃ z : Mem, z = up2 M 0 18 ((M 0 18) ||| 0) := ⟨_, rfl⟩
            rw [← e_4_13] at hI
            have hf := lt_at e_4_13 hf
            refine lv_iload_n C0.1 C0.2.1 dX10_digits_77 rfl (lv_at hl 2 rfl) ?_
            exact ee_im C0 hI hr hlocks hf dX10_digits_78
          · have hf := (if_pos c_4_10).symm.trans hf
            refine lv_iconst (v := 1) C0.1 C0.2.1 dX10_digits_68 (by decide) ?_
            refine lv_goto (tgt := 73) C0.1 C0.2.1 dX10_digits_69 (by decide) ?_
            refine lv_ior C0.1 C0.2.1 dX10_digits_73 ?_
            obtain ⟨h_4_14, hf⟩ := chk_some hf
            refine r_put (C := RX10) (T := TX10) (N9 := 20) (ci := 11) (fs := fM b) (ty := .boolean) C0 C1 hI iX10 tyX10 tyX10_ok nmX10 rfl 0 18 (Nat.le_of_ble_eq_true rfl) (by decide) (fun _ => rfl) rfl rfl rfl (by decide +kernel) (isB_n h_4_14) (Nat.le_of_ble_eq_true rfl) w_1709 dX10_digits_74 (fun H locs hI => ?_)
            obtain ⟨M_4_15, e_4_16⟩ : ∃ z : Mem, z = up2 M 0 18 ((M 0 18) ||| 1) := ⟨_, rfl⟩
            rw [← e_4_16] at hI
            have hf := lt_at e_4_16 hf
            refine lv_iload_n C0.1 C0.2.1 dX10_digits_77 rfl (lv_at hl 2 rfl) ?_
            exact ee_im C0 hI hr hlocks hf dX10_digits_78
        · have hf := (if_neg c_4_9).symm.trans hf
          refine lv_aload_n C0.1 C0.2.1 dX10_digits_16 rfl (lv_at hl 0 rfl) ?_
          obtain ⟨r_4_18, h_4_17, hf⟩ := ob_some hf
          refine k_i C1 hI (q_V C0 C1 hI 0 (c_X10_sign l g X b H.size n M h_4_17) w_2108 w_2110 w_110 w_132 w_2111 ⟨rfl, rfl⟩ hd_X10_sign ⟨Nat.le_of_ble_eq_true rfl, Nat.le_of_ble_eq_true rfl⟩ (Nat.le_of_ble_eq_true rfl) ((fun _ => rfl) _) rfl rfl rfl hl.1 rfl (Nat.le_of_ble_eq_true rfl) dX10_digits_17 ⟨Nat.le_of_ble_eq_true rfl, Nat.le_of_ble_eq_true rfl⟩) (fun H locs hI => ?_)
          refine lv_bipush (v := 48) C0.1 C0.2.1 dX10_digits_20 (by decide) ?_
          refine lv_bipush (v := 57) C0.1 C0.2.1 dX10_digits_22 (by decide) ?_
          obtain ⟨r_4_20, h_4_19, hf⟩ := ob_some hf
          refine k_i C1 hI (q_S C0 C1 hI (c_X10_isIn l g X b H.size n M r_4_18 48 57 h_4_19) w_1771 w_1772 w_132 w_1773 ⟨rfl, rfl⟩ hd_X10_isIn ⟨Nat.le_of_ble_eq_true rfl, Nat.le_of_ble_eq_true rfl⟩ rfl hl.1 rfl (Nat.le_of_ble_eq_true rfl) dX10_digits_24 ⟨Nat.le_of_ble_eq_true rfl, Nat.le_of_ble_eq_true rfl⟩) (fun H locs hI => ?_)
          refine lv_if_eq (tgt := 59) C0.1 C0.2.1 dX10_digits_27 (by decide) (fun c_4_21 => ?_) (fun c_4_21 => ?_)
          · have hf := (if_pos c_4_21).symm.trans hf
            refine lv_aload_n C0.1 C0.2.1 dX10_digits_59 rfl (lv_at hl 0 rfl) ?_
            refine lv_dup C0.1 C0.2.1 dX10_digits_60 rfl ?_
            refine r_get (C := RX10) (T := TX10) (N9 := 20) (ci := 11) C0 C1 hI iX10 rfl 0 18 (Nat.le_of_ble_eq_true rfl) (by decide) ((fun _ => rfl) _) rfl rfl w_1709 dX10_digits_61 ?_
            refine lv_iload_n C0.1 C0.2.1 dX10_digits_64 rfl (lv_at hl 3 rfl) ?_
            refine lv_if_ne (tgt := 72) C0.1 C0.2.1 dX10_digits_65 (by decide) (fun c_4_22 => ?_) (fun c_4_22 => ?_)
            · have hf := (if_neg c_4_22).symm.trans hf
              refine lv_iconst (v := 0) C0.1 C0.2.1 dX10_digits_72 (by decide) ?_
              refine lv_ior C0.1 C0.2.1 dX10_digits_73 ?_
              obtain ⟨h_4_23, hf⟩ := chk_some hf
              refine r_put (C := RX10) (T := TX10) (N9 := 20) (ci := 11) (fs := fM b) (ty := .boolean) C0 C1 hI iX10 tyX10 tyX10_ok nmX10 rfl 0 18 (Nat.le_of_ble_eq_true rfl) (by decide) (fun _ => rfl) rfl rfl rfl (by decide +kernel) (isB_n h_4_23) (Nat.le_of_ble_eq_true rfl) w_1709 dX10_digits_74 (fun H locs hI => ?_)
              obtain ⟨M_4_24, e_4_25⟩ : ∃ z : Mem, z = up2 M 0 18 ((M 0 18) ||| 0) := ⟨_, rfl⟩
              rw [← e_4_25] at hI
              have hf := lt_at e_4_25 hf
              refine lv_iload_n C0.1 C0.2.1 dX10_digits_77 rfl (lv_at hl 2 rfl) ?_
              exact ee_im C0 hI hr hlocks hf dX10_digits_78
            · have hf := (if_pos c_4_22).symm.trans hf
              refine lv_iconst (v := 1) C0.1 C0.2.1 dX10_digits_68 (by decide) ?_
              refine lv_goto (tgt := 73) C0.1 C0.2.1 dX10_digits_69 (by decide) ?_
              refine lv_ior C0.1 C0.2.1 dX10_digits_73 ?_
              obtain ⟨h_4_26, hf⟩ := chk_some hf
              refine r_put (C := RX10) (T := TX10) (N9 := 20) (ci := 11) (fs := fM b) (ty := .boolean) C0 C1 hI iX10 tyX10 tyX10_ok nmX10 rfl 0 18 (Nat.le_of_ble_eq_true rfl) (by decide) (fun _ => rfl) rfl rfl rfl (by decide +kernel) (isB_n h_4_26) (Nat.le_of_ble_eq_true rfl) w_1709 dX10_digits_74 (fun H locs hI => ?_)
              obtain ⟨M_4_27, e_4_28⟩ : ∃ z : Mem, z = up2 M 0 18 ((M 0 18) ||| 1) := ⟨_, rfl⟩
              rw [← e_4_28] at hI
              have hf := lt_at e_4_28 hf
              refine lv_iload_n C0.1 C0.2.1 dX10_digits_77 rfl (lv_at hl 2 rfl) ?_
              exact ee_im C0 hI hr hlocks hf dX10_digits_78
          · have hf := (if_neg c_4_21).symm.trans hf
            refine lv_bipush (v := 10) C0.1 C0.2.1 dX10_digits_30 (by decide) ?_
            refine lv_iload_n C0.1 C0.2.1 dX10_digits_32 rfl (lv_at hl 2 rfl) ?_
            refine lv_imul C0.1 C0.2.1 dX10_digits_33 ?_
            refine lv_aload_n C0.1 C0.2.1 dX10_digits_34 rfl (lv_at hl 0 rfl) ?_
            obtain ⟨r_4_30, h_4_29, hf⟩ := ob_some hf
            refine k_i C1 hI (q_V C0 C1 hI 0 (c_X10_sign l g X b H.size n M h_4_29) w_2108 w_2110 w_110 w_132 w_2111 ⟨rfl, rfl⟩ hd_X10_sign ⟨Nat.le_of_ble_eq_true rfl, Nat.le_of_ble_eq_true rfl⟩ (Nat.le_of_ble_eq_true rfl) ((fun _ => rfl) _) rfl rfl rfl hl.1 rfl (Nat.le_of_ble_eq_true rfl) dX10_digits_35 ⟨Nat.le_of_ble_eq_true rfl, Nat.le_of_ble_eq_true rfl⟩) (fun H locs hI => ?_)
            refine lv_iadd C0.1 C0.2.1 dX10_digits_38 ?_
            refine lv_bipush (v := 48) C0.1 C0.2.1 dX10_digits_39 (by decide) ?_
            refine lv_isub C0.1 C0.2.1 dX10_digits_41 ?_
            refine lv_topi (fun x2_4_31 e_4_32 => ?_)
            have hf := lt_at e_4_32 hf
            refine lv_istore_n (lv' := [(2, .int x2_4_31), (0, .ref (b 0)), (1, .int x1_4), (3, .int x3_4)]) C0.1 C0.2.1 dX10_digits_42 rfl hl (by decide) rfl (fun ls hl => ?_)
            refine lv_aload_n C0.1 C0.2.1 dX10_digits_43 rfl (lv_at hl 1 rfl) ?_
            refine lv_dup C0.1 C0.2.1 dX10_digits_44 rfl ?_
            refine r_get (C := RX10) (T := TX10) (N9 := 20) (ci := 11) C0 C1 hI iX10 rfl 0 15 (Nat.le_of_ble_eq_true rfl) (by decide) ((fun _ => rfl) _) rfl rfl w_1706 dX10_digits_45 ?_
            refine lv_iconst (v := 1) C0.1 C0.2.1 dX10_digits_48 (by decide) ?_
            refine lv_iadd C0.1 C0.2.1 dX10_digits_49 ?_
            refine r_put (C := RX10) (T := TX10) (N9 := 20) (ci := 11) (fs := fM b) (ty := .int) C0 C1 hI iX10 tyX10 tyX10_ok nmX10 rfl 0 15 (Nat.le_of_ble_eq_true rfl) (by decide) (fun _ => rfl) rfl rfl rfl (by decide +kernel) ⟨rfl, rfl⟩ (Nat.le_of_ble_eq_true rfl) w_1706 dX10_digits_50 (fun H locs hI => ?_)
            obtain ⟨M_4_33, e_4_34⟩ : ∃ z : Mem, z = up2 M 0 15 ((M 0 15) + 1) := ⟨_, rfl⟩
            rw [← e_4_34] at hI
            have hf := lt_at e_4_34 hf
            obtain ⟨x3_4_35, e_4_36⟩ : ∃ z : Int32, z = x3_4 + 1 := ⟨_, rfl⟩
            have hf := lt_at e_4_36 hf
            refine lv_iinc (v := x3_4_35) (lv' := [(3, .int x3_4_35), (2, .int x2_4_31), (0, .ref (b 0)), (1, .int x1_4)]) C0.1 C0.2.1 dX10_digits_53 hl (k := 3) rfl (by rw [e_4_36]; rfl) (by decide) rfl (fun ls hl => ?_)
            refine lv_goto (tgt := 4) C0.1 C0.2.1 dX10_digits_56 (by decide) ?_
            exact ih4 x1_4 x2_4_31 x3_4_35 M_4_33 hf H locs ls hI (lv_sub hl [2, 3, 1, 0] rfl)
  exact L4 n x1 0 0 M hf H locs ls hI (lv_sub hl [2, 3, 1, 0] rfl)

def F_X10_behind (n : Nat) (x1 : Int32) (M : Mem) : Option (Int32 × Mem) :=
  ob (F_X10_mark n 32 M) (fun M_2 => (if (M_2 0 18) = 0 then ob2 (F_X10_digits n x1 M_2) (fun r_5 M_6 => some (r_5, M_6)) else some (0, M_2)))
theorem hd_X10_behind : yX10_behind.cls ≠ "java/lang/invoke/MethodHandle" ∧ yX10_behind.cls ≠ "java/lang/invoke/VarHandle" ∧ (parseMethodDescriptor yX10_behind.desc).map (fun d => d.parameters.length) = some 1 := ⟨by decide +kernel, by decide +kernel, by decide +kernel⟩
set_option maxHeartbeats 4000000 in
set_option maxRecDepth 100000 in
theorem c_X10_behind (l : Launch) (g : GG) (X : va_W) (b : Nat → Nat) (sz n : Nat) (M : Mem) (x1 : Int32) {r0 : Int32} {M' : Mem} (hf : F_X10_behind n x1 M = some (r0, M')) : Met l yX10_behind (.code yX10_behind cX10_behind 2 (some .int) :: LWg) (rmD 2 0 0) (va_Pc [.ref (b 0), .int x1] (PreP g X 10 (shM g b) b sz M)) (Qi g X 10 (shM g b) b sz r0 M') 0 0 (AA X b 10 sz) := by
  refine met_go (by decide +kernel) rfl (Nat.le_of_ble_eq_true rfl) ?_
  intro p e s m below meth c ls H locs C0 C1 hr hlocks hnm hsz hl hI
  subst hsz
  have hl : lv_has ls 2 [(0, .ref (b 0)), (1, .int x1)] := hl
  unfold F_X10_behind at hf
  refine lv_aload_n C0.1 C0.2.1 dX10_behind_0 rfl (lv_at hl 0 rfl) ?_
  refine lv_bipush (v := 32) C0.1 C0.2.1 dX10_behind_1 (by decide) ?_
  obtain ⟨M_2, h_1, hf⟩ := ob_some hf
  refine k_v C1 hI (q_V C0 C1 hI 0 (c_X10_mark l g X b H.size n M 32 h_1) w_2120 w_2122 w_113 w_132 w_2123 ⟨rfl, rfl⟩ hd_X10_mark ⟨Nat.le_of_ble_eq_true rfl, Nat.le_of_ble_eq_true rfl⟩ (Nat.le_of_ble_eq_true rfl) ((fun _ => rfl) _) rfl rfl rfl hl.1 rfl (Nat.le_of_ble_eq_true rfl) dX10_behind_3 ⟨Nat.le_of_ble_eq_true rfl, Nat.le_of_ble_eq_true rfl⟩) (fun H locs hI => ?_)
  refine lv_aload_n C0.1 C0.2.1 dX10_behind_6 rfl (lv_at hl 0 rfl) ?_
  refine r_get (C := RX10) (T := TX10) (N9 := 20) (ci := 11) C0 C1 hI iX10 rfl 0 18 (Nat.le_of_ble_eq_true rfl) (by decide) ((fun _ => rfl) _) rfl rfl w_1709 dX10_behind_7 ?_
  refine lv_if_eq (tgt := 17) C0.1 C0.2.1 dX10_behind_10 (by decide) (fun c_3 => ?_) (fun c_3 => ?_)
  · have hf := (if_pos c_3).symm.trans hf
    refine lv_aload_n C0.1 C0.2.1 dX10_behind_17 rfl (lv_at hl 0 rfl) ?_
    refine lv_iload_n C0.1 C0.2.1 dX10_behind_18 rfl (lv_at hl 1 rfl) ?_
    obtain ⟨r_5, M_6, h_4, hf⟩ := ob2_some hf
    refine k_i C1 hI (q_V C0 C1 hI 0 (c_X10_digits l g X b H.size n M_2 x1 h_4) w_2112 w_2114 w_111 w_132 w_2115 ⟨rfl, rfl⟩ hd_X10_digits ⟨Nat.le_of_ble_eq_true rfl, Nat.le_of_ble_eq_true rfl⟩ (Nat.le_of_ble_eq_true rfl) ((fun _ => rfl) _) rfl rfl rfl hl.1 rfl (Nat.le_of_ble_eq_true rfl) dX10_behind_19 ⟨Nat.le_of_ble_eq_true rfl, Nat.le_of_ble_eq_true rfl⟩) (fun H locs hI => ?_)
    exact ee_im C0 hI hr hlocks hf dX10_behind_22
  · have hf := (if_neg c_3).symm.trans hf
    refine lv_iconst (v := 0) C0.1 C0.2.1 dX10_behind_13 (by decide) ?_
    refine lv_goto (tgt := 22) C0.1 C0.2.1 dX10_behind_14 (by decide) ?_
    exact ee_im C0 hI hr hlocks hf dX10_behind_22

def F_X10_plus (n : Nat) (M : Mem) : Option (Int32 × Mem) :=
  (if (M 0 18) = 0 then ob (F_X10_sign n M) (fun r_3 => (if r_3 = 43 then lt' (up2 M 0 18 0) (fun M_5 => (if (M_5 0 18) = 0 then lt' (up2 M_5 0 15 ((M_5 0 15) + 1)) (fun M_8 => (if r_3 = 43 then some (1, M_8) else some (0, M_8))) else lt' (up2 M_5 0 15 ((M_5 0 15) + 0)) (fun M_11 => (if r_3 = 43 then some (1, M_11) else some (0, M_11))))) else (if r_3 = 45 then lt' (up2 M 0 18 0) (fun M_15 => (if (M_15 0 18) = 0 then lt' (up2 M_15 0 15 ((M_15 0 15) + 1)) (fun M_18 => (if r_3 = 43 then some (1, M_18) else some (0, M_18))) else lt' (up2 M_15 0 15 ((M_15 0 15) + 0)) (fun M_21 => (if r_3 = 43 then some (1, M_21) else some (0, M_21))))) else lt' (up2 M 0 18 1) (fun M_24 => (if (M_24 0 18) = 0 then lt' (up2 M_24 0 15 ((M_24 0 15) + 1)) (fun M_27 => (if r_3 = 43 then some (1, M_27) else some (0, M_27))) else lt' (up2 M_24 0 15 ((M_24 0 15) + 0)) (fun M_30 => (if r_3 = 43 then some (1, M_30) else some (0, M_30)))))))) else some (0, M))
theorem hd_X10_plus : yX10_plus.cls ≠ "java/lang/invoke/MethodHandle" ∧ yX10_plus.cls ≠ "java/lang/invoke/VarHandle" ∧ (parseMethodDescriptor yX10_plus.desc).map (fun d => d.parameters.length) = some 0 := ⟨by decide +kernel, by decide +kernel, by decide +kernel⟩
set_option maxHeartbeats 4000000 in
set_option maxRecDepth 100000 in
theorem c_X10_plus (l : Launch) (g : GG) (X : va_W) (b : Nat → Nat) (sz n : Nat) (M : Mem) {r0 : Int32} {M' : Mem} (hf : F_X10_plus n M = some (r0, M')) : Met l yX10_plus (.code yX10_plus cX10_plus 2 (some .int) :: LWg) (rmD 1 0 0) (va_Pc [.ref (b 0)] (PreP g X 10 (shM g b) b sz M)) (Qi g X 10 (shM g b) b sz r0 M') 0 0 (AA X b 10 sz) := by
  refine met_go (by decide +kernel) rfl (Nat.le_of_ble_eq_true rfl) ?_
  intro p e s m below meth c ls H locs C0 C1 hr hlocks hnm hsz hl hI
  subst hsz
  have hl : lv_has ls 2 [(0, .ref (b 0))] := hl
  unfold F_X10_plus at hf
  refine lv_aload_n C0.1 C0.2.1 dX10_plus_0 rfl (lv_at hl 0 rfl) ?_
  refine r_get (C := RX10) (T := TX10) (N9 := 20) (ci := 11) C0 C1 hI iX10 rfl 0 18 (Nat.le_of_ble_eq_true rfl) (by decide) ((fun _ => rfl) _) rfl rfl w_1709 dX10_plus_1 ?_
  refine lv_if_eq (tgt := 9) C0.1 C0.2.1 dX10_plus_4 (by decide) (fun c_1 => ?_) (fun c_1 => ?_)
  · have hf := (if_pos c_1).symm.trans hf
    refine lv_aload_n C0.1 C0.2.1 dX10_plus_9 rfl (lv_at hl 0 rfl) ?_
    obtain ⟨r_3, h_2, hf⟩ := ob_some hf
    refine k_i C1 hI (q_V C0 C1 hI 0 (c_X10_sign l g X b H.size n M h_2) w_2108 w_2110 w_110 w_132 w_2111 ⟨rfl, rfl⟩ hd_X10_sign ⟨Nat.le_of_ble_eq_true rfl, Nat.le_of_ble_eq_true rfl⟩ (Nat.le_of_ble_eq_true rfl) ((fun _ => rfl) _) rfl rfl rfl hl.1 rfl (Nat.le_of_ble_eq_true rfl) dX10_plus_10 ⟨Nat.le_of_ble_eq_true rfl, Nat.le_of_ble_eq_true rfl⟩) (fun H locs hI => ?_)
    refine lv_istore_n (lv' := [(1, .int r_3), (0, .ref (b 0))]) C0.1 C0.2.1 dX10_plus_13 rfl hl (by decide) rfl (fun ls hl => ?_)
    refine lv_aload_n C0.1 C0.2.1 dX10_plus_14 rfl (lv_at hl 1 rfl) ?_
    refine lv_iload_n C0.1 C0.2.1 dX10_plus_15 rfl (lv_at hl 0 rfl) ?_
    refine lv_bipush (v := 43) C0.1 C0.2.1 dX10_plus_16 (by decide) ?_
    refine lv_icmp_eq (tgt := 31) C0.1 C0.2.1 dX10_plus_18 (by decide) (fun c_4 => ?_) (fun c_4 => ?_)
    · have hf := (if_pos c_4).symm.trans hf
      refine lv_iconst (v := 0) C0.1 C0.2.1 dX10_plus_31 (by decide) ?_
      refine r_put (C := RX10) (T := TX10) (N9 := 20) (ci := 11) (fs := fM b) (ty := .boolean) C0 C1 hI iX10 tyX10 tyX10_ok nmX10 rfl 0 18 (Nat.le_of_ble_eq_true rfl) (by decide) (fun _ => rfl) rfl rfl rfl (by decide +kernel) ⟨rfl, rfl⟩ (Nat.le_of_ble_eq_true rfl) w_1709 dX10_plus_32 (fun H locs hI => ?_)
      obtain ⟨M_5, e_6⟩ : ∃ z : Mem, z = up2 M 0 18 0 := ⟨_, rfl⟩
      rw [← e_6] at hI
      have hf := lt_at e_6 hf
      refine lv_aload_n C0.1 C0.2.1 dX10_plus_35 rfl (lv_at hl 1 rfl) ?_
      refine lv_dup C0.1 C0.2.1 dX10_plus_36 rfl ?_
      refine r_get (C := RX10) (T := TX10) (N9 := 20) (ci := 11) C0 C1 hI iX10 rfl 0 15 (Nat.le_of_ble_eq_true rfl) (by decide) ((fun _ => rfl) _) rfl rfl w_1706 dX10_plus_37 ?_
      refine lv_aload_n C0.1 C0.2.1 dX10_plus_40 rfl (lv_at hl 1 rfl) ?_
      refine r_get (C := RX10) (T := TX10) (N9 := 20) (ci := 11) C0 C1 hI iX10 rfl 0 18 (Nat.le_of_ble_eq_true rfl) (by decide) ((fun _ => rfl) _) rfl rfl w_1709 dX10_plus_41 ?_
      refine lv_if_eq (tgt := 51) C0.1 C0.2.1 dX10_plus_44 (by decide) (fun c_7 => ?_) (fun c_7 => ?_)
      · have hf := (if_pos c_7).symm.trans hf
        refine lv_iconst (v := 1) C0.1 C0.2.1 dX10_plus_51 (by decide) ?_
        refine lv_iadd C0.1 C0.2.1 dX10_plus_52 ?_
        refine r_put (C := RX10) (T := TX10) (N9 := 20) (ci := 11) (fs := fM b) (ty := .int) C0 C1 hI iX10 tyX10 tyX10_ok nmX10 rfl 0 15 (Nat.le_of_ble_eq_true rfl) (by decide) (fun _ => rfl) rfl rfl rfl (by decide +kernel) ⟨rfl, rfl⟩ (Nat.le_of_ble_eq_true rfl) w_1706 dX10_plus_53 (fun H locs hI => ?_)
        obtain ⟨M_8, e_9⟩ : ∃ z : Mem, z = up2 M_5 0 15 ((M_5 0 15) + 1) := ⟨_, rfl⟩
        rw [← e_9] at hI
        have hf := lt_at e_9 hf
        refine lv_iload_n C0.1 C0.2.1 dX10_plus_56 rfl (lv_at hl 0 rfl) ?_
        refine lv_bipush (v := 43) C0.1 C0.2.1 dX10_plus_57 (by decide) ?_
        refine lv_icmp_ne (tgt := 66) C0.1 C0.2.1 dX10_plus_59 (by decide) (fun c_10 => ?_) (fun c_10 => ?_)
        · have hf := (if_neg c_10).symm.trans hf
          refine lv_iconst (v := 0) C0.1 C0.2.1 dX10_plus_66 (by decide) ?_
          exact ee_im C0 hI hr hlocks hf dX10_plus_67
        · have hf := (if_pos c_10).symm.trans hf
          refine lv_iconst (v := 1) C0.1 C0.2.1 dX10_plus_62 (by decide) ?_
          refine lv_goto (tgt := 67) C0.1 C0.2.1 dX10_plus_63 (by decide) ?_
          exact ee_im C0 hI hr hlocks hf dX10_plus_67
      · have hf := (if_neg c_7).symm.trans hf
        refine lv_iconst (v := 0) C0.1 C0.2.1 dX10_plus_47 (by decide) ?_
        refine lv_goto (tgt := 52) C0.1 C0.2.1 dX10_plus_48 (by decide) ?_
        refine lv_iadd C0.1 C0.2.1 dX10_plus_52 ?_
        refine r_put (C := RX10) (T := TX10) (N9 := 20) (ci := 11) (fs := fM b) (ty := .int) C0 C1 hI iX10 tyX10 tyX10_ok nmX10 rfl 0 15 (Nat.le_of_ble_eq_true rfl) (by decide) (fun _ => rfl) rfl rfl rfl (by decide +kernel) ⟨rfl, rfl⟩ (Nat.le_of_ble_eq_true rfl) w_1706 dX10_plus_53 (fun H locs hI => ?_)
        obtain ⟨M_11, e_12⟩ : ∃ z : Mem, z = up2 M_5 0 15 ((M_5 0 15) + 0) := ⟨_, rfl⟩
        rw [← e_12] at hI
        have hf := lt_at e_12 hf
        refine lv_iload_n C0.1 C0.2.1 dX10_plus_56 rfl (lv_at hl 0 rfl) ?_
        refine lv_bipush (v := 43) C0.1 C0.2.1 dX10_plus_57 (by decide) ?_
        refine lv_icmp_ne (tgt := 66) C0.1 C0.2.1 dX10_plus_59 (by decide) (fun c_13 => ?_) (fun c_13 => ?_)
        · have hf := (if_neg c_13).symm.trans hf
          refine lv_iconst (v := 0) C0.1 C0.2.1 dX10_plus_66 (by decide) ?_
          exact ee_im C0 hI hr hlocks hf dX10_plus_67
        · have hf := (if_pos c_13).symm.trans hf
          refine lv_iconst (v := 1) C0.1 C0.2.1 dX10_plus_62 (by decide) ?_
          refine lv_goto (tgt := 67) C0.1 C0.2.1 dX10_plus_63 (by decide) ?_
          exact ee_im C0 hI hr hlocks hf dX10_plus_67
    · have hf := (if_neg c_4).symm.trans hf
      refine lv_iload_n C0.1 C0.2.1 dX10_plus_21 rfl (lv_at hl 0 rfl) ?_
      refine lv_bipush (v := 45) C0.1 C0.2.1 dX10_plus_22 (by decide) ?_
      refine lv_icmp_eq (tgt := 31) C0.1 C0.2.1 dX10_plus_24 (by decide) (fun c_14 => ?_) (fun c_14 => ?_)
      · have hf := (if_pos c_14).symm.trans hf
        refine lv_iconst (v := 0) C0.1 C0.2.1 dX10_plus_31 (by decide) ?_
        refine r_put (C := RX10) (T := TX10) (N9 := 20) (ci := 11) (fs := fM b) (ty := .boolean) C0 C1 hI iX10 tyX10 tyX10_ok nmX10 rfl 0 18 (Nat.le_of_ble_eq_true rfl) (by decide) (fun _ => rfl) rfl rfl rfl (by decide +kernel) ⟨rfl, rfl⟩ (Nat.le_of_ble_eq_true rfl) w_1709 dX10_plus_32 (fun H locs hI => ?_)
        obtain ⟨M_15, e_16⟩ : ∃ z : Mem, z = up2 M 0 18 0 := ⟨_, rfl⟩
        rw [← e_16] at hI
        have hf := lt_at e_16 hf
        refine lv_aload_n C0.1 C0.2.1 dX10_plus_35 rfl (lv_at hl 1 rfl) ?_
        refine lv_dup C0.1 C0.2.1 dX10_plus_36 rfl ?_
        refine r_get (C := RX10) (T := TX10) (N9 := 20) (ci := 11) C0 C1 hI iX10 rfl 0 15 (Nat.le_of_ble_eq_true rfl) (by decide) ((fun _ => rfl) _) rfl rfl w_1706 dX10_plus_37 ?_
        refine lv_aload_n C0.1 C0.2.1 dX10_plus_40 rfl (lv_at hl 1 rfl) ?_
        refine r_get (C := RX10) (T := TX10) (N9 := 20) (ci := 11) C0 C1 hI iX10 rfl 0 18 (Nat.le_of_ble_eq_true rfl) (by decide) ((fun _ => rfl) _) rfl rfl w_1709 dX10_plus_41 ?_
        refine lv_if_eq (tgt := 51) C0.1 C0.2.1 dX10_plus_44 (by decide) (fun c_17 => ?_) (fun c_17 => ?_)
        · have hf := (if_pos c_17).symm.trans hf
          refine lv_iconst (v := 1) C0.1 C0.2.1 dX10_plus_51 (by decide) ?_
          refine lv_iadd C0.1 C0.2.1 dX10_plus_52 ?_
          refine r_put (C := RX10) (T := TX10) (N9 := 20) (ci := 11) (fs := fM b) (ty := .int) C0 C1 hI iX10 tyX10 tyX10_ok nmX10 rfl 0 15 (Nat.le_of_ble_eq_true rfl) (by decide) (fun _ => rfl) rfl rfl rfl (by decide +kernel) ⟨rfl, rfl⟩ (Nat.le_of_ble_eq_true rfl) w_1706 dX10_plus_53 (fun H locs hI => ?_)
          obtain ⟨M_18, e_19⟩ : ∃ z : Mem, z = up2 M_15 0 15 ((M_15 0 15) + 1) := ⟨_, rfl⟩
          rw [← e_19] at hI
          have hf := lt_at e_19 hf
          refine lv_iload_n C0.1 C0.2.1 dX10_plus_56 rfl (lv_at hl 0 rfl) ?_
          refine lv_bipush (v := 43) C0.1 C0.2.1 dX10_plus_57 (by decide) ?_
          refine lv_icmp_ne (tgt := 66) C0.1 C0.2.1 dX10_plus_59 (by decide) (fun c_20 => ?_) (fun c_20 => ?_)
          · have hf := (if_neg c_20).symm.trans hf
            refine lv_iconst (v := 0) C0.1 C0.2.1 dX10_plus_66 (by decide) ?_
            exact ee_im C0 hI hr hlocks hf dX10_plus_67
          · have hf := (if_pos c_20).symm.trans hf
            refine lv_iconst (v := 1) C0.1 C0.2.1 dX10_plus_62 (by decide) ?_
            refine lv_goto (tgt := 67) C0.1 C0.2.1 dX10_plus_63 (by decide) ?_
            exact ee_im C0 hI hr hlocks hf dX10_plus_67
        · have hf := (if_neg c_17).symm.trans hf
          refine lv_iconst (v := 0) C0.1 C0.2.1 dX10_plus_47 (by decide) ?_
          refine lv_goto (tgt := 52) C0.1 C0.2.1 dX10_plus_48 (by decide) ?_
          refine lv_iadd C0.1 C0.2.1 dX10_plus_52 ?_
          refine r_put (C := RX10) (T := TX10) (N9 := 20) (ci := 11) (fs := fM b) (ty := .int) C0 C1 hI iX10 tyX10 tyX10_ok nmX10 rfl 0 15 (Nat.le_of_ble_eq_true rfl) (by decide) (fun _ => rfl) rfl rfl rfl (by decide +kernel) ⟨rfl, rfl⟩ (Nat.le_of_ble_eq_true rfl) w_1706 dX10_plus_53 (fun H locs hI => ?_)
          obtain ⟨M_21, e_22⟩ : ∃ z : Mem, z = up2 M_15 0 15 ((M_15 0 15) + 0) := ⟨_, rfl⟩
          rw [← e_22] at hI
          have hf := lt_at e_22 hf
          refine lv_iload_n C0.1 C0.2.1 dX10_plus_56 rfl (lv_at hl 0 rfl) ?_
          refine lv_bipush (v := 43) C0.1 C0.2.1 dX10_plus_57 (by decide) ?_
          refine lv_icmp_ne (tgt := 66) C0.1 C0.2.1 dX10_plus_59 (by decide) (fun c_23 => ?_) (fun c_23 => ?_)
          · have hf := (if_neg c_23).symm.trans hf
            refine lv_iconst (v := 0) C0.1 C0.2.1 dX10_plus_66 (by decide) ?_
            exact ee_im C0 hI hr hlocks hf dX10_plus_67
          · have hf := (if_pos c_23).symm.trans hf
            refine lv_iconst (v := 1) C0.1 C0.2.1 dX10_plus_62 (by decide) ?_
            refine lv_goto (tgt := 67) C0.1 C0.2.1 dX10_plus_63 (by decide) ?_
            exact ee_im C0 hI hr hlocks hf dX10_plus_67
      · have hf := (if_neg c_14).symm.trans hf
        refine lv_iconst (v := 1) C0.1 C0.2.1 dX10_plus_27 (by decide) ?_
        refine lv_goto (tgt := 32) C0.1 C0.2.1 dX10_plus_28 (by decide) ?_
        refine r_put (C := RX10) (T := TX10) (N9 := 20) (ci := 11) (fs := fM b) (ty := .boolean) C0 C1 hI iX10 tyX10 tyX10_ok nmX10 rfl 0 18 (Nat.le_of_ble_eq_true rfl) (by decide) (fun _ => rfl) rfl rfl rfl (by decide +kernel) ⟨rfl, rfl⟩ (Nat.le_of_ble_eq_true rfl) w_1709 dX10_plus_32 (fun H locs hI => ?_)
        obtain ⟨M_24, e_25⟩ : ∃ z : Mem, z = up2 M 0 18 1 := ⟨_, rfl⟩
        rw [← e_25] at hI
        have hf := lt_at e_25 hf
        refine lv_aload_n C0.1 C0.2.1 dX10_plus_35 rfl (lv_at hl 1 rfl) ?_
        refine lv_dup C0.1 C0.2.1 dX10_plus_36 rfl ?_
        refine r_get (C := RX10) (T := TX10) (N9 := 20) (ci := 11) C0 C1 hI iX10 rfl 0 15 (Nat.le_of_ble_eq_true rfl) (by decide) ((fun _ => rfl) _) rfl rfl w_1706 dX10_plus_37 ?_
        refine lv_aload_n C0.1 C0.2.1 dX10_plus_40 rfl (lv_at hl 1 rfl) ?_
        refine r_get (C := RX10) (T := TX10) (N9 := 20) (ci := 11) C0 C1 hI iX10 rfl 0 18 (Nat.le_of_ble_eq_true rfl) (by decide) ((fun _ => rfl) _) rfl rfl w_1709 dX10_plus_41 ?_
        refine lv_if_eq (tgt := 51) C0.1 C0.2.1 dX10_plus_44 (by decide) (fun c_26 => ?_) (fun c_26 => ?_)
        · have hf := (if_pos c_26).symm.trans hf
          refine lv_iconst (v := 1) C0.1 C0.2.1 dX10_plus_51 (by decide) ?_
          refine lv_iadd C0.1 C0.2.1 dX10_plus_52 ?_
          refine r_put (C := RX10) (T := TX10) (N9 := 20) (ci := 11) (fs := fM b) (ty := .int) C0 C1 hI iX10 tyX10 tyX10_ok nmX10 rfl 0 15 (Nat.le_of_ble_eq_true rfl) (by decide) (fun _ => rfl) rfl rfl rfl (by decide +kernel) ⟨rfl, rfl⟩ (Nat.le_of_ble_eq_true rfl) w_1706 dX10_plus_53 (fun H locs hI => ?_)
          obtain ⟨M_27, e_28⟩ : ∃ z : Mem, z = up2 M_24 0 15 ((M_24 0 15) + 1) := ⟨_, rfl⟩
          rw [← e_28] at hI
          have hf := lt_at e_28 hf
          refine lv_iload_n C0.1 C0.2.1 dX10_plus_56 rfl (lv_at hl 0 rfl) ?_
          refine lv_bipush (v := 43) C0.1 C0.2.1 dX10_plus_57 (by decide) ?_
          refine lv_icmp_ne (tgt := 66) C0.1 C0.2.1 dX10_plus_59 (by decide) (fun c_29 => ?_) (fun c_29 => ?_)
          · have hf := (if_neg c_29).symm.trans hf
            refine lv_iconst (v := 0) C0.1 C0.2.1 dX10_plus_66 (by decide) ?_
            exact ee_im C0 hI hr hlocks hf dX10_plus_67
          · have hf := (if_pos c_29).symm.trans hf
            refine lv_iconst (v := 1) C0.1 C0.2.1 dX10_plus_62 (by decide) ?_
            refine lv_goto (tgt := 67) C0.1 C0.2.1 dX10_plus_63 (by decide) ?_
            exact ee_im C0 hI hr hlocks hf dX10_plus_67
        · have hf := (if_neg c_26).symm.trans hf
          refine lv_iconst (v := 0) C0.1 C0.2.1 dX10_plus_47 (by decide) ?_
          refine lv_goto (tgt := 52) C0.1 C0.2.1 dX10_plus_48 (by decide) ?_
          refine lv_iadd C0.1 C0.2.1 dX10_plus_52 ?_
          refine r_put (C := RX10) (T := TX10) (N9 := 20) (ci := 11) (fs := fM b) (ty := .int) C0 C1 hI iX10 tyX10 tyX10_ok nmX10 rfl 0 15 (Nat.le_of_ble_eq_true rfl) (by decide) (fun _ => rfl) rfl rfl rfl (by decide +kernel) ⟨rfl, rfl⟩ (Nat.le_of_ble_eq_true rfl) w_1706 dX10_plus_53 (fun H locs hI => ?_)
          obtain ⟨M_30, e_31⟩ : ∃ z : Mem, z = up2 M_24 0 15 ((M_24 0 15) + 0) := ⟨_, rfl⟩
          rw [← e_31] at hI
          have hf := lt_at e_31 hf
          refine lv_iload_n C0.1 C0.2.1 dX10_plus_56 rfl (lv_at hl 0 rfl) ?_
          refine lv_bipush (v := 43) C0.1 C0.2.1 dX10_plus_57 (by decide) ?_
          refine lv_icmp_ne (tgt := 66) C0.1 C0.2.1 dX10_plus_59 (by decide) (fun c_32 => ?_) (fun c_32 => ?_)
          · have hf := (if_neg c_32).symm.trans hf
            refine lv_iconst (v := 0) C0.1 C0.2.1 dX10_plus_66 (by decide) ?_
            exact ee_im C0 hI hr hlocks hf dX10_plus_67
          · have hf := (if_pos c_32).symm.trans hf
            refine lv_iconst (v := 1) C0.1 C0.2.1 dX10_plus_62 (by decide) ?_
            refine lv_goto (tgt := 67) C0.1 C0.2.1 dX10_plus_63 (by decide) ?_
            exact ee_im C0 hI hr hlocks hf dX10_plus_67
  · have hf := (if_neg c_1).symm.trans hf
    refine lv_iconst (v := 0) C0.1 C0.2.1 dX10_plus_7 (by decide) ?_
    exact ee_im C0 hI hr hlocks hf dX10_plus_8

def F_X10_word_L167 (n : Nat) (c25 : Int32 → Int32 → Mem → Option (Int32 × Mem)) : Nat → Int32 → Int32 → Int32 → Mem → Option (Int32 × Mem)
  | 0, _, _, _, _ => none
  | k167 + 1, x1_167, x2_167, x4_167, M =>
    (if 11 ≤ x4_167 then c25 x1_167 x2_167 M else chk (inb x4_167 11) ((if (M 7 (ix x4_167)) = 1 then chk (inb x4_167 12) (chk (inb (x4_167 + 1) 12) ((if ((M 9 (ix x4_167)) + x1_167) = (M 9 (ix (x4_167 + 1))) then lt' (x4_167 + 1) (fun x4_167_11 => F_X10_word_L167 n c25 k167 x1_167 x4_167 x4_167_11 M) else lt' (x4_167 + 1) (fun x4_167_9 => F_X10_word_L167 n c25 k167 x1_167 x2_167 x4_167_9 M)))) else lt' (x4_167 + 1) (fun x4_167_4 => F_X10_word_L167 n c25 k167 x1_167 x2_167 x4_167_4 M))))
def F_X10_word_L41 (n : Nat) (c25 : Int32 → Int32 → Mem → Option (Int32 × Mem)) : Nat → Int32 → Int32 → Int32 → Int32 → Mem → Option (Int32 × Mem)
  | 0, _, _, _, _, _ => none
  | k41 + 1, x1_41, x2_41, x3_41, x4_41, M =>
    (if 11 ≤ x4_41 then (if x3_41 = 0 then lt' (up2 M 0 18 1) (fun M_41_14 => (if x3_41 = 0 then lt' (up2 M_41_14 0 15 ((M_41_14 0 15) + 0)) (fun M_41_17 => lt' (x1_41 + 1) (fun x1_41_19 => F_X10_word_L167 n c25 n x1_41_19 x2_41 0 M_41_17)) else lt' (up2 M_41_14 0 15 ((M_41_14 0 15) + 1)) (fun M_41_21 => lt' (x1_41 + 1) (fun x1_41_23 => F_X10_word_L167 n c25 n x1_41_23 x2_41 0 M_41_21)))) else lt' (up2 M 0 18 0) (fun M_41_3 => (if x3_41 = 0 then lt' (up2 M_41_3 0 15 ((M_41_3 0 15) + 0)) (fun M_41_6 => lt' (x1_41 + 1) (fun x1_41_8 => F_X10_word_L167 n c25 n x1_41_8 x2_41 0 M_41_6)) else lt' (up2 M_41_3 0 15 ((M_41_3 0 15) + 1)) (fun M_41_10 => lt' (x1_41 + 1) (fun x1_41_12 => F_X10_word_L167 n c25 n x1_41_12 x2_41 0 M_41_10))))) else chk (inb x4_41 11) (chk (inb x4_41 12) (chk (inb (x4_41 + 1) 12) ((if (M 9 (ix (x4_41 + 1))) ≤ ((M 9 (ix x4_41)) + x1_41) then chk (inb x4_41 11) (lt' (up2 M 7 (ix x4_41) ((M 7 (ix x4_41)) &&& 0)) (fun M_41_32 => chk (inb x4_41 11) ((if (M_41_32 7 (ix x4_41)) = 1 then lt' (x3_41 ||| 1) (fun x3_41_40 => lt' (x4_41 + 1) (fun x4_41_42 => F_X10_word_L41 n c25 k41 x1_41 x2_41 x3_41_40 x4_41_42 M_41_32)) else lt' (x3_41 ||| 0) (fun x3_41_36 => lt' (x4_41 + 1) (fun x4_41_38 => F_X10_word_L41 n c25 k41 x1_41 x2_41 x3_41_36 x4_41_38 M_41_32)))))) else chk (inb x4_41 12) (chk (inb ((M 9 (ix x4_41)) + x1_41) 59) (ob (F_X10_sign n M) (fun r_41_47 => (if (M 8 (ix ((M 9 (ix x4_41)) + x1_41))) = r_41_47 then chk (inb x4_41 11) (lt' (up2 M 7 (ix x4_41) ((M 7 (ix x4_41)) &&& 1)) (fun M_41_67 => chk (inb x4_41 11) ((if (M_41_67 7 (ix x4_41)) = 1 then lt' (x3_41 ||| 1) (fun x3_41_75 => lt' (x4_41 + 1) (fun x4_41_77 => F_X10_word_L41 n c25 k41 x1_41 x2_41 x3_41_75 x4_41_77 M_41_67)) else lt' (x3_41 ||| 0) (fun x3_41_71 => lt' (x4_41 + 1) (fun x4_41_73 => F_X10_word_L41 n c25 k41 x1_41 x2_41 x3_41_71 x4_41_73 M_41_67)))))) else chk (inb x4_41 11) (lt' (up2 M 7 (ix x4_41) ((M 7 (ix x4_41)) &&& 0)) (fun M_41_52 => chk (inb x4_41 11) ((if (M_41_52 7 (ix x4_41)) = 1 then lt' (x3_41 ||| 1) (fun x3_41_60 => lt' (x4_41 + 1) (fun x4_41_62 => F_X10_word_L41 n c25 k41 x1_41 x2_41 x3_41_60 x4_41_62 M_41_52)) else lt' (x3_41 ||| 0) (fun x3_41_56 => lt' (x4_41 + 1) (fun x4_41_58 => F_X10_word_L41 n c25 k41 x1_41 x2_41 x3_41_56 x4_41_58 M_41_52)))))))))))))))
def F_X10_word_L25 (n : Nat) : Nat → Int32 → Int32 → Mem → Option (Int32 × Mem)
  | 0, _, _, _ => none
  | k25 + 1, x1_25, x2_25, M =>
    (if 0 ≤ x2_25 then some (x2_25, M) else (if (M 0 18) = 0 then F_X10_word_L41 n (F_X10_word_L25 n k25) n x1_25 x2_25 0 0 M else some (x2_25, M)))
def F_X10_word_L2 (n : Nat) : Nat → Int32 → Mem → Option (Int32 × Mem)
  | 0, _, _ => none
  | k2 + 1, x1_2, M =>
    (if 11 ≤ x1_2 then F_X10_word_L25 n n 0 (-1) M else chk (inb x1_2 11) (lt' (up2 M 7 (ix x1_2) 1) (fun M_2_5 => lt' (x1_2 + 1) (fun x1_2_7 => F_X10_word_L2 n k2 x1_2_7 M_2_5))))
def F_X10_word (n : Nat) (M : Mem) : Option (Int32 × Mem) :=
  F_X10_word_L2 n n 0 M
theorem hd_X10_word : yX10_word.cls ≠ "java/lang/invoke/MethodHandle" ∧ yX10_word.cls ≠ "java/lang/invoke/VarHandle" ∧ (parseMethodDescriptor yX10_word.desc).map (fun d => d.parameters.length) = some 0 := ⟨by decide +kernel, by decide +kernel, by decide +kernel⟩
set_option maxHeartbeats 4000000 in
set_option maxRecDepth 100000 in
theorem c_X10_word (l : Launch) (g : GG) (X : va_W) (b : Nat → Nat) (sz n : Nat) (M : Mem) {r0 : Int32} {M' : Mem} (hf : F_X10_word n M = some (r0, M')) : Met l yX10_word (.code yX10_word cX10_word 5 (some .int) :: LWg) (rmD 1 0 0) (va_Pc [.ref (b 0)] (PreP g X 10 (shM g b) b sz M)) (Qi g X 10 (shM g b) b sz r0 M') 0 0 (AA X b 10 sz) := by
  refine met_go (by decide +kernel) rfl (Nat.le_of_ble_eq_true rfl) ?_
  intro p e s m below meth c ls H locs C0 C1 hr hlocks hnm hsz hl hI
  subst hsz
  have hl : lv_has ls 5 [(0, .ref (b 0))] := hl
  unfold F_X10_word at hf
  refine lv_iconst (v := 0) C0.1 C0.2.1 dX10_word_0 (by decide) ?_
  refine lv_istore_n (lv' := [(1, .int 0), (0, .ref (b 0))]) C0.1 C0.2.1 dX10_word_1 rfl hl (by decide) rfl (fun ls hl => ?_)
  have L2 : ∀ (k2 : Nat) (x1_2 : Int32) (M : Mem), F_X10_word_L2 n k2 x1_2 M = some (r0, M') → ∀ (H : Heap) (locs : List Loc) (ls : Array Slot), PI g X 10 (shM g b) b s M H locs → lv_has ls 5 [(0, .ref (b 0)), (1, .int x1_2)] → W p l e (rmD 1 0 0) s m ([.ref (b 0)] : List Value).toArray below meth c H locs 0 0 (MQ below (Qi g X 10 (shM g b) b s.heap.size r0 M') ([.ref (b 0)] : List Value).toArray s 0 0 (AA X b 10 s.heap.size)) (F0 m 2 ls []) := by
    intro k2
    induction k2 with
    | zero => intro x1_2 M hf; exact absurd (show (none : Option (Int32 × Mem)) = some (r0, M') from hf) (fun h => by cases h)
    | succ k2 ih2 =>
      intro x1_2 M hf H locs ls hI hl
      unfold F_X10_word_L2 at hf
      refine lv_iload_n C0.1 C0.2.1 dX10_word_2 rfl (lv_at hl 1 rfl) ?_
      refine lv_bipush (v := 11) C0.1 C0.2.1 dX10_word_3 (by decide) ?_
      refine lv_icmp_ge (tgt := 21) C0.1 C0.2.1 dX10_word_5 (by decide) (fun c_2_1 => ?_) (fun c_2_1 => ?_)
      · have hf := (if_pos c_2_1).symm.trans hf
        refine lv_iconst (v := 0) C0.1 C0.2.1 dX10_word_21 (by decide) ?_
        refine lv_istore_n (lv' := [(1, .int 0), (0, .ref (b 0))]) C0.1 C0.2.1 dX10_word_22 rfl hl (by decide) rfl (fun ls hl => ?_)
        refine lv_iconst (v := (-1)) C0.1 C0.2.1 dX10_word_23 (by decide) ?_
        refine lv_istore_n (lv' := [(2, .int (-1)), (1, .int 0), (0, .ref (b 0))]) C0.1 C0.2.1 dX10_word_24 rfl hl (by decide) rfl (fun ls hl => ?_)
        have L25 : ∀ (k25 : Nat) (x1_25 : Int32) (x2_25 : Int32) (M : Mem), F_X10_word_L25 n k25 x1_25 x2_25 M = some (r0, M') → ∀ (H : Heap) (locs : List Loc) (ls : Array Slot), PI g X 10 (shM g b) b s M H locs → lv_has ls 5 [(0, .ref (b 0)), (1, .int x1_25), (2, .int x2_25)] → W p l e (rmD 1 0 0) s m ([.ref (b 0)] : List Value).toArray below meth c H locs 0 0 (MQ below (Qi g X 10 (shM g b) b s.heap.size r0 M') ([.ref (b 0)] : List Value).toArray s 0 0 (AA X b 10 s.heap.size)) (F0 m 25 ls []) := by
          intro k25
          induction k25 with
          | zero => intro x1_25 x2_25 M hf; exact absurd (show (none : Option (Int32 × Mem)) = some (r0, M') from hf) (fun h => by cases h)
          | succ k25 ih25 =>
            intro x1_25 x2_25 M hf H locs ls hI hl
            unfold F_X10_word_L25 at hf
            refine lv_iload_n C0.1 C0.2.1 dX10_word_25 rfl (lv_at hl 2 rfl) ?_
            refine lv_if_ge (tgt := 222) C0.1 C0.2.1 dX10_word_26 (by decide) (fun c_25_1 => ?_) (fun c_25_1 => ?_)
            · have hf := (if_pos c_25_1).symm.trans hf
              refine lv_iload_n C0.1 C0.2.1 dX10_word_222 rfl (lv_at hl 2 rfl) ?_
              exact ee_im C0 hI hr hlocks hf dX10_word_223
            · have hf := (if_neg c_25_1).symm.trans hf
              refine lv_aload_n C0.1 C0.2.1 dX10_word_29 rfl (lv_at hl 0 rfl) ?_
              refine r_get (C := RX10) (T := TX10) (N9 := 20) (ci := 11) C0 C1 hI iX10 rfl 0 18 (Nat.le_of_ble_eq_true rfl) (by decide) ((fun _ => rfl) _) rfl rfl w_1709 dX10_word_30 ?_
              refine lv_if_ne (tgt := 222) C0.1 C0.2.1 dX10_word_33 (by decide) (fun c_25_2 => ?_) (fun c_25_2 => ?_)
              · have hf := (if_neg c_25_2).symm.trans hf
                refine lv_iload_n C0.1 C0.2.1 dX10_word_222 rfl (lv_at hl 2 rfl) ?_
                exact ee_im C0 hI hr hlocks hf dX10_word_223
              · have hf := (if_pos c_25_2).symm.trans hf
                refine lv_iconst (v := 0) C0.1 C0.2.1 dX10_word_36 (by decide) ?_
                refine lv_istore_n (lv' := [(3, .int 0), (0, .ref (b 0)), (1, .int x1_25), (2, .int x2_25)]) C0.1 C0.2.1 dX10_word_37 rfl hl (by decide) rfl (fun ls hl => ?_)
                refine lv_iconst (v := 0) C0.1 C0.2.1 dX10_word_38 (by decide) ?_
                refine lv_istore (lv' := [(4, .int 0), (3, .int 0), (0, .ref (b 0)), (1, .int x1_25), (2, .int x2_25)]) C0.1 C0.2.1 dX10_word_39 hl (by decide) rfl (fun ls hl => ?_)
                have L41 : ∀ (c25 : Int32 → Int32 → Mem → Option (Int32 × Mem)) (hc25 : ∀ (z1 : Int32) (z2 : Int32) (M : Mem), c25 z1 z2 M = some (r0, M') → ∀ (H : Heap) (locs : List Loc) (ls : Array Slot), PI g X 10 (shM g b) b s M H locs → lv_has ls 5 [(0, .ref (b 0)), (1, .int z1), (2, .int z2)] → W p l e (rmD 1 0 0) s m ([.ref (b 0)] : List Value).toArray below meth c H locs 0 0 (MQ below (Qi g X 10 (shM g b) b s.heap.size r0 M') ([.ref (b 0)] : List Value).toArray s 0 0 (AA X b 10 s.heap.size)) (F0 m 25 ls [])) (k41 : Nat) (x1_41 : Int32) (x2_41 : Int32) (x3_41 : Int32) (x4_41 : Int32) (M : Mem), F_X10_word_L41 n c25 k41 x1_41 x2_41 x3_41 x4_41 M = some (r0, M') → ∀ (H : Heap) (locs : List Loc) (ls : Array Slot), PI g X 10 (shM g b) b s M H locs → lv_has ls 5 [(0, .ref (b 0)), (1, .int x1_41), (2, .int x2_41), (3, .int x3_41), (4, .int x4_41)] → W p l e (rmD 1 0 0) s m ([.ref (b 0)] : List Value).toArray below meth c H locs 0 0 (MQ below (Qi g X 10 (shM g b) b s.heap.size r0 M') ([.ref (b 0)] : List Value).toArray s 0 0 (AA X b 10 s.heap.size)) (F0 m 41 ls []) := by
                  intro c25 hc25 k41
                  induction k41 with
                  | zero => intro x1_41 x2_41 x3_41 x4_41 M hf; exact absurd (show (none : Option (Int32 × Mem)) = some (r0, M') from hf) (fun h => by cases h)
                  | succ k41 ih41 =>
                    intro x1_41 x2_41 x3_41 x4_41 M hf H locs ls hI hl
                    unfold F_X10_word_L41 at hf
                    refine lv_iload C0.1 C0.2.1 dX10_word_41 (lv_at hl 4 rfl) ?_
                    refine lv_bipush (v := 11) C0.1 C0.2.1 dX10_word_43 (by decide) ?_
                    refine lv_icmp_ge (tgt := 130) C0.1 C0.2.1 dX10_word_45 (by decide) (fun c_41_1 => ?_) (fun c_41_1 => ?_)
                    · have hf := (if_pos c_41_1).symm.trans hf
                      refine lv_aload_n C0.1 C0.2.1 dX10_word_130 rfl (lv_at hl 0 rfl) ?_
                      refine lv_iload_n C0.1 C0.2.1 dX10_word_131 rfl (lv_at hl 3 rfl) ?_
                      refine lv_if_ne (tgt := 139) C0.1 C0.2.1 dX10_word_132 (by decide) (fun c_41_2 => ?_) (fun c_41_2 => ?_)
                      · have hf := (if_neg c_41_2).symm.trans hf
                        refine lv_iconst (v := 0) C0.1 C0.2.1 dX10_word_139 (by decide) ?_
                        refine r_put (C := RX10) (T := TX10) (N9 := 20) (ci := 11) (fs := fM b) (ty := .boolean) C0 C1 hI iX10 tyX10 tyX10_ok nmX10 rfl 0 18 (Nat.le_of_ble_eq_true rfl) (by decide) (fun _ => rfl) rfl rfl rfl (by decide +kernel) ⟨rfl, rfl⟩ (Nat.le_of_ble_eq_true rfl) w_1709 dX10_word_140 (fun H locs hI => ?_)
                        obtain ⟨M_41_3, e_41_4⟩ : ∃ z : Mem, z = up2 M 0 18 0 := ⟨_, rfl⟩
                        rw [← e_41_4] at hI
                        have hf := lt_at e_41_4 hf
                        refine lv_aload_n C0.1 C0.2.1 dX10_word_143 rfl (lv_at hl 0 rfl) ?_
                        refine lv_dup C0.1 C0.2.1 dX10_word_144 rfl ?_
                        refine r_get (C := RX10) (T := TX10) (N9 := 20) (ci := 11) C0 C1 hI iX10 rfl 0 15 (Nat.le_of_ble_eq_true rfl) (by decide) ((fun _ => rfl) _) rfl rfl w_1706 dX10_word_145 ?_
                        refine lv_iload_n C0.1 C0.2.1 dX10_word_148 rfl (lv_at hl 3 rfl) ?_
                        refine lv_if_eq (tgt := 156) C0.1 C0.2.1 dX10_word_149 (by decide) (fun c_41_5 => ?_) (fun c_41_5 => ?_)
                        · have hf := (if_pos c_41_5).symm.trans hf
                          refine lv_iconst (v := 0) C0.1 C0.2.1 dX10_word_156 (by decide) ?_
                          refine lv_iadd C0.1 C0.2.1 dX10_word_157 ?_
                          refine r_put (C := RX10) (T := TX10) (N9 := 20) (ci := 11) (fs := fM b) (ty := .int) C0 C1 hI iX10 tyX10 tyX10_ok nmX10 rfl 0 15 (Nat.le_of_ble_eq_true rfl) (by decide) (fun _ => rfl) rfl rfl rfl (by decide +kernel) ⟨rfl, rfl⟩ (Nat.le_of_ble_eq_true rfl) w_1706 dX10_word_158 (fun H locs hI => ?_)
                          obtain ⟨M_41_6, e_41_7⟩ : ∃ z : Mem, z = up2 M_41_3 0 15 ((M_41_3 0 15) + 0) := ⟨_, rfl⟩
                          rw [← e_41_7] at hI
                          have hf := lt_at e_41_7 hf
                          obtain ⟨x1_41_8, e_41_9⟩ : ∃ z : Int32, z = x1_41 + 1 := ⟨_, rfl⟩
                          have hf := lt_at e_41_9 hf
                          refine lv_iinc (v := x1_41_8) (lv' := [(1, .int x1_41_8), (0, .ref (b 0)), (2, .int x2_41), (3, .int x3_41), (4, .int x4_41)]) C0.1 C0.2.1 dX10_word_161 hl (k := 1) rfl (by rw [e_41_9]; rfl) (by decide) rfl (fun ls hl => ?_)
                          refine lv_iconst (v := 0) C0.1 C0.2.1 dX10_word_164 (by decide) ?_
                          refine lv_istore (lv' := [(4, .int 0), (1, .int x1_41_8), (0, .ref (b 0)), (2, .int x2_41), (3, .int x3_41)]) C0.1 C0.2.1 dX10_word_165 hl (by decide) rfl (fun ls hl => ?_)
                          have L167 : ∀ (c25 : Int32 → Int32 → Mem → Option (Int32 × Mem)) (hc25 : ∀ (z1 : Int32) (z2 : Int32) (M : Mem), c25 z1 z2 M = some (r0, M') → ∀ (H : Heap) (locs : List Loc) (ls : Array Slot), PI g X 10 (shM g b) b s M H locs → lv_has ls 5 [(0, .ref (b 0)), (1, .int z1), (2, .int z2)] → W p l e (rmD 1 0 0) s m ([.ref (b 0)] : List Value).toArray below meth c H locs 0 0 (MQ below (Qi g X 10 (shM g b) b s.heap.size r0 M') ([.ref (b 0)] : List Value).toArray s 0 0 (AA X b 10 s.heap.size)) (F0 m 25 ls [])) (k167 : Nat) (x1_167 : Int32) (x2_167 : Int32) (x4_167 : Int32) (M : Mem), F_X10_word_L167 n c25 k167 x1_167 x2_167 x4_167 M = some (r0, M') → ∀ (H : Heap) (locs : List Loc) (ls : Array Slot), PI g X 10 (shM g b) b s M H locs → lv_has ls 5 [(0, .ref (b 0)), (1, .int x1_167), (2, .int x2_167), (4, .int x4_167)] → W p l e (rmD 1 0 0) s m ([.ref (b 0)] : List Value).toArray below meth c H locs 0 0 (MQ below (Qi g X 10 (shM g b) b s.heap.size r0 M') ([.ref (b 0)] : List Value).toArray s 0 0 (AA X b 10 s.heap.size)) (F0 m 167 ls []) := by
                            intro c25 hc25 k167
                            induction k167 with
                            | zero => intro x1_167 x2_167 x4_167 M hf; exact absurd (show (none : Option (Int32 × Mem)) = some (r0, M') from hf) (fun h => by cases h)
                            | succ k167 ih167 =>
                              intro x1_167 x2_167 x4_167 M hf H locs ls hI hl
                              unfold F_X10_word_L167 at hf
                              refine lv_iload C0.1 C0.2.1 dX10_word_167 (lv_at hl 3 rfl) ?_
                              refine lv_bipush (v := 11) C0.1 C0.2.1 dX10_word_169 (by decide) ?_
                              refine lv_icmp_ge (tgt := 219) C0.1 C0.2.1 dX10_word_171 (by decide) (fun c_167_1 => ?_) (fun c_167_1 => ?_)
                              · have hf := (if_pos c_167_1).symm.trans hf
                                refine lv_goto (tgt := 25) C0.1 C0.2.1 dX10_word_219 (by decide) ?_
                                exact hc25 x1_167 x2_167 M hf H locs ls hI (lv_sub hl [0, 1, 2] rfl)
                              · have hf := (if_neg c_167_1).symm.trans hf
                                refine lv_aload_n C0.1 C0.2.1 dX10_word_174 rfl (lv_at hl 0 rfl) ?_
                                refine r_get (C := RX10) (T := TX10) (N9 := 20) (ci := 11) C0 C1 hI iX10 rfl 0 11 (Nat.le_of_ble_eq_true rfl) (by decide) ((fun _ => rfl) _) rfl rfl w_1702 dX10_word_175 ?_
                                refine lv_iload C0.1 C0.2.1 dX10_word_178 (lv_at hl 3 rfl) ?_
                                obtain ⟨h_167_2, hf⟩ := chk_some hf
                                refine r_iald C0 C1 hI 7 (Nat.le_of_ble_eq_true rfl) (fun _ => rfl) h_167_2 dX10_word_180 ?_
                                refine lv_iconst (v := 1) C0.1 C0.2.1 dX10_word_181 (by decide) ?_
                                refine lv_icmp_ne (tgt := 211) C0.1 C0.2.1 dX10_word_182 (by decide) (fun c_167_3 => ?_) (fun c_167_3 => ?_)
                                · have hf := (if_neg c_167_3).symm.trans hf
                                  refine lv_iload_n C0.1 C0.2.1 dX10_word_211 rfl (lv_at hl 2 rfl) ?_
                                  refine lv_istore_n (lv' := [(2, .int x2_167), (0, .ref (b 0)), (1, .int x1_167), (4, .int x4_167)]) C0.1 C0.2.1 dX10_word_212 rfl hl (by decide) rfl (fun ls hl => ?_)
                                  obtain ⟨x4_167_4, e_167_5⟩ : ∃ z : Int32, z = x4_167 + 1 := ⟨_, rfl⟩
                                  have hf := lt_at e_167_5 hf
                                  refine lv_iinc (v := x4_167_4) (lv' := [(4, .int x4_167_4), (2, .int x2_167), (0, .ref (b 0)), (1, .int x1_167)]) C0.1 C0.2.1 dX10_word_213 hl (k := 3) rfl (by rw [e_167_5]; rfl) (by decide) rfl (fun ls hl => ?_)
                                  refine lv_goto (tgt := 167) C0.1 C0.2.1 dX10_word_216 (by decide) ?_
                                  exact ih167 x1_167 x2_167 x4_167_4 M hf H locs ls hI (lv_sub hl [2, 3, 1, 0] rfl)
                                · have hf := (if_pos c_167_3).symm.trans hf
                                  refine lv_aload_n C0.1 C0.2.1 dX10_word_185 rfl (lv_at hl 0 rfl) ?_
                                  refine r_get (C := RX10) (T := TX10) (N9 := 20) (ci := 11) C0 C1 hI iX10 rfl 0 13 (Nat.le_of_ble_eq_true rfl) (by decide) ((fun _ => rfl) _) rfl rfl w_1704 dX10_word_186 ?_
                                  refine lv_iload C0.1 C0.2.1 dX10_word_189 (lv_at hl 3 rfl) ?_
                                  obtain ⟨h_167_6, hf⟩ := chk_some hf
                                  refine r_iald C0 C1 hI 9 (Nat.le_of_ble_eq_true rfl) (fun _ => rfl) h_167_6 dX10_word_191 ?_
                                  refine lv_iload_n C0.1 C0.2.1 dX10_word_192 rfl (lv_at hl 1 rfl) ?_
                                  refine lv_iadd C0.1 C0.2.1 dX10_word_193 ?_
                                  refine lv_aload_n C0.1 C0.2.1 dX10_word_194 rfl (lv_at hl 0 rfl) ?_
                                  refine r_get (C := RX10) (T := TX10) (N9 := 20) (ci := 11) C0 C1 hI iX10 rfl 0 13 (Nat.le_of_ble_eq_true rfl) (by decide) ((fun _ => rfl) _) rfl rfl w_1704 dX10_word_195 ?_
                                  refine lv_iload C0.1 C0.2.1 dX10_word_198 (lv_at hl 3 rfl) ?_
                                  refine lv_iconst (v := 1) C0.1 C0.2.1 dX10_word_200 (by decide) ?_
                                  refine lv_iadd C0.1 C0.2.1 dX10_word_201 ?_
                                  obtain ⟨h_167_7, hf⟩ := chk_some hf
                                  refine r_iald C0 C1 hI 9 (Nat.le_of_ble_eq_true rfl) (fun _ => rfl) h_167_7 dX10_word_202 ?_
                                  refine lv_icmp_ne (tgt := 211) C0.1 C0.2.1 dX10_word_203 (by decide) (fun c_167_8 => ?_) (fun c_167_8 => ?_)
                                  · have hf := (if_neg c_167_8).symm.trans hf
                                    refine lv_iload_n C0.1 C0.2.1 dX10_word_211 rfl (lv_at hl 2 rfl) ?_
                                    refine lv_istore_n (lv' := [(2, .int x2_167), (0, .ref (b 0)), (1, .int x1_167), (4, .int x4_167)]) C0.1 C0.2.1 dX10_word_212 rfl hl (by decide) rfl (fun ls hl => ?_)
                                    obtain ⟨x4_167_9, e_167_10⟩ : ∃ z : Int32, z = x4_167 + 1 := ⟨_, rfl⟩
                                    have hf := lt_at e_167_10 hf
                                    refine lv_iinc (v := x4_167_9) (lv' := [(4, .int x4_167_9), (2, .int x2_167), (0, .ref (b 0)), (1, .int x1_167)]) C0.1 C0.2.1 dX10_word_213 hl (k := 3) rfl (by rw [e_167_10]; rfl) (by decide) rfl (fun ls hl => ?_)
                                    refine lv_goto (tgt := 167) C0.1 C0.2.1 dX10_word_216 (by decide) ?_
                                    exact ih167 x1_167 x2_167 x4_167_9 M hf H locs ls hI (lv_sub hl [2, 3, 1, 0] rfl)
                                  · have hf := (if_pos c_167_8).symm.trans hf
                                    refine lv_iload C0.1 C0.2.1 dX10_word_206 (lv_at hl 3 rfl) ?_
                                    refine lv_goto (tgt := 212) C0.1 C0.2.1 dX10_word_208 (by decide) ?_
                                    refine lv_istore_n (lv' := [(2, .int x4_167), (0, .ref (b 0)), (1, .int x1_167), (4, .int x4_167)]) C0.1 C0.2.1 dX10_word_212 rfl hl (by decide) rfl (fun ls hl => ?_)
                                    obtain ⟨x4_167_11, e_167_12⟩ : ∃ z : Int32, z = x4_167 + 1 := ⟨_, rfl⟩
                                    have hf := lt_at e_167_12 hf
                                    refine lv_iinc (v := x4_167_11) (lv' := [(4, .int x4_167_11), (2, .int x4_167), (0, .ref (b 0)), (1, .int x1_167)]) C0.1 C0.2.1 dX10_word_213 hl (k := 3) rfl (by rw [e_167_12]; rfl) (by decide) rfl (fun ls hl => ?_)
                                    refine lv_goto (tgt := 167) C0.1 C0.2.1 dX10_word_216 (by decide) ?_
                                    exact ih167 x1_167 x4_167 x4_167_11 M hf H locs ls hI (lv_sub hl [2, 3, 1, 0] rfl)
                          exact L167 _ hc25 n x1_41_8 x2_41 0 M_41_6 hf H locs ls hI (lv_sub hl [2, 1, 3, 0] rfl)
                        · have hf := (if_neg c_41_5).symm.trans hf
                          refine lv_iconst (v := 1) C0.1 C0.2.1 dX10_word_152 (by decide) ?_
                          refine lv_goto (tgt := 157) C0.1 C0.2.1 dX10_word_153 (by decide) ?_
                          refine lv_iadd C0.1 C0.2.1 dX10_word_157 ?_
                          refine r_put (C := RX10) (T := TX10) (N9 := 20) (ci := 11) (fs := fM b) (ty := .int) C0 C1 hI iX10 tyX10 tyX10_ok nmX10 rfl 0 15 (Nat.le_of_ble_eq_true rfl) (by decide) (fun _ => rfl) rfl rfl rfl (by decide +kernel) ⟨rfl, rfl⟩ (Nat.le_of_ble_eq_true rfl) w_1706 dX10_word_158 (fun H locs hI => ?_)
                          obtain ⟨M_41_10, e_41_11⟩ : ∃ z : Mem, z = up2 M_41_3 0 15 ((M_41_3 0 15) + 1) := ⟨_, rfl⟩
                          rw [← e_41_11] at hI
                          have hf := lt_at e_41_11 hf
                          obtain ⟨x1_41_12, e_41_13⟩ : ∃ z : Int32, z = x1_41 + 1 := ⟨_, rfl⟩
                          have hf := lt_at e_41_13 hf
                          refine lv_iinc (v := x1_41_12) (lv' := [(1, .int x1_41_12), (0, .ref (b 0)), (2, .int x2_41), (3, .int x3_41), (4, .int x4_41)]) C0.1 C0.2.1 dX10_word_161 hl (k := 1) rfl (by rw [e_41_13]; rfl) (by decide) rfl (fun ls hl => ?_)
                          refine lv_iconst (v := 0) C0.1 C0.2.1 dX10_word_164 (by decide) ?_
                          refine lv_istore (lv' := [(4, .int 0), (1, .int x1_41_12), (0, .ref (b 0)), (2, .int x2_41), (3, .int x3_41)]) C0.1 C0.2.1 dX10_word_165 hl (by decide) rfl (fun ls hl => ?_)
                          have L167 : ∀ (c25 : Int32 → Int32 → Mem → Option (Int32 × Mem)) (hc25 : ∀ (z1 : Int32) (z2 : Int32) (M : Mem), c25 z1 z2 M = some (r0, M') → ∀ (H : Heap) (locs : List Loc) (ls : Array Slot), PI g X 10 (shM g b) b s M H locs → lv_has ls 5 [(0, .ref (b 0)), (1, .int z1), (2, .int z2)] → W p l e (rmD 1 0 0) s m ([.ref (b 0)] : List Value).toArray below meth c H locs 0 0 (MQ below (Qi g X 10 (shM g b) b s.heap.size r0 M') ([.ref (b 0)] : List Value).toArray s 0 0 (AA X b 10 s.heap.size)) (F0 m 25 ls [])) (k167 : Nat) (x1_167 : Int32) (x2_167 : Int32) (x4_167 : Int32) (M : Mem), F_X10_word_L167 n c25 k167 x1_167 x2_167 x4_167 M = some (r0, M') → ∀ (H : Heap) (locs : List Loc) (ls : Array Slot), PI g X 10 (shM g b) b s M H locs → lv_has ls 5 [(0, .ref (b 0)), (1, .int x1_167), (2, .int x2_167), (4, .int x4_167)] → W p l e (rmD 1 0 0) s m ([.ref (b 0)] : List Value).toArray below meth c H locs 0 0 (MQ below (Qi g X 10 (shM g b) b s.heap.size r0 M') ([.ref (b 0)] : List Value).toArray s 0 0 (AA X b 10 s.heap.size)) (F0 m 167 ls []) := by
                            intro c25 hc25 k167
                            induction k167 with
                            | zero => intro x1_167 x2_167 x4_167 M hf; exact absurd (show (none : Option (Int32 × Mem)) = some (r0, M') from hf) (fun h => by cases h)
                            | succ k167 ih167 =>
                              intro x1_167 x2_167 x4_167 M hf H locs ls hI hl
                              unfold F_X10_word_L167 at hf
                              refine lv_iload C0.1 C0.2.1 dX10_word_167 (lv_at hl 3 rfl) ?_
                              refine lv_bipush (v := 11) C0.1 C0.2.1 dX10_word_169 (by decide) ?_
                              refine lv_icmp_ge (tgt := 219) C0.1 C0.2.1 dX10_word_171 (by decide) (fun c_167_1 => ?_) (fun c_167_1 => ?_)
                              · have hf := (if_pos c_167_1).symm.trans hf
                                refine lv_goto (tgt := 25) C0.1 C0.2.1 dX10_word_219 (by decide) ?_
                                exact hc25 x1_167 x2_167 M hf H locs ls hI (lv_sub hl [0, 1, 2] rfl)
                              · have hf := (if_neg c_167_1).symm.trans hf
                                refine lv_aload_n C0.1 C0.2.1 dX10_word_174 rfl (lv_at hl 0 rfl) ?_
                                refine r_get (C := RX10) (T := TX10) (N9 := 20) (ci := 11) C0 C1 hI iX10 rfl 0 11 (Nat.le_of_ble_eq_true rfl) (by decide) ((fun _ => rfl) _) rfl rfl w_1702 dX10_word_175 ?_
                                refine lv_iload C0.1 C0.2.1 dX10_word_178 (lv_at hl 3 rfl) ?_
                                obtain ⟨h_167_2, hf⟩ := chk_some hf
                                refine r_iald C0 C1 hI 7 (Nat.le_of_ble_eq_true rfl) (fun _ => rfl) h_167_2 dX10_word_180 ?_
                                refine lv_iconst (v := 1) C0.1 C0.2.1 dX10_word_181 (by decide) ?_
                                refine lv_icmp_ne (tgt := 211) C0.1 C0.2.1 dX10_word_182 (by decide) (fun c_167_3 => ?_) (fun c_167_3 => ?_)
                                · have hf := (if_neg c_167_3).symm.trans hf
                                  refine lv_iload_n C0.1 C0.2.1 dX10_word_211 rfl (lv_at hl 2 rfl) ?_
                                  refine lv_istore_n (lv' := [(2, .int x2_167), (0, .ref (b 0)), (1, .int x1_167), (4, .int x4_167)]) C0.1 C0.2.1 dX10_word_212 rfl hl (by decide) rfl (fun ls hl => ?_)
                                  obtain ⟨x4_167_4, e_167_5⟩ : ∃ z : Int32, z = x4_167 + 1 := ⟨_, rfl⟩
                                  have hf := lt_at e_167_5 hf
                                  refine lv_iinc (v := x4_167_4) (lv' := [(4, .int x4_167_4), (2, .int x2_167), (0, .ref (b 0)), (1, .int x1_167)]) C0.1 C0.2.1 dX10_word_213 hl (k := 3) rfl (by rw [e_167_5]; rfl) (by decide) rfl (fun ls hl => ?_)
                                  refine lv_goto (tgt := 167) C0.1 C0.2.1 dX10_word_216 (by decide) ?_
                                  exact ih167 x1_167 x2_167 x4_167_4 M hf H locs ls hI (lv_sub hl [2, 3, 1, 0] rfl)
                                · have hf := (if_pos c_167_3).symm.trans hf
                                  refine lv_aload_n C0.1 C0.2.1 dX10_word_185 rfl (lv_at hl 0 rfl) ?_
                                  refine r_get (C := RX10) (T := TX10) (N9 := 20) (ci := 11) C0 C1 hI iX10 rfl 0 13 (Nat.le_of_ble_eq_true rfl) (by decide) ((fun _ => rfl) _) rfl rfl w_1704 dX10_word_186 ?_
                                  refine lv_iload C0.1 C0.2.1 dX10_word_189 (lv_at hl 3 rfl) ?_
                                  obtain ⟨h_167_6, hf⟩ := chk_some hf
                                  refine r_iald C0 C1 hI 9 (Nat.le_of_ble_eq_true rfl) (fun _ => rfl) h_167_6 dX10_word_191 ?_
                                  refine lv_iload_n C0.1 C0.2.1 dX10_word_192 rfl (lv_at hl 1 rfl) ?_
                                  refine lv_iadd C0.1 C0.2.1 dX10_word_193 ?_
                                  refine lv_aload_n C0.1 C0.2.1 dX10_word_194 rfl (lv_at hl 0 rfl) ?_
                                  refine r_get (C := RX10) (T := TX10) (N9 := 20) (ci := 11) C0 C1 hI iX10 rfl 0 13 (Nat.le_of_ble_eq_true rfl) (by decide) ((fun _ => rfl) _) rfl rfl w_1704 dX10_word_195 ?_
                                  refine lv_iload C0.1 C0.2.1 dX10_word_198 (lv_at hl 3 rfl) ?_
                                  refine lv_iconst (v := 1) C0.1 C0.2.1 dX10_word_200 (by decide) ?_
                                  refine lv_iadd C0.1 C0.2.1 dX10_word_201 ?_
                                  obtain ⟨h_167_7, hf⟩ := chk_some hf
                                  refine r_iald C0 C1 hI 9 (Nat.le_of_ble_eq_true rfl) (fun _ => rfl) h_167_7 dX10_word_202 ?_
                                  refine lv_icmp_ne (tgt := 211) C0.1 C0.2.1 dX10_word_203 (by decide) (fun c_167_8 => ?_) (fun c_167_8 => ?_)
                                  · have hf := (if_neg c_167_8).symm.trans hf
                                    refine lv_iload_n C0.1 C0.2.1 dX10_word_211 rfl (lv_at hl 2 rfl) ?_
                                    refine lv_istore_n (lv' := [(2, .int x2_167), (0, .ref (b 0)), (1, .int x1_167), (4, .int x4_167)]) C0.1 C0.2.1 dX10_word_212 rfl hl (by decide) rfl (fun ls hl => ?_)
                                    obtain ⟨x4_167_9, e_167_10⟩ : ∃ z : Int32, z = x4_167 + 1 := ⟨_, rfl⟩
                                    have hf := lt_at e_167_10 hf
                                    refine lv_iinc (v := x4_167_9) (lv' := [(4, .int x4_167_9), (2, .int x2_167), (0, .ref (b 0)), (1, .int x1_167)]) C0.1 C0.2.1 dX10_word_213 hl (k := 3) rfl (by rw [e_167_10]; rfl) (by decide) rfl (fun ls hl => ?_)
                                    refine lv_goto (tgt := 167) C0.1 C0.2.1 dX10_word_216 (by decide) ?_
                                    exact ih167 x1_167 x2_167 x4_167_9 M hf H locs ls hI (lv_sub hl [2, 3, 1, 0] rfl)
                                  · have hf := (if_pos c_167_8).symm.trans hf
                                    refine lv_iload C0.1 C0.2.1 dX10_word_206 (lv_at hl 3 rfl) ?_
                                    refine lv_goto (tgt := 212) C0.1 C0.2.1 dX10_word_208 (by decide) ?_
                                    refine lv_istore_n (lv' := [(2, .int x4_167), (0, .ref (b 0)), (1, .int x1_167), (4, .int x4_167)]) C0.1 C0.2.1 dX10_word_212 rfl hl (by decide) rfl (fun ls hl => ?_)
                                    obtain ⟨x4_167_11, e_167_12⟩ : ∃ z : Int32, z = x4_167 + 1 := ⟨_, rfl⟩
                                    have hf := lt_at e_167_12 hf
                                    refine lv_iinc (v := x4_167_11) (lv' := [(4, .int x4_167_11), (2, .int x4_167), (0, .ref (b 0)), (1, .int x1_167)]) C0.1 C0.2.1 dX10_word_213 hl (k := 3) rfl (by rw [e_167_12]; rfl) (by decide) rfl (fun ls hl => ?_)
                                    refine lv_goto (tgt := 167) C0.1 C0.2.1 dX10_word_216 (by decide) ?_
                                    exact ih167 x1_167 x4_167 x4_167_11 M hf H locs ls hI (lv_sub hl [2, 3, 1, 0] rfl)
                          exact L167 _ hc25 n x1_41_12 x2_41 0 M_41_10 hf H locs ls hI (lv_sub hl [2, 1, 3, 0] rfl)
                      · have hf := (if_pos c_41_2).symm.trans hf
                        refine lv_iconst (v := 1) C0.1 C0.2.1 dX10_word_135 (by decide) ?_
                        refine lv_goto (tgt := 140) C0.1 C0.2.1 dX10_word_136 (by decide) ?_
                        refine r_put (C := RX10) (T := TX10) (N9 := 20) (ci := 11) (fs := fM b) (ty := .boolean) C0 C1 hI iX10 tyX10 tyX10_ok nmX10 rfl 0 18 (Nat.le_of_ble_eq_true rfl) (by decide) (fun _ => rfl) rfl rfl rfl (by decide +kernel) ⟨rfl, rfl⟩ (Nat.le_of_ble_eq_true rfl) w_1709 dX10_word_140 (fun H locs hI => ?_)
                        obtain ⟨M_41_14, e_41_15⟩ : ∃ z : Mem, z = up2 M 0 18 1 := ⟨_, rfl⟩
                        rw [← e_41_15] at hI
                        have hf := lt_at e_41_15 hf
                        refine lv_aload_n C0.1 C0.2.1 dX10_word_143 rfl (lv_at hl 0 rfl) ?_
                        refine lv_dup C0.1 C0.2.1 dX10_word_144 rfl ?_
                        refine r_get (C := RX10) (T := TX10) (N9 := 20) (ci := 11) C0 C1 hI iX10 rfl 0 15 (Nat.le_of_ble_eq_true rfl) (by decide) ((fun _ => rfl) _) rfl rfl w_1706 dX10_word_145 ?_
                        refine lv_iload_n C0.1 C0.2.1 dX10_word_148 rfl (lv_at hl 3 rfl) ?_
                        refine lv_if_eq (tgt := 156) C0.1 C0.2.1 dX10_word_149 (by decide) (fun c_41_16 => ?_) (fun c_41_16 => ?_)
                        · have hf := (if_pos c_41_16).symm.trans hf
                          refine lv_iconst (v := 0) C0.1 C0.2.1 dX10_word_156 (by decide) ?_
                          refine lv_iadd C0.1 C0.2.1 dX10_word_157 ?_
                          refine r_put (C := RX10) (T := TX10) (N9 := 20) (ci := 11) (fs := fM b) (ty := .int) C0 C1 hI iX10 tyX10 tyX10_ok nmX10 rfl 0 15 (Nat.le_of_ble_eq_true rfl) (by decide) (fun _ => rfl) rfl rfl rfl (by decide +kernel) ⟨rfl, rfl⟩ (Nat.le_of_ble_eq_true rfl) w_1706 dX10_word_158 (fun H locs hI => ?_)
                          obtain ⟨M_41_17, e_41_18⟩ : ∃ z : Mem, z = up2 M_41_14 0 15 ((M_41_14 0 15) + 0) := ⟨_, rfl⟩
                          rw [← e_41_18] at hI
                          have hf := lt_at e_41_18 hf
                          obtain ⟨x1_41_19, e_41_20⟩ : ∃ z : Int32, z = x1_41 + 1 := ⟨_, rfl⟩
                          have hf := lt_at e_41_20 hf
                          refine lv_iinc (v := x1_41_19) (lv' := [(1, .int x1_41_19), (0, .ref (b 0)), (2, .int x2_41), (3, .int x3_41), (4, .int x4_41)]) C0.1 C0.2.1 dX10_word_161 hl (k := 1) rfl (by rw [e_41_20]; rfl) (by decide) rfl (fun ls hl => ?_)
                          refine lv_iconst (v := 0) C0.1 C0.2.1 dX10_word_164 (by decide) ?_
                          refine lv_istore (lv' := [(4, .int 0), (1, .int x1_41_19), (0, .ref (b 0)), (2, .int x2_41), (3, .int x3_41)]) C0.1 C0.2.1 dX10_word_165 hl (by decide) rfl (fun ls hl => ?_)
                          have L167 : ∀ (c25 : Int32 → Int32 → Mem → Option (Int32 × Mem)) (hc25 : ∀ (z1 : Int32) (z2 : Int32) (M : Mem), c25 z1 z2 M = some (r0, M') → ∀ (H : Heap) (locs : List Loc) (ls : Array Slot), PI g X 10 (shM g b) b s M H locs → lv_has ls 5 [(0, .ref (b 0)), (1, .int z1), (2, .int z2)] → W p l e (rmD 1 0 0) s m ([.ref (b 0)] : List Value).toArray below meth c H locs 0 0 (MQ below (Qi g X 10 (shM g b) b s.heap.size r0 M') ([.ref (b 0)] : List Value).toArray s 0 0 (AA X b 10 s.heap.size)) (F0 m 25 ls [])) (k167 : Nat) (x1_167 : Int32) (x2_167 : Int32) (x4_167 : Int32) (M : Mem), F_X10_word_L167 n c25 k167 x1_167 x2_167 x4_167 M = some (r0, M') → ∀ (H : Heap) (locs : List Loc) (ls : Array Slot), PI g X 10 (shM g b) b s M H locs → lv_has ls 5 [(0, .ref (b 0)), (1, .int x1_167), (2, .int x2_167), (4, .int x4_167)] → W p l e (rmD 1 0 0) s m ([.ref (b 0)] : List Value).toArray below meth c H locs 0 0 (MQ below (Qi g X 10 (shM g b) b s.heap.size r0 M') ([.ref (b 0)] : List Value).toArray s 0 0 (AA X b 10 s.heap.size)) (F0 m 167 ls []) := by
                            intro c25 hc25 k167
                            induction k167 with
                            | zero => intro x1_167 x2_167 x4_167 M hf; exact absurd (show (none : Option (Int32 × Mem)) = some (r0, M') from hf) (fun h => by cases h)
                            | succ k167 ih167 =>
                              intro x1_167 x2_167 x4_167 M hf H locs ls hI hl
                              unfold F_X10_word_L167 at hf
                              refine lv_iload C0.1 C0.2.1 dX10_word_167 (lv_at hl 3 rfl) ?_
                              refine lv_bipush (v := 11) C0.1 C0.2.1 dX10_word_169 (by decide) ?_
                              refine lv_icmp_ge (tgt := 219) C0.1 C0.2.1 dX10_word_171 (by decide) (fun c_167_1 => ?_) (fun c_167_1 => ?_)
                              · have hf := (if_pos c_167_1).symm.trans hf
                                refine lv_goto (tgt := 25) C0.1 C0.2.1 dX10_word_219 (by decide) ?_
                                exact hc25 x1_167 x2_167 M hf H locs ls hI (lv_sub hl [0, 1, 2] rfl)
                              · have hf := (if_neg c_167_1).symm.trans hf
                                refine lv_aload_n C0.1 C0.2.1 dX10_word_174 rfl (lv_at hl 0 rfl) ?_
                                refine r_get (C := RX10) (T := TX10) (N9 := 20) (ci := 11) C0 C1 hI iX10 rfl 0 11 (Nat.le_of_ble_eq_true rfl) (by decide) ((fun _ => rfl) _) rfl rfl w_1702 dX10_word_175 ?_
                                refine lv_iload C0.1 C0.2.1 dX10_word_178 (lv_at hl 3 rfl) ?_
                                obtain ⟨h_167_2, hf⟩ := chk_some hf
                                refine r_iald C0 C1 hI 7 (Nat.le_of_ble_eq_true rfl) (fun _ => rfl) h_167_2 dX10_word_180 ?_
                                refine lv_iconst (v := 1) C0.1 C0.2.1 dX10_word_181 (by decide) ?_
                                refine lv_icmp_ne (tgt := 211) C0.1 C0.2.1 dX10_word_182 (by decide) (fun c_167_3 => ?_) (fun c_167_3 => ?_)
                                · have hf := (if_neg c_167_3).symm.trans hf
                                  refine lv_iload_n C0.1 C0.2.1 dX10_word_211 rfl (lv_at hl 2 rfl) ?_
                                  refine lv_istore_n (lv' := [(2, .int x2_167), (0, .ref (b 0)), (1, .int x1_167), (4, .int x4_167)]) C0.1 C0.2.1 dX10_word_212 rfl hl (by decide) rfl (fun ls hl => ?_)
                                  obtain ⟨x4_167_4, e_167_5⟩ : ∃ z : Int32, z = x4_167 + 1 := ⟨_, rfl⟩
                                  have hf := lt_at e_167_5 hf
                                  refine lv_iinc (v := x4_167_4) (lv' := [(4, .int x4_167_4), (2, .int x2_167), (0, .ref (b 0)), (1, .int x1_167)]) C0.1 C0.2.1 dX10_word_213 hl (k := 3) rfl (by rw [e_167_5]; rfl) (by decide) rfl (fun ls hl => ?_)
                                  refine lv_goto (tgt := 167) C0.1 C0.2.1 dX10_word_216 (by decide) ?_
                                  exact ih167 x1_167 x2_167 x4_167_4 M hf H locs ls hI (lv_sub hl [2, 3, 1, 0] rfl)
                                · have hf := (if_pos c_167_3).symm.trans hf
                                  refine lv_aload_n C0.1 C0.2.1 dX10_word_185 rfl (lv_at hl 0 rfl) ?_
                                  refine r_get (C := RX10) (T := TX10) (N9 := 20) (ci := 11) C0 C1 hI iX10 rfl 0 13 (Nat.le_of_ble_eq_true rfl) (by decide) ((fun _ => rfl) _) rfl rfl w_1704 dX10_word_186 ?_
                                  refine lv_iload C0.1 C0.2.1 dX10_word_189 (lv_at hl 3 rfl) ?_
                                  obtain ⟨h_167_6, hf⟩ := chk_some hf
                                  refine r_iald C0 C1 hI 9 (Nat.le_of_ble_eq_true rfl) (fun _ => rfl) h_167_6 dX10_word_191 ?_
                                  refine lv_iload_n C0.1 C0.2.1 dX10_word_192 rfl (lv_at hl 1 rfl) ?_
                                  refine lv_iadd C0.1 C0.2.1 dX10_word_193 ?_
                                  refine lv_aload_n C0.1 C0.2.1 dX10_word_194 rfl (lv_at hl 0 rfl) ?_
                                  refine r_get (C := RX10) (T := TX10) (N9 := 20) (ci := 11) C0 C1 hI iX10 rfl 0 13 (Nat.le_of_ble_eq_true rfl) (by decide) ((fun _ => rfl) _) rfl rfl w_1704 dX10_word_195 ?_
                                  refine lv_iload C0.1 C0.2.1 dX10_word_198 (lv_at hl 3 rfl) ?_
                                  refine lv_iconst (v := 1) C0.1 C0.2.1 dX10_word_200 (by decide) ?_
                                  refine lv_iadd C0.1 C0.2.1 dX10_word_201 ?_
                                  obtain ⟨h_167_7, hf⟩ := chk_some hf
                                  refine r_iald C0 C1 hI 9 (Nat.le_of_ble_eq_true rfl) (fun _ => rfl) h_167_7 dX10_word_202 ?_
                                  refine lv_icmp_ne (tgt := 211) C0.1 C0.2.1 dX10_word_203 (by decide) (fun c_167_8 => ?_) (fun c_167_8 => ?_)
                                  · have hf := (if_neg c_167_8).symm.trans hf
                                    refine lv_iload_n C0.1 C0.2.1 dX10_word_211 rfl (lv_at hl 2 rfl) ?_
                                    refine lv_istore_n (lv' := [(2, .int x2_167), (0, .ref (b 0)), (1, .int x1_167), (4, .int x4_167)]) C0.1 C0.2.1 dX10_word_212 rfl hl (by decide) rfl (fun ls hl => ?_)
                                    obtain ⟨x4_167_9, e_167_10⟩ : ∃ z : Int32, z = x4_167 + 1 := ⟨_, rfl⟩
                                    have hf := lt_at e_167_10 hf
                                    refine lv_iinc (v := x4_167_9) (lv' := [(4, .int x4_167_9), (2, .int x2_167), (0, .ref (b 0)), (1, .int x1_167)]) C0.1 C0.2.1 dX10_word_213 hl (k := 3) rfl (by rw [e_167_10]; rfl) (by decide) rfl (fun ls hl => ?_)
                                    refine lv_goto (tgt := 167) C0.1 C0.2.1 dX10_word_216 (by decide) ?_
                                    exact ih167 x1_167 x2_167 x4_167_9 M hf H locs ls hI (lv_sub hl [2, 3, 1, 0] rfl)
                                  · have hf := (if_pos c_167_8).symm.trans hf
                                    refine lv_iload C0.1 C0.2.1 dX10_word_206 (lv_at hl 3 rfl) ?_
                                    refine lv_goto (tgt := 212) C0.1 C0.2.1 dX10_word_208 (by decide) ?_
                                    refine lv_istore_n (lv' := [(2, .int x4_167), (0, .ref (b 0)), (1, .int x1_167), (4, .int x4_167)]) C0.1 C0.2.1 dX10_word_212 rfl hl (by decide) rfl (fun ls hl => ?_)
                                    obtain ⟨x4_167_11, e_167_12⟩ : ∃ z : Int32, z = x4_167 + 1 := ⟨_, rfl⟩
                                    have hf := lt_at e_167_12 hf
                                    refine lv_iinc (v := x4_167_11) (lv' := [(4, .int x4_167_11), (2, .int x4_167), (0, .ref (b 0)), (1, .int x1_167)]) C0.1 C0.2.1 dX10_word_213 hl (k := 3) rfl (by rw [e_167_12]; rfl) (by decide) rfl (fun ls hl => ?_)
                                    refine lv_goto (tgt := 167) C0.1 C0.2.1 dX10_word_216 (by decide) ?_
                                    exact ih167 x1_167 x4_167 x4_167_11 M hf H locs ls hI (lv_sub hl [2, 3, 1, 0] rfl)
                          exact L167 _ hc25 n x1_41_19 x2_41 0 M_41_17 hf H locs ls hI (lv_sub hl [2, 1, 3, 0] rfl)
                        · have hf := (if_neg c_41_16).symm.trans hf
                          refine lv_iconst (v := 1) C0.1 C0.2.1 dX10_word_152 (by decide) ?_
                          refine lv_goto (tgt := 157) C0.1 C0.2.1 dX10_word_153 (by decide) ?_
                          refine lv_iadd C0.1 C0.2.1 dX10_word_157 ?_
                          refine r_put (C := RX10) (T := TX10) (N9 := 20) (ci := 11) (fs := fM b) (ty := .int) C0 C1 hI iX10 tyX10 tyX10_ok nmX10 rfl 0 15 (Nat.le_of_ble_eq_true rfl) (by decide) (fun _ => rfl) rfl rfl rfl (by decide +kernel) ⟨rfl, rfl⟩ (Nat.le_of_ble_eq_true rfl) w_1706 dX10_word_158 (fun H locs hI => ?_)
                          obtain ⟨M_41_21, e_41_22⟩ : ∃ z : Mem, z = up2 M_41_14 0 15 ((M_41_14 0 15) + 1) := ⟨_, rfl⟩
                          rw [← e_41_22] at hI
                          have hf := lt_at e_41_22 hf
                          obtain ⟨x1_41_23, e_41_24⟩ : ∃ z : Int32, z = x1_41 + 1 := ⟨_, rfl⟩
                          have hf := lt_at e_41_24 hf
                          refine lv_iinc (v := x1_41_23) (lv' := [(1, .int x1_41_23), (0, .ref (b 0)), (2, .int x2_41), (3, .int x3_41), (4, .int x4_41)]) C0.1 C0.2.1 dX10_word_161 hl (k := 1) rfl (by rw [e_41_24]; rfl) (by decide) rfl (fun ls hl => ?_)
                          refine lv_iconst (v := 0) C0.1 C0.2.1 dX10_word_164 (by decide) ?_
                          refine lv_istore (lv' := [(4, .int 0), (1, .int x1_41_23), (0, .ref (b 0)), (2, .int x2_41), (3, .int x3_41)]) C0.1 C0.2.1 dX10_word_165 hl (by decide) rfl (fun ls hl => ?_)
                          have L167 : ∀ (c25 : Int32 → Int32 → Mem → Option (Int32 × Mem)) (hc25 : ∀ (z1 : Int32) (z2 : Int32) (M : Mem), c25 z1 z2 M = some (r0, M') → ∀ (H : Heap) (locs : List Loc) (ls : Array Slot), PI g X 10 (shM g b) b s M H locs → lv_has ls 5 [(0, .ref (b 0)), (1, .int z1), (2, .int z2)] → W p l e (rmD 1 0 0) s m ([.ref (b 0)] : List Value).toArray below meth c H locs 0 0 (MQ below (Qi g X 10 (shM g b) b s.heap.size r0 M') ([.ref (b 0)] : List Value).toArray s 0 0 (AA X b 10 s.heap.size)) (F0 m 25 ls [])) (k167 : Nat) (x1_167 : Int32) (x2_167 : Int32) (x4_167 : Int32) (M : Mem), F_X10_word_L167 n c25 k167 x1_167 x2_167 x4_167 M = some (r0, M') → ∀ (H : Heap) (locs : List Loc) (ls : Array Slot), PI g X 10 (shM g b) b s M H locs → lv_has ls 5 [(0, .ref (b 0)), (1, .int x1_167), (2, .int x2_167), (4, .int x4_167)] → W p l e (rmD 1 0 0) s m ([.ref (b 0)] : List Value).toArray below meth c H locs 0 0 (MQ below (Qi g X 10 (shM g b) b s.heap.size r0 M') ([.ref (b 0)] : List Value).toArray s 0 0 (AA X b 10 s.heap.size)) (F0 m 167 ls []) := by
                            intro c25 hc25 k167
                            induction k167 with
                            | zero => intro x1_167 x2_167 x4_167 M hf; exact absurd (show (none : Option (Int32 × Mem)) = some (r0, M') from hf) (fun h => by cases h)
                            | succ k167 ih167 =>
                              intro x1_167 x2_167 x4_167 M hf H locs ls hI hl
                              unfold F_X10_word_L167 at hf
                              refine lv_iload C0.1 C0.2.1 dX10_word_167 (lv_at hl 3 rfl) ?_
                              refine lv_bipush (v := 11) C0.1 C0.2.1 dX10_word_169 (by decide) ?_
                              refine lv_icmp_ge (tgt := 219) C0.1 C0.2.1 dX10_word_171 (by decide) (fun c_167_1 => ?_) (fun c_167_1 => ?_)
                              · have hf := (if_pos c_167_1).symm.trans hf
                                refine lv_goto (tgt := 25) C0.1 C0.2.1 dX10_word_219 (by decide) ?_
                                exact hc25 x1_167 x2_167 M hf H locs ls hI (lv_sub hl [0, 1, 2] rfl)
                              · have hf := (if_neg c_167_1).symm.trans hf
                                refine lv_aload_n C0.1 C0.2.1 dX10_word_174 rfl (lv_at hl 0 rfl) ?_
                                refine r_get (C := RX10) (T := TX10) (N9 := 20) (ci := 11) C0 C1 hI iX10 rfl 0 11 (Nat.le_of_ble_eq_true rfl) (by decide) ((fun _ => rfl) _) rfl rfl w_1702 dX10_word_175 ?_
                                refine lv_iload C0.1 C0.2.1 dX10_word_178 (lv_at hl 3 rfl) ?_
                                obtain ⟨h_167_2, hf⟩ := chk_some hf
                                refine r_iald C0 C1 hI 7 (Nat.le_of_ble_eq_true rfl) (fun _ => rfl) h_167_2 dX10_word_180 ?_
                                refine lv_iconst (v := 1) C0.1 C0.2.1 dX10_word_181 (by decide) ?_
                                refine lv_icmp_ne (tgt := 211) C0.1 C0.2.1 dX10_word_182 (by decide) (fun c_167_3 => ?_) (fun c_167_3 => ?_)
                                · have hf := (if_neg c_167_3).symm.trans hf
                                  refine lv_iload_n C0.1 C0.2.1 dX10_word_211 rfl (lv_at hl 2 rfl) ?_
                                  refine lv_istore_n (lv' := [(2, .int x2_167), (0, .ref (b 0)), (1, .int x1_167), (4, .int x4_167)]) C0.1 C0.2.1 dX10_word_212 rfl hl (by decide) rfl (fun ls hl => ?_)
                                  obtain ⟨x4_167_4, e_167_5⟩ : ∃ z : Int32, z = x4_167 + 1 := ⟨_, rfl⟩
                                  have hf := lt_at e_167_5 hf
                                  refine lv_iinc (v := x4_167_4) (lv' := [(4, .int x4_167_4), (2, .int x2_167), (0, .ref (b 0)), (1, .int x1_167)]) C0.1 C0.2.1 dX10_word_213 hl (k := 3) rfl (by rw [e_167_5]; rfl) (by decide) rfl (fun ls hl => ?_)
                                  refine lv_goto (tgt := 167) C0.1 C0.2.1 dX10_word_216 (by decide) ?_
                                  exact ih167 x1_167 x2_167 x4_167_4 M hf H locs ls hI (lv_sub hl [2, 3, 1, 0] rfl)
                                · have hf := (if_pos c_167_3).symm.trans hf
                                  refine lv_aload_n C0.1 C0.2.1 dX10_word_185 rfl (lv_at hl 0 rfl) ?_
                                  refine r_get (C := RX10) (T := TX10) (N9 := 20) (ci := 11) C0 C1 hI iX10 rfl 0 13 (Nat.le_of_ble_eq_true rfl) (by decide) ((fun _ => rfl) _) rfl rfl w_1704 dX10_word_186 ?_
                                  refine lv_iload C0.1 C0.2.1 dX10_word_189 (lv_at hl 3 rfl) ?_
                                  obtain ⟨h_167_6, hf⟩ := chk_some hf
                                  refine r_iald C0 C1 hI 9 (Nat.le_of_ble_eq_true rfl) (fun _ => rfl) h_167_6 dX10_word_191 ?_
                                  refine lv_iload_n C0.1 C0.2.1 dX10_word_192 rfl (lv_at hl 1 rfl) ?_
                                  refine lv_iadd C0.1 C0.2.1 dX10_word_193 ?_
                                  refine lv_aload_n C0.1 C0.2.1 dX10_word_194 rfl (lv_at hl 0 rfl) ?_
                                  refine r_get (C := RX10) (T := TX10) (N9 := 20) (ci := 11) C0 C1 hI iX10 rfl 0 13 (Nat.le_of_ble_eq_true rfl) (by decide) ((fun _ => rfl) _) rfl rfl w_1704 dX10_word_195 ?_
                                  refine lv_iload C0.1 C0.2.1 dX10_word_198 (lv_at hl 3 rfl) ?_
                                  refine lv_iconst (v := 1) C0.1 C0.2.1 dX10_word_200 (by decide) ?_
                                  refine lv_iadd C0.1 C0.2.1 dX10_word_201 ?_
                                  obtain ⟨h_167_7, hf⟩ := chk_some hf
                                  refine r_iald C0 C1 hI 9 (Nat.le_of_ble_eq_true rfl) (fun _ => rfl) h_167_7 dX10_word_202 ?_
                                  refine lv_icmp_ne (tgt := 211) C0.1 C0.2.1 dX10_word_203 (by decide) (fun c_167_8 => ?_) (fun c_167_8 => ?_)
                                  · have hf := (if_neg c_167_8).symm.trans hf
                                    refine lv_iload_n C0.1 C0.2.1 dX10_word_211 rfl (lv_at hl 2 rfl) ?_
                                    refine lv_istore_n (lv' := [(2, .int x2_167), (0, .ref (b 0)), (1, .int x1_167), (4, .int x4_167)]) C0.1 C0.2.1 dX10_word_212 rfl hl (by decide) rfl (fun ls hl => ?_)
                                    obtain ⟨x4_167_9, e_167_10⟩ : ∃ z : Int32, z = x4_167 + 1 := ⟨_, rfl⟩
                                    have hf := lt_at e_167_10 hf
                                    refine lv_iinc (v := x4_167_9) (lv' := [(4, .int x4_167_9), (2, .int x2_167), (0, .ref (b 0)), (1, .int x1_167)]) C0.1 C0.2.1 dX10_word_213 hl (k := 3) rfl (by rw [e_167_10]; rfl) (by decide) rfl (fun ls hl => ?_)
                                    refine lv_goto (tgt := 167) C0.1 C0.2.1 dX10_word_216 (by decide) ?_
                                    exact ih167 x1_167 x2_167 x4_167_9 M hf H locs ls hI (lv_sub hl [2, 3, 1, 0] rfl)
                                  · have hf := (if_pos c_167_8).symm.trans hf
                                    refine lv_iload C0.1 C0.2.1 dX10_word_206 (lv_at hl 3 rfl) ?_
                                    refine lv_goto (tgt := 212) C0.1 C0.2.1 dX10_word_208 (by decide) ?_
                                    refine lv_istore_n (lv' := [(2, .int x4_167), (0, .ref (b 0)), (1, .int x1_167), (4, .int x4_167)]) C0.1 C0.2.1 dX10_word_212 rfl hl (by decide) rfl (fun ls hl => ?_)
                                    obtain ⟨x4_167_11, e_167_12⟩ : ∃ z : Int32, z = x4_167 + 1 := ⟨_, rfl⟩
                                    have hf := lt_at e_167_12 hf
                                    refine lv_iinc (v := x4_167_11) (lv' := [(4, .int x4_167_11), (2, .int x4_167), (0, .ref (b 0)), (1, .int x1_167)]) C0.1 C0.2.1 dX10_word_213 hl (k := 3) rfl (by rw [e_167_12]; rfl) (by decide) rfl (fun ls hl => ?_)
                                    refine lv_goto (tgt := 167) C0.1 C0.2.1 dX10_word_216 (by decide) ?_
                                    exact ih167 x1_167 x4_167 x4_167_11 M hf H locs ls hI (lv_sub hl [2, 3, 1, 0] rfl)
                          exact L167 _ hc25 n x1_41_23 x2_41 0 M_41_21 hf H locs ls hI (lv_sub hl [2, 1, 3, 0] rfl)
                    · have hf := (if_neg c_41_1).symm.trans hf
                      refine lv_aload_n C0.1 C0.2.1 dX10_word_48 rfl (lv_at hl 0 rfl) ?_
                      refine r_get (C := RX10) (T := TX10) (N9 := 20) (ci := 11) C0 C1 hI iX10 rfl 0 11 (Nat.le_of_ble_eq_true rfl) (by decide) ((fun _ => rfl) _) rfl rfl w_1702 dX10_word_49 ?_
                      refine lv_iload C0.1 C0.2.1 dX10_word_52 (lv_at hl 4 rfl) ?_
                      refine lv_dup2_11 C0.1 C0.2.1 dX10_word_54 rfl rfl ?_
                      obtain ⟨h_41_25, hf⟩ := chk_some hf
                      refine r_iald C0 C1 hI 7 (Nat.le_of_ble_eq_true rfl) (fun _ => rfl) h_41_25 dX10_word_55 ?_
                      refine lv_aload_n C0.1 C0.2.1 dX10_word_56 rfl (lv_at hl 0 rfl) ?_
                      refine r_get (C := RX10) (T := TX10) (N9 := 20) (ci := 11) C0 C1 hI iX10 rfl 0 13 (Nat.le_of_ble_eq_true rfl) (by decide) ((fun _ => rfl) _) rfl rfl w_1704 dX10_word_57 ?_
                      refine lv_iload C0.1 C0.2.1 dX10_word_60 (lv_at hl 4 rfl) ?_
                      obtain ⟨h_41_26, hf⟩ := chk_some hf
                      refine r_iald C0 C1 hI 9 (Nat.le_of_ble_eq_true rfl) (fun _ => rfl) h_41_26 dX10_word_62 ?_
                      refine lv_iload_n C0.1 C0.2.1 dX10_word_63 rfl (lv_at hl 1 rfl) ?_
                      refine lv_iadd C0.1 C0.2.1 dX10_word_64 ?_
                      refine lv_aload_n C0.1 C0.2.1 dX10_word_65 rfl (lv_at hl 0 rfl) ?_
                      refine r_get (C := RX10) (T := TX10) (N9 := 20) (ci := 11) C0 C1 hI iX10 rfl 0 13 (Nat.le_of_ble_eq_true rfl) (by decide) ((fun _ => rfl) _) rfl rfl w_1704 dX10_word_66 ?_
                      refine lv_iload C0.1 C0.2.1 dX10_word_69 (lv_at hl 4 rfl) ?_
                      refine lv_iconst (v := 1) C0.1 C0.2.1 dX10_word_71 (by decide) ?_
                      refine lv_iadd C0.1 C0.2.1 dX10_word_72 ?_
                      obtain ⟨h_41_27, hf⟩ := chk_some hf
                      refine r_iald C0 C1 hI 9 (Nat.le_of_ble_eq_true rfl) (fun _ => rfl) h_41_27 dX10_word_73 ?_
                      refine lv_icmp_ge (tgt := 102) C0.1 C0.2.1 dX10_word_74 (by decide) (fun c_41_28 => ?_) (fun c_41_28 => ?_)
                      · have hf := (if_pos c_41_28).symm.trans hf
                        refine lv_iconst (v := 0) C0.1 C0.2.1 dX10_word_102 (by decide) ?_
                        refine lv_iand C0.1 C0.2.1 dX10_word_103 ?_
                        obtain ⟨h_41_29, hf⟩ := chk_some hf
                        refine r_iast C0 C1 hI 7 (Nat.le_of_ble_eq_true rfl) (fun _ => rfl) h_41_29 dX10_word_104 (fun H locs hI => ?_)
                        obtain ⟨M_41_32, e_41_33⟩ : ∃ z : Mem, z = up2 M 7 (ix x4_41) ((M 7 (ix x4_41)) &&& 0) := ⟨_, rfl⟩
                        rw [← e_41_33] at hI
                        have hf := lt_at e_41_33 hf
                        refine lv_iload_n C0.1 C0.2.1 dX10_word_105 rfl (lv_at hl 3 rfl) ?_
                        refine lv_aload_n C0.1 C0.2.1 dX10_word_106 rfl (lv_at hl 0 rfl) ?_
                        refine r_get (C := RX10) (T := TX10) (N9 := 20) (ci := 11) C0 C1 hI iX10 rfl 0 11 (Nat.le_of_ble_eq_true rfl) (by decide) ((fun _ => rfl) _) rfl rfl w_1702 dX10_word_107 ?_
                        refine lv_iload C0.1 C0.2.1 dX10_word_110 (lv_at hl 4 rfl) ?_
                        obtain ⟨h_41_34, hf⟩ := chk_some hf
                        refine r_iald C0 C1 hI 7 (Nat.le_of_ble_eq_true rfl) (fun _ => rfl) h_41_34 dX10_word_112 ?_
                        refine lv_iconst (v := 1) C0.1 C0.2.1 dX10_word_113 (by decide) ?_
                        refine lv_icmp_ne (tgt := 121) C0.1 C0.2.1 dX10_word_114 (by decide) (fun c_41_35 => ?_) (fun c_41_35 => ?_)
                        · have hf := (if_neg c_41_35).symm.trans hf
                          refine lv_iconst (v := 0) C0.1 C0.2.1 dX10_word_121 (by decide) ?_
                          refine lv_ior C0.1 C0.2.1 dX10_word_122 ?_
                          refine lv_topi (fun x3_41_36 e_41_37 => ?_)
                          have hf := lt_at e_41_37 hf
                          refine lv_istore_n (lv' := [(3, .int x3_41_36), (0, .ref (b 0)), (1, .int x1_41), (2, .int x2_41), (4, .int x4_41)]) C0.1 C0.2.1 dX10_word_123 rfl hl (by decide) rfl (fun ls hl => ?_)
                          obtain ⟨x4_41_38, e_41_39⟩ : ∃ z : Int32, z = x4_41 + 1 := ⟨_, rfl⟩
                          have hf := lt_at e_41_39 hf
                          refine lv_iinc (v := x4_41_38) (lv' := [(4, .int x4_41_38), (3, .int x3_41_36), (0, .ref (b 0)), (1, .int x1_41), (2, .int x2_41)]) C0.1 C0.2.1 dX10_word_124 hl (k := 4) rfl (by rw [e_41_39]; rfl) (by decide) rfl (fun ls hl => ?_)
                          refine lv_goto (tgt := 41) C0.1 C0.2.1 dX10_word_127 (by decide) ?_
                          exact ih41 x1_41 x2_41 x3_41_36 x4_41_38 M_41_32 hf H locs ls hI (lv_sub hl [2, 3, 4, 1, 0] rfl)
                        · have hf := (if_pos c_41_35).symm.trans hf
                          refine lv_iconst (v := 1) C0.1 C0.2.1 dX10_word_117 (by decide) ?_
                          refine lv_goto (tgt := 122) C0.1 C0.2.1 dX10_word_118 (by decide) ?_
                          refine lv_ior C0.1 C0.2.1 dX10_word_122 ?_
                          refine lv_topi (fun x3_41_40 e_41_41 => ?_)
                          have hf := lt_at e_41_41 hf
                          refine lv_istore_n (lv' := [(3, .int x3_41_40), (0, .ref (b 0)), (1, .int x1_41), (2, .int x2_41), (4, .int x4_41)]) C0.1 C0.2.1 dX10_word_123 rfl hl (by decide) rfl (fun ls hl => ?_)
                          obtain ⟨x4_41_42, e_41_43⟩ : ∃ z : Int32, z = x4_41 + 1 := ⟨_, rfl⟩
                          have hf := lt_at e_41_43 hf
                          refine lv_iinc (v := x4_41_42) (lv' := [(4, .int x4_41_42), (3, .int x3_41_40), (0, .ref (b 0)), (1, .int x1_41), (2, .int x2_41)]) C0.1 C0.2.1 dX10_word_124 hl (k := 4) rfl (by rw [e_41_43]; rfl) (by decide) rfl (fun ls hl => ?_)
                          refine lv_goto (tgt := 41) C0.1 C0.2.1 dX10_word_127 (by decide) ?_
                          exact ih41 x1_41 x2_41 x3_41_40 x4_41_42 M_41_32 hf H locs ls hI (lv_sub hl [2, 3, 4, 1, 0] rfl)
                      · have hf := (if_neg c_41_28).symm.trans hf
                        refine lv_aload_n C0.1 C0.2.1 dX10_word_77 rfl (lv_at hl 0 rfl) ?_
                        refine r_get (C := RX10) (T := TX10) (N9 := 20) (ci := 11) C0 C1 hI iX10 rfl 0 12 (Nat.le_of_ble_eq_true rfl) (by decide) ((fun _ => rfl) _) rfl rfl w_1703 dX10_word_78 ?_
                        refine lv_aload_n C0.1 C0.2.1 dX10_word_81 rfl (lv_at hl 0 rfl) ?_
                        refine r_get (C := RX10) (T := TX10) (N9 := 20) (ci := 11) C0 C1 hI iX10 rfl 0 13 (Nat.le_of_ble_eq_true rfl) (by decide) ((fun _ => rfl) _) rfl rfl w_1704 dX10_word_82 ?_
                        refine lv_iload C0.1 C0.2.1 dX10_word_85 (lv_at hl 4 rfl) ?_
                        obtain ⟨h_41_44, hf⟩ := chk_some hf
                        refine r_iald C0 C1 hI 9 (Nat.le_of_ble_eq_true rfl) (fun _ => rfl) h_41_44 dX10_word_87 ?_
                        refine lv_iload_n C0.1 C0.2.1 dX10_word_88 rfl (lv_at hl 1 rfl) ?_
                        refine lv_iadd C0.1 C0.2.1 dX10_word_89 ?_
                        obtain ⟨h_41_45, hf⟩ := chk_some hf
                        refine r_iald C0 C1 hI 8 (Nat.le_of_ble_eq_true rfl) (fun _ => rfl) h_41_45 dX10_word_90 ?_
                        refine lv_aload_n C0.1 C0.2.1 dX10_word_91 rfl (lv_at hl 0 rfl) ?_
                        obtain ⟨r_41_47, h_41_46, hf⟩ := ob_some hf
                        refine k_i C1 hI (q_V C0 C1 hI 0 (c_X10_sign l g X b H.size n M h_41_46) w_2108 w_2110 w_110 w_132 w_2111 ⟨rfl, rfl⟩ hd_X10_sign ⟨Nat.le_of_ble_eq_true rfl, Nat.le_of_ble_eq_true rfl⟩ (Nat.le_of_ble_eq_true rfl) ((fun _ => rfl) _) rfl rfl rfl hl.1 rfl (Nat.le_of_ble_eq_true rfl) dX10_word_92 ⟨Nat.le_of_ble_eq_true rfl, Nat.le_of_ble_eq_true rfl⟩) (fun H locs hI => ?_)
                        refine lv_icmp_ne (tgt := 102) C0.1 C0.2.1 dX10_word_95 (by decide) (fun c_41_48 => ?_) (fun c_41_48 => ?_)
                        · have hf := (if_neg c_41_48).symm.trans hf
                          refine lv_iconst (v := 0) C0.1 C0.2.1 dX10_word_102 (by decide) ?_
                          refine lv_iand C0.1 C0.2.1 dX10_word_103 ?_
                          obtain ⟨h_41_49, hf⟩ := chk_some hf
                          refine r_iast C0 C1 hI 7 (Nat.le_of_ble_eq_true rfl) (fun _ => rfl) h_41_49 dX10_word_104 (fun H locs hI => ?_)
                          obtain ⟨M_41_52, e_41_53⟩ : ∃ z : Mem, z = up2 M 7 (ix x4_41) ((M 7 (ix x4_41)) &&& 0) := ⟨_, rfl⟩
                          rw [← e_41_53] at hI
                          have hf := lt_at e_41_53 hf
                          refine lv_iload_n C0.1 C0.2.1 dX10_word_105 rfl (lv_at hl 3 rfl) ?_
                          refine lv_aload_n C0.1 C0.2.1 dX10_word_106 rfl (lv_at hl 0 rfl) ?_
                          refine r_get (C := RX10) (T := TX10) (N9 := 20) (ci := 11) C0 C1 hI iX10 rfl 0 11 (Nat.le_of_ble_eq_true rfl) (by decide) ((fun _ => rfl) _) rfl rfl w_1702 dX10_word_107 ?_
                          refine lv_iload C0.1 C0.2.1 dX10_word_110 (lv_at hl 4 rfl) ?_
                          obtain ⟨h_41_54, hf⟩ := chk_some hf
                          refine r_iald C0 C1 hI 7 (Nat.le_of_ble_eq_true rfl) (fun _ => rfl) h_41_54 dX10_word_112 ?_
                          refine lv_iconst (v := 1) C0.1 C0.2.1 dX10_word_113 (by decide) ?_
                          refine lv_icmp_ne (tgt := 121) C0.1 C0.2.1 dX10_word_114 (by decide) (fun c_41_55 => ?_) (fun c_41_55 => ?_)
                          · have hf := (if_neg c_41_55).symm.trans hf
                            refine lv_iconst (v := 0) C0.1 C0.2.1 dX10_word_121 (by decide) ?_
                            refine lv_ior C0.1 C0.2.1 dX10_word_122 ?_
                            refine lv_topi (fun x3_41_56 e_41_57 => ?_)
                            have hf := lt_at e_41_57 hf
                            refine lv_istore_n (lv' := [(3, .int x3_41_56), (0, .ref (b 0)), (1, .int x1_41), (2, .int x2_41), (4, .int x4_41)]) C0.1 C0.2.1 dX10_word_123 rfl hl (by decide) rfl (fun ls hl => ?_)
                            obtain ⟨x4_41_58, e_41_59⟩ : ∃ z : Int32, z = x4_41 + 1 := ⟨_, rfl⟩
                            have hf := lt_at e_41_59 hf
                            refine lv_iinc (v := x4_41_58) (lv' := [(4, .int x4_41_58), (3, .int x3_41_56), (0, .ref (b 0)), (1, .int x1_41), (2, .int x2_41)]) C0.1 C0.2.1 dX10_word_124 hl (k := 4) rfl (by rw [e_41_59]; rfl) (by decide) rfl (fun ls hl => ?_)
                            refine lv_goto (tgt := 41) C0.1 C0.2.1 dX10_word_127 (by decide) ?_
                            exact ih41 x1_41 x2_41 x3_41_56 x4_41_58 M_41_52 hf H locs ls hI (lv_sub hl [2, 3, 4, 1, 0] rfl)
                          · have hf := (if_pos c_41_55).symm.trans hf
                            refine lv_iconst (v := 1) C0.1 C0.2.1 dX10_word_117 (by decide) ?_
                            refine lv_goto (tgt := 122) C0.1 C0.2.1 dX10_word_118 (by decide) ?_
                            refine lv_ior C0.1 C0.2.1 dX10_word_122 ?_
                            refine lv_topi (fun x3_41_60 e_41_61 => ?_)
                            have hf := lt_at e_41_61 hf
                            refine lv_istore_n (lv' := [(3, .int x3_41_60), (0, .ref (b 0)), (1, .int x1_41), (2, .int x2_41), (4, .int x4_41)]) C0.1 C0.2.1 dX10_word_123 rfl hl (by decide) rfl (fun ls hl => ?_)
                            obtain ⟨x4_41_62, e_41_63⟩ : ∃ z : Int32, z = x4_41 + 1 := ⟨_, rfl⟩
                            have hf := lt_at e_41_63 hf
                            refine lv_iinc (v := x4_41_62) (lv' := [(4, .int x4_41_62), (3, .int x3_41_60), (0, .ref (b 0)), (1, .int x1_41), (2, .int x2_41)]) C0.1 C0.2.1 dX10_word_124 hl (k := 4) rfl (by rw [e_41_63]; rfl) (by decide) rfl (fun ls hl => ?_)
                            refine lv_goto (tgt := 41) C0.1 C0.2.1 dX10_word_127 (by decide) ?_
                            exact ih41 x1_41 x2_41 x3_41_60 x4_41_62 M_41_52 hf H locs ls hI (lv_sub hl [2, 3, 4, 1, 0] rfl)
                        · have hf := (if_pos c_41_48).symm.trans hf
                          refine lv_iconst (v := 1) C0.1 C0.2.1 dX10_word_98 (by decide) ?_
                          refine lv_goto (tgt := 103) C0.1 C0.2.1 dX10_word_99 (by decide) ?_
                          refine lv_iand C0.1 C0.2.1 dX10_word_103 ?_
                          obtain ⟨h_41_64, hf⟩ := chk_some hf
                          refine r_iast C0 C1 hI 7 (Nat.le_of_ble_eq_true rfl) (fun _ => rfl) h_41_64 dX10_word_104 (fun H locs hI => ?_)
                          obtain ⟨M_41_67, e_41_68⟩ : ∃ z : Mem, z = up2 M 7 (ix x4_41) ((M 7 (ix x4_41)) &&& 1) := ⟨_, rfl⟩
                          rw [← e_41_68] at hI
                          have hf := lt_at e_41_68 hf
                          refine lv_iload_n C0.1 C0.2.1 dX10_word_105 rfl (lv_at hl 3 rfl) ?_
                          refine lv_aload_n C0.1 C0.2.1 dX10_word_106 rfl (lv_at hl 0 rfl) ?_
                          refine r_get (C := RX10) (T := TX10) (N9 := 20) (ci := 11) C0 C1 hI iX10 rfl 0 11 (Nat.le_of_ble_eq_true rfl) (by decide) ((fun _ => rfl) _) rfl rfl w_1702 dX10_word_107 ?_
                          refine lv_iload C0.1 C0.2.1 dX10_word_110 (lv_at hl 4 rfl) ?_
                          obtain ⟨h_41_69, hf⟩ := chk_some hf
                          refine r_iald C0 C1 hI 7 (Nat.le_of_ble_eq_true rfl) (fun _ => rfl) h_41_69 dX10_word_112 ?_
                          refine lv_iconst (v := 1) C0.1 C0.2.1 dX10_word_113 (by decide) ?_
                          refine lv_icmp_ne (tgt := 121) C0.1 C0.2.1 dX10_word_114 (by decide) (fun c_41_70 => ?_) (fun c_41_70 => ?_)
                          · have hf := (if_neg c_41_70).symm.trans hf
                            refine lv_iconst (v := 0) C0.1 C0.2.1 dX10_word_121 (by decide) ?_
                            refine lv_ior C0.1 C0.2.1 dX10_word_122 ?_
                            refine lv_topi (fun x3_41_71 e_41_72 => ?_)
                            have hf := lt_at e_41_72 hf
                            refine lv_istore_n (lv' := [(3, .int x3_41_71), (0, .ref (b 0)), (1, .int x1_41), (2, .int x2_41), (4, .int x4_41)]) C0.1 C0.2.1 dX10_word_123 rfl hl (by decide) rfl (fun ls hl => ?_)
                            obtain ⟨x4_41_73, e_41_74⟩ : ∃ z : Int32, z = x4_41 + 1 := ⟨_, rfl⟩
                            have hf := lt_at e_41_74 hf
                            refine lv_iinc (v := x4_41_73) (lv' := [(4, .int x4_41_73), (3, .int x3_41_71), (0, .ref (b 0)), (1, .int x1_41), (2, .int x2_41)]) C0.1 C0.2.1 dX10_word_124 hl (k := 4) rfl (by rw [e_41_74]; rfl) (by decide) rfl (fun ls hl => ?_)
                            refine lv_goto (tgt := 41) C0.1 C0.2.1 dX10_word_127 (by decide) ?_
                            exact ih41 x1_41 x2_41 x3_41_71 x4_41_73 M_41_67 hf H locs ls hI (lv_sub hl [2, 3, 4, 1, 0] rfl)
                          · have hf := (if_pos c_41_70).symm.trans hf
                            refine lv_iconst (v := 1) C0.1 C0.2.1 dX10_word_117 (by decide) ?_
                            refine lv_goto (tgt := 122) C0.1 C0.2.1 dX10_word_118 (by decide) ?_
                            refine lv_ior C0.1 C0.2.1 dX10_word_122 ?_
                            refine lv_topi (fun x3_41_75 e_41_76 => ?_)
                            have hf := lt_at e_41_76 hf
                            refine lv_istore_n (lv' := [(3, .int x3_41_75), (0, .ref (b 0)), (1, .int x1_41), (2, .int x2_41), (4, .int x4_41)]) C0.1 C0.2.1 dX10_word_123 rfl hl (by decide) rfl (fun ls hl => ?_)
                            obtain ⟨x4_41_77, e_41_78⟩ : ∃ z : Int32, z = x4_41 + 1 := ⟨_, rfl⟩
                            have hf := lt_at e_41_78 hf
                            refine lv_iinc (v := x4_41_77) (lv' := [(4, .int x4_41_77), (3, .int x3_41_75), (0, .ref (b 0)), (1, .int x1_41), (2, .int x2_41)]) C0.1 C0.2.1 dX10_word_124 hl (k := 4) rfl (by rw [e_41_78]; rfl) (by decide) rfl (fun ls hl => ?_)
                            refine lv_goto (tgt := 41) C0.1 C0.2.1 dX10_word_127 (by decide) ?_
                            exact ih41 x1_41 x2_41 x3_41_75 x4_41_77 M_41_67 hf H locs ls hI (lv_sub hl [2, 3, 4, 1, 0] rfl)
                exact L41 _ ih25 n x1_25 x2_25 0 0 M hf H locs ls hI (lv_sub hl [2, 3, 4, 1, 0] rfl)
        exact L25 n 0 (-1) M hf H locs ls hI (lv_sub hl [2, 1, 0] rfl)
      · have hf := (if_neg c_2_1).symm.trans hf
        refine lv_aload_n C0.1 C0.2.1 dX10_word_8 rfl (lv_at hl 0 rfl) ?_
        refine r_get (C := RX10) (T := TX10) (N9 := 20) (ci := 11) C0 C1 hI iX10 rfl 0 11 (Nat.le_of_ble_eq_true rfl) (by decide) ((fun _ => rfl) _) rfl rfl w_1702 dX10_word_9 ?_
        refine lv_iload_n C0.1 C0.2.1 dX10_word_12 rfl (lv_at hl 1 rfl) ?_
        refine lv_iconst (v := 1) C0.1 C0.2.1 dX10_word_13 (by decide) ?_
        obtain ⟨h_2_2, hf⟩ := chk_some hf
        refine r_iast C0 C1 hI 7 (Nat.le_of_ble_eq_true rfl) (fun _ => rfl) h_2_2 dX10_word_14 (fun H locs hI => ?_)
        obtain ⟨M_2_5, e_2_6⟩ : ∃ z : Mem, z = up2 M 7 (ix x1_2) 1 := ⟨_, rfl⟩
        rw [← e_2_6] at hI
        have hf := lt_at e_2_6 hf
        obtain ⟨x1_2_7, e_2_8⟩ : ∃ z : Int32, z = x1_2 + 1 := ⟨_, rfl⟩
        have hf := lt_at e_2_8 hf
        refine lv_iinc (v := x1_2_7) (lv' := [(1, .int x1_2_7), (0, .ref (b 0))]) C0.1 C0.2.1 dX10_word_15 hl (k := 1) rfl (by rw [e_2_8]; rfl) (by decide) rfl (fun ls hl => ?_)
        refine lv_goto (tgt := 2) C0.1 C0.2.1 dX10_word_18 (by decide) ?_
        exact ih2 x1_2_7 M_2_5 hf H locs ls hI (lv_sub hl [1, 0] rfl)
  exact L2 n 0 M hf H locs ls hI (lv_sub hl [1, 0] rfl)

def F_X10_does (n : Nat) (x1 : Int32) (x2 : Int32) (x3 : Int32) (x4 : Int32) (x5 : Int32) (M : Mem) : Option (Int32 × Mem) :=
  (if x1 = 0 then ob2 (F_X10_adds n x2 x3 M) (fun r_3 M_4 => some (r_3, M_4)) else if x1 = 1 then ob2 (F_X10_addsPad n x2 M) (fun r_7 M_8 => some (r_7, M_8)) else if x1 = 2 then ob2 (F_X10_hops n x2 x3 M) (fun r_11 M_12 => some (r_11, M_12)) else if x1 = 3 then ob2 (F_X10_dives n x2 M) (fun r_15 M_16 => some (r_15, M_16)) else if x1 = 4 then ob2 (F_X10_moves n x2 M) (fun r_19 M_20 => some (r_19, M_20)) else if x1 = 5 then ob2 (F_X10_signs n x2 x3 M) (fun r_23 M_24 => some (r_23, M_24)) else if x1 = 6 then ob2 (F_X10_strikes n x2 x3 M) (fun r_27 M_28 => some (r_27, M_28)) else if x1 = 7 then ob2 (F_X10_calls n x2 M) (fun r_31 M_32 => some (r_31, M_32)) else if x1 = 8 then ob2 (F_X10_backs n x2 x3 M) (fun r_35 M_36 => some (r_35, M_36)) else if x1 = 9 then ob2 (F_X10_croaks n x2 x3 x4 x5 M) (fun r_39 M_40 => some (r_39, M_40)) else ob2 (F_X10_decides n x2 M) (fun r_42 M_43 => some (r_42, M_43)))
theorem hd_X10_does : yX10_does.cls ≠ "java/lang/invoke/MethodHandle" ∧ yX10_does.cls ≠ "java/lang/invoke/VarHandle" ∧ (parseMethodDescriptor yX10_does.desc).map (fun d => d.parameters.length) = some 5 := ⟨by decide +kernel, by decide +kernel, by decide +kernel⟩
set_option maxHeartbeats 4000000 in
set_option maxRecDepth 100000 in
theorem c_X10_does (l : Launch) (g : GG) (X : va_W) (b : Nat → Nat) (sz n : Nat) (M : Mem) (x1 : Int32) (x2 : Int32) (x3 : Int32) (x4 : Int32) (x5 : Int32) {r0 : Int32} {M' : Mem} (hf : F_X10_does n x1 x2 x3 x4 x5 M = some (r0, M')) : Met l yX10_does (.code yX10_does cX10_does 6 (some .int) :: LWg) (rmD 4 0 0) (va_Pc [.ref (b 0), .int x1, .int x2, .int x3, .int x4, .int x5] (PreP g X 10 (shM g b) b sz M)) (Qi g X 10 (shM g b) b sz r0 M') 0 0 (AA X b 10 sz) := by
  refine met_go (by decide +kernel) rfl (Nat.le_of_ble_eq_true rfl) ?_
  intro p e s m below meth c ls H locs C0 C1 hr hlocks hnm hsz hl hI
  subst hsz
  have hl : lv_has ls 6 [(0, .ref (b 0)), (1, .int x1), (2, .int x2), (3, .int x3), (4, .int x4), (5, .int x5)] := hl
  unfold F_X10_does at hf
  refine lv_iload_n C0.1 C0.2.1 dX10_does_0 rfl (lv_at hl 1 rfl) ?_
  by_cases c_1 : x1 = 0
  · have hf := (if_pos c_1).symm.trans hf
    refine lv_tableIn (off := 55) (tgt := 56) C0.1 C0.2.1 dX10_does_1 (by rw [c_1]; decide) (by rw [c_1]; decide) (by rw [c_1]; rfl) (by decide) ?_
    refine lv_aload_n C0.1 C0.2.1 dX10_does_56 rfl (lv_at hl 0 rfl) ?_
    refine lv_iload_n C0.1 C0.2.1 dX10_does_57 rfl (lv_at hl 2 rfl) ?_
    refine lv_iload_n C0.1 C0.2.1 dX10_does_58 rfl (lv_at hl 3 rfl) ?_
    obtain ⟨r_3, M_4, h_2, hf⟩ := ob2_some hf
    refine k_i C1 hI (q_V C0 C1 hI 0 (c_X10_adds l g X b H.size n M x2 x3 h_2) w_1767 w_1769 w_71 w_132 w_1770 ⟨rfl, rfl⟩ hd_X10_adds ⟨Nat.le_of_ble_eq_true rfl, Nat.le_of_ble_eq_true rfl⟩ (Nat.le_of_ble_eq_true rfl) ((fun _ => rfl) _) rfl rfl rfl hl.1 rfl (Nat.le_of_ble_eq_true rfl) dX10_does_59 ⟨Nat.le_of_ble_eq_true rfl, Nat.le_of_ble_eq_true rfl⟩) (fun H locs hI => ?_)
    exact ee_im C0 hI hr hlocks hf dX10_does_62
  have hf := (if_neg c_1).symm.trans hf
  by_cases c_5 : x1 = 1
  · have hf := (if_pos c_5).symm.trans hf
    refine lv_tableIn (off := 62) (tgt := 63) C0.1 C0.2.1 dX10_does_1 (by rw [c_5]; decide) (by rw [c_5]; decide) (by rw [c_5]; rfl) (by decide) ?_
    refine lv_aload_n C0.1 C0.2.1 dX10_does_63 rfl (lv_at hl 0 rfl) ?_
    refine lv_iload_n C0.1 C0.2.1 dX10_does_64 rfl (lv_at hl 2 rfl) ?_
    obtain ⟨r_7, M_8, h_6, hf⟩ := ob2_some hf
    refine k_i C1 hI (q_V C0 C1 hI 0 (c_X10_addsPad l g X b H.size n M x2 h_6) w_1786 w_1788 w_74 w_132 w_1789 ⟨rfl, rfl⟩ hd_X10_addsPad ⟨Nat.le_of_ble_eq_true rfl, Nat.le_of_ble_eq_true rfl⟩ (Nat.le_of_ble_eq_true rfl) ((fun _ => rfl) _) rfl rfl rfl hl.1 rfl (Nat.le_of_ble_eq_true rfl) dX10_does_65 ⟨Nat.le_of_ble_eq_true rfl, Nat.le_of_ble_eq_true rfl⟩) (fun H locs hI => ?_)
    exact ee_im C0 hI hr hlocks hf dX10_does_68
  have hf := (if_neg c_5).symm.trans hf
  by_cases c_9 : x1 = 2
  · have hf := (if_pos c_9).symm.trans hf
    refine lv_tableIn (off := 68) (tgt := 69) C0.1 C0.2.1 dX10_does_1 (by rw [c_9]; decide) (by rw [c_9]; decide) (by rw [c_9]; rfl) (by decide) ?_
    refine lv_aload_n C0.1 C0.2.1 dX10_does_69 rfl (lv_at hl 0 rfl) ?_
    refine lv_iload_n C0.1 C0.2.1 dX10_does_70 rfl (lv_at hl 2 rfl) ?_
    refine lv_iload_n C0.1 C0.2.1 dX10_does_71 rfl (lv_at hl 3 rfl) ?_
    obtain ⟨r_11, M_12, h_10, hf⟩ := ob2_some hf
    refine k_i C1 hI (q_V C0 C1 hI 0 (c_X10_hops l g X b H.size n M x2 x3 h_10) w_1794 w_1796 w_75 w_132 w_1797 ⟨rfl, rfl⟩ hd_X10_hops ⟨Nat.le_of_ble_eq_true rfl, Nat.le_of_ble_eq_true rfl⟩ (Nat.le_of_ble_eq_true rfl) ((fun _ => rfl) _) rfl rfl rfl hl.1 rfl (Nat.le_of_ble_eq_true rfl) dX10_does_72 ⟨Nat.le_of_ble_eq_true rfl, Nat.le_of_ble_eq_true rfl⟩) (fun H locs hI => ?_)
    exact ee_im C0 hI hr hlocks hf dX10_does_75
  have hf := (if_neg c_9).symm.trans hf
  by_cases c_13 : x1 = 3
  · have hf := (if_pos c_13).symm.trans hf
    refine lv_tableIn (off := 75) (tgt := 76) C0.1 C0.2.1 dX10_does_1 (by rw [c_13]; decide) (by rw [c_13]; decide) (by rw [c_13]; rfl) (by decide) ?_
    refine lv_aload_n C0.1 C0.2.1 dX10_does_76 rfl (lv_at hl 0 rfl) ?_
    refine lv_iload_n C0.1 C0.2.1 dX10_does_77 rfl (lv_at hl 2 rfl) ?_
    obtain ⟨r_15, M_16, h_14, hf⟩ := ob2_some hf
    refine k_i C1 hI (q_V C0 C1 hI 0 (c_X10_dives l g X b H.size n M x2 h_14) w_1814 w_1816 w_79 w_132 w_1817 ⟨rfl, rfl⟩ hd_X10_dives ⟨Nat.le_of_ble_eq_true rfl, Nat.le_of_ble_eq_true rfl⟩ (Nat.le_of_ble_eq_true rfl) ((fun _ => rfl) _) rfl rfl rfl hl.1 rfl (Nat.le_of_ble_eq_true rfl) dX10_does_78 ⟨Nat.le_of_ble_eq_true rfl, Nat.le_of_ble_eq_true rfl⟩) (fun H locs hI => ?_)
    exact ee_im C0 hI hr hlocks hf dX10_does_81
  have hf := (if_neg c_13).symm.trans hf
  by_cases c_17 : x1 = 4
  · have hf := (if_pos c_17).symm.trans hf
    refine lv_tableIn (off := 81) (tgt := 82) C0.1 C0.2.1 dX10_does_1 (by rw [c_17]; decide) (by rw [c_17]; decide) (by rw [c_17]; rfl) (by decide) ?_
    refine lv_aload_n C0.1 C0.2.1 dX10_does_82 rfl (lv_at hl 0 rfl) ?_
    refine lv_iload_n C0.1 C0.2.1 dX10_does_83 rfl (lv_at hl 2 rfl) ?_
    obtain ⟨r_19, M_20, h_18, hf⟩ := ob2_some hf
    refine k_i C1 hI (q_V C0 C1 hI 0 (c_X10_moves l g X b H.size n M x2 h_18) w_1874 w_1876 w_84 w_132 w_1877 ⟨rfl, rfl⟩ hd_X10_moves ⟨Nat.le_of_ble_eq_true rfl, Nat.le_of_ble_eq_true rfl⟩ (Nat.le_of_ble_eq_true rfl) ((fun _ => rfl) _) rfl rfl rfl hl.1 rfl (Nat.le_of_ble_eq_true rfl) dX10_does_84 ⟨Nat.le_of_ble_eq_true rfl, Nat.le_of_ble_eq_true rfl⟩) (fun H locs hI => ?_)
    exact ee_im C0 hI hr hlocks hf dX10_does_87
  have hf := (if_neg c_17).symm.trans hf
  by_cases c_21 : x1 = 5
  · have hf := (if_pos c_21).symm.trans hf
    refine lv_tableIn (off := 87) (tgt := 88) C0.1 C0.2.1 dX10_does_1 (by rw [c_21]; decide) (by rw [c_21]; decide) (by rw [c_21]; rfl) (by decide) ?_
    refine lv_aload_n C0.1 C0.2.1 dX10_does_88 rfl (lv_at hl 0 rfl) ?_
    refine lv_iload_n C0.1 C0.2.1 dX10_does_89 rfl (lv_at hl 2 rfl) ?_
    refine lv_iload_n C0.1 C0.2.1 dX10_does_90 rfl (lv_at hl 3 rfl) ?_
    obtain ⟨r_23, M_24, h_22, hf⟩ := ob2_some hf
    refine k_i C1 hI (q_V C0 C1 hI 0 (c_X10_signs l g X b H.size n M x2 x3 h_22) w_1905 w_1907 w_88 w_132 w_1908 ⟨rfl, rfl⟩ hd_X10_signs ⟨Nat.le_of_ble_eq_true rfl, Nat.le_of_ble_eq_true rfl⟩ (Nat.le_of_ble_eq_true rfl) ((fun _ => rfl) _) rfl rfl rfl hl.1 rfl (Nat.le_of_ble_eq_true rfl) dX10_does_91 ⟨Nat.le_of_ble_eq_true rfl, Nat.le_of_ble_eq_true rfl⟩) (fun H locs hI => ?_)
    exact ee_im C0 hI hr hlocks hf dX10_does_94
  have hf := (if_neg c_21).symm.trans hf
  by_cases c_25 : x1 = 6
  · have hf := (if_pos c_25).symm.trans hf
    refine lv_tableIn (off := 94) (tgt := 95) C0.1 C0.2.1 dX10_does_1 (by rw [c_25]; decide) (by rw [c_25]; decide) (by rw [c_25]; rfl) (by decide) ?_
    refine lv_aload_n C0.1 C0.2.1 dX10_does_95 rfl (lv_at hl 0 rfl) ?_
    refine lv_iload_n C0.1 C0.2.1 dX10_does_96 rfl (lv_at hl 2 rfl) ?_
    refine lv_iload_n C0.1 C0.2.1 dX10_does_97 rfl (lv_at hl 3 rfl) ?_
    obtain ⟨r_27, M_28, h_26, hf⟩ := ob2_some hf
    refine k_i C1 hI (q_V C0 C1 hI 0 (c_X10_strikes l g X b H.size n M x2 x3 h_26) w_1924 w_1926 w_91 w_132 w_1927 ⟨rfl, rfl⟩ hd_X10_strikes ⟨Nat.le_of_ble_eq_true rfl, Nat.le_of_ble_eq_true rfl⟩ (Nat.le_of_ble_eq_true rfl) ((fun _ => rfl) _) rfl rfl rfl hl.1 rfl (Nat.le_of_ble_eq_true rfl) dX10_does_98 ⟨Nat.le_of_ble_eq_true rfl, Nat.le_of_ble_eq_true rfl⟩) (fun H locs hI => ?_)
    exact ee_im C0 hI hr hlocks hf dX10_does_101
  have hf := (if_neg c_25).symm.trans hf
  by_cases c_29 : x1 = 7
  · have hf := (if_pos c_29).symm.trans hf
    refine lv_tableIn (off := 101) (tgt := 102) C0.1 C0.2.1 dX10_does_1 (by rw [c_29]; decide) (by rw [c_29]; decide) (by rw [c_29]; rfl) (by decide) ?_
    refine lv_aload_n C0.1 C0.2.1 dX10_does_102 rfl (lv_at hl 0 rfl) ?_
    refine lv_iload_n C0.1 C0.2.1 dX10_does_103 rfl (lv_at hl 2 rfl) ?_
    obtain ⟨r_31, M_32, h_30, hf⟩ := ob2_some hf
    refine k_i C1 hI (q_V C0 C1 hI 0 (c_X10_calls l g X b H.size n M x2 h_30) w_1936 w_1938 w_93 w_132 w_1939 ⟨rfl, rfl⟩ hd_X10_calls ⟨Nat.le_of_ble_eq_true rfl, Nat.le_of_ble_eq_true rfl⟩ (Nat.le_of_ble_eq_true rfl) ((fun _ => rfl) _) rfl rfl rfl hl.1 rfl (Nat.le_of_ble_eq_true rfl) dX10_does_104 ⟨Nat.le_of_ble_eq_true rfl, Nat.le_of_ble_eq_true rfl⟩) (fun H locs hI => ?_)
    exact ee_im C0 hI hr hlocks hf dX10_does_107
  have hf := (if_neg c_29).symm.trans hf
  by_cases c_33 : x1 = 8
  · have hf := (if_pos c_33).symm.trans hf
    refine lv_tableIn (off := 107) (tgt := 108) C0.1 C0.2.1 dX10_does_1 (by rw [c_33]; decide) (by rw [c_33]; decide) (by rw [c_33]; rfl) (by decide) ?_
    refine lv_aload_n C0.1 C0.2.1 dX10_does_108 rfl (lv_at hl 0 rfl) ?_
    refine lv_iload_n C0.1 C0.2.1 dX10_does_109 rfl (lv_at hl 2 rfl) ?_
    refine lv_iload_n C0.1 C0.2.1 dX10_does_110 rfl (lv_at hl 3 rfl) ?_
    obtain ⟨r_35, M_36, h_34, hf⟩ := ob2_some hf
    refine k_i C1 hI (q_V C0 C1 hI 0 (c_X10_backs l g X b H.size n M x2 x3 h_34) w_1985 w_1987 w_97 w_132 w_1988 ⟨rfl, rfl⟩ hd_X10_backs ⟨Nat.le_of_ble_eq_true rfl, Nat.le_of_ble_eq_true rfl⟩ (Nat.le_of_ble_eq_true rfl) ((fun _ => rfl) _) rfl rfl rfl hl.1 rfl (Nat.le_of_ble_eq_true rfl) dX10_does_111 ⟨Nat.le_of_ble_eq_true rfl, Nat.le_of_ble_eq_true rfl⟩) (fun H locs hI => ?_)
    exact ee_im C0 hI hr hlocks hf dX10_does_114
  have hf := (if_neg c_33).symm.trans hf
  by_cases c_37 : x1 = 9
  · have hf := (if_pos c_37).symm.trans hf
    refine lv_tableIn (off := 114) (tgt := 115) C0.1 C0.2.1 dX10_does_1 (by rw [c_37]; decide) (by rw [c_37]; decide) (by rw [c_37]; rfl) (by decide) ?_
    refine lv_aload_n C0.1 C0.2.1 dX10_does_115 rfl (lv_at hl 0 rfl) ?_
    refine lv_iload_n C0.1 C0.2.1 dX10_does_116 rfl (lv_at hl 2 rfl) ?_
    refine lv_iload_n C0.1 C0.2.1 dX10_does_117 rfl (lv_at hl 3 rfl) ?_
    refine lv_iload C0.1 C0.2.1 dX10_does_118 (lv_at hl 4 rfl) ?_
    refine lv_iload C0.1 C0.2.1 dX10_does_120 (lv_at hl 5 rfl) ?_
    obtain ⟨r_39, M_40, h_38, hf⟩ := ob2_some hf
    refine k_i C1 hI (q_V C0 C1 hI 0 (c_X10_croaks l g X b H.size n M x2 x3 x4 x5 h_38) w_2013 w_2015 w_100 w_132 w_2016 ⟨rfl, rfl⟩ hd_X10_croaks ⟨Nat.le_of_ble_eq_true rfl, Nat.le_of_ble_eq_true rfl⟩ (Nat.le_of_ble_eq_true rfl) ((fun _ => rfl) _) rfl rfl rfl hl.1 rfl (Nat.le_of_ble_eq_true rfl) dX10_does_122 ⟨Nat.le_of_ble_eq_true rfl, Nat.le_of_ble_eq_true rfl⟩) (fun H locs hI => ?_)
    exact ee_im C0 hI hr hlocks hf dX10_does_125
  have hf := (if_neg c_37).symm.trans hf
  have c_1 := lv_neT c_1 (show (0 : Int32).toInt = 0 from rfl)
  have c_5 := lv_neT c_5 (show (1 : Int32).toInt = 1 from rfl)
  have c_9 := lv_neT c_9 (show (2 : Int32).toInt = 2 from rfl)
  have c_13 := lv_neT c_13 (show (3 : Int32).toInt = 3 from rfl)
  have c_17 := lv_neT c_17 (show (4 : Int32).toInt = 4 from rfl)
  have c_21 := lv_neT c_21 (show (5 : Int32).toInt = 5 from rfl)
  have c_25 := lv_neT c_25 (show (6 : Int32).toInt = 6 from rfl)
  have c_29 := lv_neT c_29 (show (7 : Int32).toInt = 7 from rfl)
  have c_33 := lv_neT c_33 (show (8 : Int32).toInt = 8 from rfl)
  have c_37 := lv_neT c_37 (show (9 : Int32).toInt = 9 from rfl)
  refine lv_tableOut (tgt := 126) C0.1 C0.2.1 dX10_does_1 (by omega) (by decide) ?_
  refine lv_aload_n C0.1 C0.2.1 dX10_does_126 rfl (lv_at hl 0 rfl) ?_
  refine lv_iload_n C0.1 C0.2.1 dX10_does_127 rfl (lv_at hl 2 rfl) ?_
  obtain ⟨r_42, M_43, h_41, hf⟩ := ob2_some hf
  refine k_i C1 hI (q_V C0 C1 hI 0 (c_X10_decides l g X b H.size n M x2 h_41) w_2040 w_2042 w_105 w_132 w_2043 ⟨rfl, rfl⟩ hd_X10_decides ⟨Nat.le_of_ble_eq_true rfl, Nat.le_of_ble_eq_true rfl⟩ (Nat.le_of_ble_eq_true rfl) ((fun _ => rfl) _) rfl rfl rfl hl.1 rfl (Nat.le_of_ble_eq_true rfl) dX10_does_128 ⟨Nat.le_of_ble_eq_true rfl, Nat.le_of_ble_eq_true rfl⟩) (fun H locs hI => ?_)
  exact ee_im C0 hI hr hlocks hf dX10_does_131

def F_X10_command_L143 (n : Nat) (x1_143 : Int32) (x2_143 : Int32) (x3_143 : Int32) (x4_143 : Int32) (x5_143 : Int32) (M : Mem) : Option Mem :=
  (if (M 0 18) = 0 then (if (M 0 19) = 0 then some M else ob2 (F_X10_does n x1_143 x5_143 x2_143 x3_143 x4_143 M) (fun r_143_4 M_143_5 => some M_143_5)) else some M)
def F_X10_command_L124 (n : Nat) (x1_124 : Int32) (x2_124 : Int32) (x3_124 : Int32) (x4_124 : Int32) (x5_124 : Int32) (M : Mem) : Option Mem :=
  (if x1_124 = 9 then (if (M 0 18) = 0 then ob2 (F_X10_digits n 1 M) (fun r_124_4 M_124_5 => F_X10_command_L143 n x1_124 x2_124 r_124_4 x4_124 x5_124 M_124_5) else F_X10_command_L143 n x1_124 x2_124 x3_124 x4_124 x5_124 M) else F_X10_command_L143 n x1_124 x2_124 x3_124 x4_124 x5_124 M)
def F_X10_command_L112 (n : Nat) (x1_112 : Int32) (x2_112 : Int32) (x3_112 : Int32) (x4_112 : Int32) (x5_112 : Int32) (M : Mem) : Option Mem :=
  (if x1_112 = 9 then ob2 (F_X10_plus n M) (fun r_112_3 M_112_4 => F_X10_command_L124 n x1_112 x2_112 x3_112 r_112_3 x5_112 M_112_4) else F_X10_command_L124 n x1_112 x2_112 x3_112 x4_112 x5_112 M)
def F_X10_command_L76 (n : Nat) (x1_76 : Int32) (x2_76 : Int32) (x3_76 : Int32) (x4_76 : Int32) (x5_76 : Int32) (M : Mem) : Option Mem :=
  (if x1_76 = 5 then (if (M 0 18) = 0 then ob2 (F_X10_behind n 2 M) (fun r_76_4 M_76_5 => F_X10_command_L112 n x1_76 r_76_4 x3_76 x4_76 x5_76 M_76_5) else F_X10_command_L112 n x1_76 x2_76 x3_76 x4_76 x5_76 M) else (if x1_76 = 6 then (if (M 0 18) = 0 then ob2 (F_X10_behind n 2 M) (fun r_76_9 M_76_10 => F_X10_command_L112 n x1_76 r_76_9 x3_76 x4_76 x5_76 M_76_10) else F_X10_command_L112 n x1_76 x2_76 x3_76 x4_76 x5_76 M) else (if x1_76 = 8 then (if (M 0 18) = 0 then ob2 (F_X10_behind n 2 M) (fun r_76_14 M_76_15 => F_X10_command_L112 n x1_76 r_76_14 x3_76 x4_76 x5_76 M_76_15) else F_X10_command_L112 n x1_76 x2_76 x3_76 x4_76 x5_76 M) else (if x1_76 = 9 then (if (M 0 18) = 0 then ob2 (F_X10_behind n 2 M) (fun r_76_19 M_76_20 => F_X10_command_L112 n x1_76 r_76_19 x3_76 x4_76 x5_76 M_76_20) else F_X10_command_L112 n x1_76 x2_76 x3_76 x4_76 x5_76 M) else F_X10_command_L112 n x1_76 x2_76 x3_76 x4_76 x5_76 M))))
def F_X10_command_L58 (n : Nat) (x1_58 : Int32) (x2_58 : Int32) (x3_58 : Int32) (x4_58 : Int32) (x5_58 : Int32) (M : Mem) : Option Mem :=
  (if x1_58 = 2 then (if (M 0 18) = 0 then ob2 (F_X10_behind n 1 M) (fun r_58_4 M_58_5 => F_X10_command_L76 n x1_58 r_58_4 x3_58 x4_58 x5_58 M_58_5) else F_X10_command_L76 n x1_58 x2_58 x3_58 x4_58 x5_58 M) else F_X10_command_L76 n x1_58 x2_58 x3_58 x4_58 x5_58 M)
def F_X10_command_L41 (n : Nat) (x1_41 : Int32) (x2_41 : Int32) (x3_41 : Int32) (x4_41 : Int32) (x5_41 : Int32) (M : Mem) : Option Mem :=
  (if x1_41 = 0 then (if (M 0 18) = 0 then ob2 (F_X10_digits n 1 M) (fun r_41_4 M_41_5 => F_X10_command_L58 n x1_41 r_41_4 x3_41 x4_41 x5_41 M_41_5) else F_X10_command_L58 n x1_41 x2_41 x3_41 x4_41 x5_41 M) else F_X10_command_L58 n x1_41 x2_41 x3_41 x4_41 x5_41 M)
def F_X10_command (n : Nat) (M : Mem) : Option Mem :=
  ob2 (F_X10_word n M) (fun r_2 M_3 => (if (M_3 0 18) = 0 then (if r_2 < 2 then ob2 (F_X10_digits n 1 M_3) (fun r_7 M_8 => F_X10_command_L41 n r_2 0 0 0 r_7 M_8) else (if 4 < r_2 then ob2 (F_X10_digits n 1 M_3) (fun r_11 M_12 => F_X10_command_L41 n r_2 0 0 0 r_11 M_12) else ob2 (F_X10_digits n 2 M_3) (fun r_14 M_15 => F_X10_command_L41 n r_2 0 0 0 r_14 M_15))) else some M_3))
theorem hd_X10_command : yX10_command.cls ≠ "java/lang/invoke/MethodHandle" ∧ yX10_command.cls ≠ "java/lang/invoke/VarHandle" ∧ (parseMethodDescriptor yX10_command.desc).map (fun d => d.parameters.length) = some 0 := ⟨by decide +kernel, by decide +kernel, by decide +kernel⟩
set_option maxHeartbeats 4000000 in
set_option maxRecDepth 100000 in
theorem c_X10_command (l : Launch) (g : GG) (X : va_W) (b : Nat → Nat) (sz n : Nat) (M : Mem)  {M' : Mem} (hf : F_X10_command n M = some M') : Met l yX10_command (.code yX10_command cX10_command 7 none :: LWg) (rmD 5 0 0) (va_Pc [.ref (b 0)] (PreP g X 10 (shM g b) b sz M)) (Qv g X 10 (shM g b) b sz M') 0 0 (AA X b 10 sz) := by
  refine met_go (by decide +kernel) rfl (Nat.le_of_ble_eq_true rfl) ?_
  intro p e s m below meth c ls H locs C0 C1 hr hlocks hnm hsz hl hI
  subst hsz
  have hl : lv_has ls 7 [(0, .ref (b 0))] := hl
  unfold F_X10_command at hf
  refine lv_aload_n C0.1 C0.2.1 dX10_command_0 rfl (lv_at hl 0 rfl) ?_
  obtain ⟨r_2, M_3, h_1, hf⟩ := ob2_some hf
  refine k_i C1 hI (q_V C0 C1 hI 0 (c_X10_word l g X b H.size n M h_1) w_2104 w_2106 w_109 w_132 w_2107 ⟨rfl, rfl⟩ hd_X10_word ⟨Nat.le_of_ble_eq_true rfl, Nat.le_of_ble_eq_true rfl⟩ (Nat.le_of_ble_eq_true rfl) ((fun _ => rfl) _) rfl rfl rfl hl.1 rfl (Nat.le_of_ble_eq_true rfl) dX10_command_1 ⟨Nat.le_of_ble_eq_true rfl, Nat.le_of_ble_eq_true rfl⟩) (fun H locs hI => ?_)
  refine lv_istore_n (lv' := [(1, .int r_2), (0, .ref (b 0))]) C0.1 C0.2.1 dX10_command_4 rfl hl (by decide) rfl (fun ls hl => ?_)
  refine lv_iconst (v := 0) C0.1 C0.2.1 dX10_command_5 (by decide) ?_
  refine lv_istore_n (lv' := [(2, .int 0), (1, .int r_2), (0, .ref (b 0))]) C0.1 C0.2.1 dX10_command_6 rfl hl (by decide) rfl (fun ls hl => ?_)
  refine lv_iconst (v := 0) C0.1 C0.2.1 dX10_command_7 (by decide) ?_
  refine lv_istore_n (lv' := [(3, .int 0), (2, .int 0), (1, .int r_2), (0, .ref (b 0))]) C0.1 C0.2.1 dX10_command_8 rfl hl (by decide) rfl (fun ls hl => ?_)
  refine lv_iconst (v := 0) C0.1 C0.2.1 dX10_command_9 (by decide) ?_
  refine lv_istore (lv' := [(4, .int 0), (3, .int 0), (2, .int 0), (1, .int r_2), (0, .ref (b 0))]) C0.1 C0.2.1 dX10_command_10 hl (by decide) rfl (fun ls hl => ?_)
  refine lv_aload_n C0.1 C0.2.1 dX10_command_12 rfl (lv_at hl 4 rfl) ?_
  refine r_get (C := RX10) (T := TX10) (N9 := 20) (ci := 11) C0 C1 hI iX10 rfl 0 18 (Nat.le_of_ble_eq_true rfl) (by decide) ((fun _ => rfl) _) rfl rfl w_1709 dX10_command_13 ?_
  have L41 : ∀ (x1_41 : Int32) (x2_41 : Int32) (x3_41 : Int32) (x4_41 : Int32) (x5_41 : Int32) (M : Mem) (_ : F_X10_command_L41 n x1_41 x2_41 x3_41 x4_41 x5_41 M = some M'), ∀ (H : Heap) (locs : List Loc) (ls : Array Slot), PI g X 10 (shM g b) b s M H locs → lv_has ls 7 [(0, .ref (b 0)), (1, .int x1_41), (2, .int x2_41), (3, .int x3_41), (4, .int x4_41), (5, .int x5_41)] → W p l e (rmD 5 0 0) s m ([.ref (b 0)] : List Value).toArray below meth c H locs 0 0 (MQ below (Qv g X 10 (shM g b) b s.heap.size M') ([.ref (b 0)] : List Value).toArray s 0 0 (AA X b 10 s.heap.size)) (F0 m 41 ls []) := by
    intro x1_41 x2_41 x3_41 x4_41 x5_41 M hf H locs ls hI hl
    unfold F_X10_command_L41 at hf
    refine lv_iload_n C0.1 C0.2.1 dX10_command_41 rfl (lv_at hl 1 rfl) ?_
    have L58 : ∀ (x1_58 : Int32) (x2_58 : Int32) (x3_58 : Int32) (x4_58 : Int32) (x5_58 : Int32) (M : Mem) (_ : F_X10_command_L58 n x1_58 x2_58 x3_58 x4_58 x5_58 M = some M'), ∀ (H : Heap) (locs : List Loc) (ls : Array Slot), PI g X 10 (shM g b) b s M H locs → lv_has ls 7 [(0, .ref (b 0)), (1, .int x1_58), (2, .int x2_58), (3, .int x3_58), (4, .int x4_58), (5, .int x5_58)] → W p l e (rmD 5 0 0) s m ([.ref (b 0)] : List Value).toArray below meth c H locs 0 0 (MQ below (Qv g X 10 (shM g b) b s.heap.size M') ([.ref (b 0)] : List Value).toArray s 0 0 (AA X b 10 s.heap.size)) (F0 m 58 ls []) := by
      intro x1_58 x2_58 x3_58 x4_58 x5_58 M hf H locs ls hI hl
      unfold F_X10_command_L58 at hf
      refine lv_iload_n C0.1 C0.2.1 dX10_command_58 rfl (lv_at hl 1 rfl) ?_
      refine lv_iconst (v := 2) C0.1 C0.2.1 dX10_command_59 (by decide) ?_
      have L76 : ∀ (x1_76 : Int32) (x2_76 : Int32) (x3_76 : Int32) (x4_76 : Int32) (x5_76 : Int32) (M : Mem) (_ : F_X10_command_L76 n x1_76 x2_76 x3_76 x4_76 x5_76 M = some M'), ∀ (H : Heap) (locs : List Loc) (ls : Array Slot), PI g X 10 (shM g b) b s M H locs → lv_has ls 7 [(0, .ref (b 0)), (1, .int x1_76), (2, .int x2_76), (3, .int x3_76), (4, .int x4_76), (5, .int x5_76)] → W p l e (rmD 5 0 0) s m ([.ref (b 0)] : List Value).toArray below meth c H locs 0 0 (MQ below (Qv g X 10 (shM g b) b s.heap.size M') ([.ref (b 0)] : List Value).toArray s 0 0 (AA X b 10 s.heap.size)) (F0 m 76 ls []) := by
        intro x1_76 x2_76 x3_76 x4_76 x5_76 M hf H locs ls hI hl
        unfold F_X10_command_L76 at hf
        refine lv_iload_n C0.1 C0.2.1 dX10_command_76 rfl (lv_at hl 1 rfl) ?_
        refine lv_iconst (v := 5) C0.1 C0.2.1 dX10_command_77 (by decide) ?_
        have L112 : ∀ (x1_112 : Int32) (x2_112 : Int32) (x3_112 : Int32) (x4_112 : Int32) (x5_112 : Int32) (M : Mem) (_ : F_X10_command_L112 n x1_112 x2_112 x3_112 x4_112 x5_112 M = some M'), ∀ (H : Heap) (locs : List Loc) (ls : Array Slot), PI g X 10 (shM g b) b s M H locs → lv_has ls 7 [(0, .ref (b 0)), (1, .int x1_112), (2, .int x2_112), (3, .int x3_112), (4, .int x4_112), (5, .int x5_112)] → W p l e (rmD 5 0 0) s m ([.ref (b 0)] : List Value).toArray below meth c H locs 0 0 (MQ below (Qv g X 10 (shM g b) b s.heap.size M') ([.ref (b 0)] : List Value).toArray s 0 0 (AA X b 10 s.heap.size)) (F0 m 112 ls []) := by
          intro x1_112 x2_112 x3_112 x4_112 x5_112 M hf H locs ls hI hl
          unfold F_X10_command_L112 at hf
          refine lv_iload_n C0.1 C0.2.1 dX10_command_112 rfl (lv_at hl 1 rfl) ?_
          refine lv_bipush (v := 9) C0.1 C0.2.1 dX10_command_113 (by decide) ?_
          have L124 : ∀ (x1_124 : Int32) (x2_124 : Int32) (x3_124 : Int32) (x4_124 : Int32) (x5_124 : Int32) (M : Mem) (_ : F_X10_command_L124 n x1_124 x2_124 x3_124 x4_124 x5_124 M = some M'), ∀ (H : Heap) (locs : List Loc) (ls : Array Slot), PI g X 10 (shM g b) b s M H locs → lv_has ls 7 [(0, .ref (b 0)), (1, .int x1_124), (2, .int x2_124), (3, .int x3_124), (4, .int x4_124), (5, .int x5_124)] → W p l e (rmD 5 0 0) s m ([.ref (b 0)] : List Value).toArray below meth c H locs 0 0 (MQ below (Qv g X 10 (shM g b) b s.heap.size M') ([.ref (b 0)] : List Value).toArray s 0 0 (AA X b 10 s.heap.size)) (F0 m 124 ls []) := by
            intro x1_124 x2_124 x3_124 x4_124 x5_124 M hf H locs ls hI hl
            unfold F_X10_command_L124 at hf
            refine lv_iload_n C0.1 C0.2.1 dX10_command_124 rfl (lv_at hl 1 rfl) ?_
            refine lv_bipush (v := 9) C0.1 C0.2.1 dX10_command_125 (by decide) ?_
            have L143 : ∀ (x1_143 : Int32) (x2_143 : Int32) (x3_143 : Int32) (x4_143 : Int32) (x5_143 : Int32) (M : Mem) (_ : F_X10_command_L143 n x1_143 x2_143 x3_143 x4_143 x5_143 M = some M'), ∀ (H : Heap) (locs : List Loc) (ls : Array Slot), PI g X 10 (shM g b) b s M H locs → lv_has ls 7 [(0, .ref (b 0)), (1, .int x1_143), (2, .int x2_143), (3, .int x3_143), (4, .int x4_143), (5, .int x5_143)] → W p l e (rmD 5 0 0) s m ([.ref (b 0)] : List Value).toArray below meth c H locs 0 0 (MQ below (Qv g X 10 (shM g b) b s.heap.size M') ([.ref (b 0)] : List Value).toArray s 0 0 (AA X b 10 s.heap.size)) (F0 m 143 ls []) := by
              intro x1_143 x2_143 x3_143 x4_143 x5_143 M hf H locs ls hI hl
              unfold F_X10_command_L143 at hf
              refine lv_aload_n C0.1 C0.2.1 dX10_command_143 rfl (lv_at hl 0 rfl) ?_
              refine r_get (C := RX10) (T := TX10) (N9 := 20) (ci := 11) C0 C1 hI iX10 rfl 0 18 (Nat.le_of_ble_eq_true rfl) (by decide) ((fun _ => rfl) _) rfl rfl w_1709 dX10_command_144 ?_
              refine lv_if_ne (tgt := 157) C0.1 C0.2.1 dX10_command_147 (by decide) (fun c_143_1 => ?_) (fun c_143_1 => ?_)
              · have hf := (if_neg c_143_1).symm.trans hf
                exact ee_vm C0 hI hr hlocks hf dX10_command_157
              · have hf := (if_pos c_143_1).symm.trans hf
                refine lv_aload_n C0.1 C0.2.1 dX10_command_150 rfl (lv_at hl 0 rfl) ?_
                refine r_get (C := RX10) (T := TX10) (N9 := 20) (ci := 11) C0 C1 hI iX10 rfl 0 19 (Nat.le_of_ble_eq_true rfl) (by decide) ((fun _ => rfl) _) rfl rfl w_1710 dX10_command_151 ?_
                refine lv_if_ne (tgt := 158) C0.1 C0.2.1 dX10_command_154 (by decide) (fun c_143_2 => ?_) (fun c_143_2 => ?_)
                · have hf := (if_neg c_143_2).symm.trans hf
                  refine lv_aload_n C0.1 C0.2.1 dX10_command_158 rfl (lv_at hl 0 rfl) ?_
                  refine lv_iload_n C0.1 C0.2.1 dX10_command_159 rfl (lv_at hl 1 rfl) ?_
                  refine lv_iload C0.1 C0.2.1 dX10_command_160 (lv_at hl 5 rfl) ?_
                  refine lv_iload_n C0.1 C0.2.1 dX10_command_162 rfl (lv_at hl 2 rfl) ?_
                  refine lv_iload_n C0.1 C0.2.1 dX10_command_163 rfl (lv_at hl 3 rfl) ?_
                  refine lv_iload C0.1 C0.2.1 dX10_command_164 (lv_at hl 4 rfl) ?_
                  obtain ⟨r_143_4, M_143_5, h_143_3, hf⟩ := ob2_some hf
                  refine k_i C1 hI (q_V C0 C1 hI 0 (c_X10_does l g X b H.size n M x1_143 x5_143 x2_143 x3_143 x4_143 h_143_3) w_2128 w_2130 w_115 w_132 w_2131 ⟨rfl, rfl⟩ hd_X10_does ⟨Nat.le_of_ble_eq_true rfl, Nat.le_of_ble_eq_true rfl⟩ (Nat.le_of_ble_eq_true rfl) ((fun _ => rfl) _) rfl rfl rfl hl.1 rfl (Nat.le_of_ble_eq_true rfl) dX10_command_166 ⟨Nat.le_of_ble_eq_true rfl, Nat.le_of_ble_eq_true rfl⟩) (fun H locs hI => ?_)
                  refine lv_istore (lv' := [(6, .int r_143_4), (0, .ref (b 0)), (1, .int x1_143), (2, .int x2_143), (3, .int x3_143), (4, .int x4_143), (5, .int x5_143)]) C0.1 C0.2.1 dX10_command_169 hl (by decide) rfl (fun ls hl => ?_)
                  exact ee_vm C0 hI hr hlocks hf dX10_command_171
                · have hf := (if_pos c_143_2).symm.trans hf
                  exact ee_vm C0 hI hr hlocks hf dX10_command_157
            refine lv_icmp_ne (tgt := 143) C0.1 C0.2.1 dX10_command_127 (by decide) (fun c_124_1 => ?_) (fun c_124_1 => ?_)
            · have hf := (if_neg c_124_1).symm.trans hf
              exact L143 x1_124 x2_124 x3_124 x4_124 x5_124 M hf H locs ls hI (lv_sub hl [0, 1, 2, 3, 4, 5] rfl)
            · have hf := (if_pos c_124_1).symm.trans hf
              refine lv_aload_n C0.1 C0.2.1 dX10_command_130 rfl (lv_at hl 0 rfl) ?_
              refine r_get (C := RX10) (T := TX10) (N9 := 20) (ci := 11) C0 C1 hI iX10 rfl 0 18 (Nat.le_of_ble_eq_true rfl) (by decide) ((fun _ => rfl) _) rfl rfl w_1709 dX10_command_131 ?_
              refine lv_if_ne (tgt := 143) C0.1 C0.2.1 dX10_command_134 (by decide) (fun c_124_2 => ?_) (fun c_124_2 => ?_)
              · have hf := (if_neg c_124_2).symm.trans hf
                exact L143 x1_124 x2_124 x3_124 x4_124 x5_124 M hf H locs ls hI (lv_sub hl [0, 1, 2, 3, 4, 5] rfl)
              · have hf := (if_pos c_124_2).symm.trans hf
                refine lv_aload_n C0.1 C0.2.1 dX10_command_137 rfl (lv_at hl 0 rfl) ?_
                refine lv_iconst (v := 1) C0.1 C0.2.1 dX10_command_138 (by decide) ?_
                obtain ⟨r_124_4, M_124_5, h_124_3, hf⟩ := ob2_some hf
                refine k_i C1 hI (q_V C0 C1 hI 0 (c_X10_digits l g X b H.size n M 1 h_124_3) w_2112 w_2114 w_111 w_132 w_2115 ⟨rfl, rfl⟩ hd_X10_digits ⟨Nat.le_of_ble_eq_true rfl, Nat.le_of_ble_eq_true rfl⟩ (Nat.le_of_ble_eq_true rfl) ((fun _ => rfl) _) rfl rfl rfl hl.1 rfl (Nat.le_of_ble_eq_true rfl) dX10_command_139 ⟨Nat.le_of_ble_eq_true rfl, Nat.le_of_ble_eq_true rfl⟩) (fun H locs hI => ?_)
                refine lv_istore_n (lv' := [(3, .int r_124_4), (0, .ref (b 0)), (1, .int x1_124), (2, .int x2_124), (4, .int x4_124), (5, .int x5_124)]) C0.1 C0.2.1 dX10_command_142 rfl hl (by decide) rfl (fun ls hl => ?_)
                exact L143 x1_124 x2_124 r_124_4 x4_124 x5_124 M_124_5 hf H locs ls hI (lv_sub hl [1, 2, 3, 0, 4, 5] rfl)
          refine lv_icmp_ne (tgt := 124) C0.1 C0.2.1 dX10_command_115 (by decide) (fun c_112_1 => ?_) (fun c_112_1 => ?_)
          · have hf := (if_neg c_112_1).symm.trans hf
            exact L124 x1_112 x2_112 x3_112 x4_112 x5_112 M hf H locs ls hI (lv_sub hl [0, 1, 2, 3, 4, 5] rfl)
          · have hf := (if_pos c_112_1).symm.trans hf
            refine lv_aload_n C0.1 C0.2.1 dX10_command_118 rfl (lv_at hl 0 rfl) ?_
            obtain ⟨r_112_3, M_112_4, h_112_2, hf⟩ := ob2_some hf
            refine k_i C1 hI (q_V C0 C1 hI 0 (c_X10_plus l g X b H.size n M h_112_2) w_2124 w_2126 w_114 w_132 w_2127 ⟨rfl, rfl⟩ hd_X10_plus ⟨Nat.le_of_ble_eq_true rfl, Nat.le_of_ble_eq_true rfl⟩ (Nat.le_of_ble_eq_true rfl) ((fun _ => rfl) _) rfl rfl rfl hl.1 rfl (Nat.le_of_ble_eq_true rfl) dX10_command_119 ⟨Nat.le_of_ble_eq_true rfl, Nat.le_of_ble_eq_true rfl⟩) (fun H locs hI => ?_)
            refine lv_istore (lv' := [(4, .int r_112_3), (0, .ref (b 0)), (1, .int x1_112), (2, .int x2_112), (3, .int x3_112), (5, .int x5_112)]) C0.1 C0.2.1 dX10_command_122 hl (by decide) rfl (fun ls hl => ?_)
            exact L124 x1_112 x2_112 x3_112 r_112_3 x5_112 M_112_4 hf H locs ls hI (lv_sub hl [1, 2, 3, 4, 0, 5] rfl)
        refine lv_icmp_eq (tgt := 99) C0.1 C0.2.1 dX10_command_78 (by decide) (fun c_76_1 => ?_) (fun c_76_1 => ?_)
        · have hf := (if_pos c_76_1).symm.trans hf
          refine lv_aload_n C0.1 C0.2.1 dX10_command_99 rfl (lv_at hl 0 rfl) ?_
          refine r_get (C := RX10) (T := TX10) (N9 := 20) (ci := 11) C0 C1 hI iX10 rfl 0 18 (Nat.le_of_ble_eq_true rfl) (by decide) ((fun _ => rfl) _) rfl rfl w_1709 dX10_command_100 ?_
          have L124 : ∀ (x1_124 : Int32) (x2_124 : Int32) (x3_124 : Int32) (x4_124 : Int32) (x5_124 : Int32) (M : Mem) (_ : F_X10_command_L124 n x1_124 x2_124 x3_124 x4_124 x5_124 M = some M'), ∀ (H : Heap) (locs : List Loc) (ls : Array Slot), PI g X 10 (shM g b) b s M H locs → lv_has ls 7 [(0, .ref (b 0)), (1, .int x1_124), (2, .int x2_124), (3, .int x3_124), (4, .int x4_124), (5, .int x5_124)] → W p l e (rmD 5 0 0) s m ([.ref (b 0)] : List Value).toArray below meth c H locs 0 0 (MQ below (Qv g X 10 (shM g b) b s.heap.size M') ([.ref (b 0)] : List Value).toArray s 0 0 (AA X b 10 s.heap.size)) (F0 m 124 ls []) := by
            intro x1_124 x2_124 x3_124 x4_124 x5_124 M hf H locs ls hI hl
            unfold F_X10_command_L124 at hf
            refine lv_iload_n C0.1 C0.2.1 dX10_command_124 rfl (lv_at hl 1 rfl) ?_
            refine lv_bipush (v := 9) C0.1 C0.2.1 dX10_command_125 (by decide) ?_
            have L143 : ∀ (x1_143 : Int32) (x2_143 : Int32) (x3_143 : Int32) (x4_143 : Int32) (x5_143 : Int32) (M : Mem) (_ : F_X10_command_L143 n x1_143 x2_143 x3_143 x4_143 x5_143 M = some M'), ∀ (H : Heap) (locs : List Loc) (ls : Array Slot), PI g X 10 (shM g b) b s M H locs → lv_has ls 7 [(0, .ref (b 0)), (1, .int x1_143), (2, .int x2_143), (3, .int x3_143), (4, .int x4_143), (5, .int x5_143)] → W p l e (rmD 5 0 0) s m ([.ref (b 0)] : List Value).toArray below meth c H locs 0 0 (MQ below (Qv g X 10 (shM g b) b s.heap.size M') ([.ref (b 0)] : List Value).toArray s 0 0 (AA X b 10 s.heap.size)) (F0 m 143 ls []) := by
              intro x1_143 x2_143 x3_143 x4_143 x5_143 M hf H locs ls hI hl
              unfold F_X10_command_L143 at hf
              refine lv_aload_n C0.1 C0.2.1 dX10_command_143 rfl (lv_at hl 0 rfl) ?_
              refine r_get (C := RX10) (T := TX10) (N9 := 20) (ci := 11) C0 C1 hI iX10 rfl 0 18 (Nat.le_of_ble_eq_true rfl) (by decide) ((fun _ => rfl) _) rfl rfl w_1709 dX10_command_144 ?_
              refine lv_if_ne (tgt := 157) C0.1 C0.2.1 dX10_command_147 (by decide) (fun c_143_1 => ?_) (fun c_143_1 => ?_)
              · have hf := (if_neg c_143_1).symm.trans hf
                exact ee_vm C0 hI hr hlocks hf dX10_command_157
              · have hf := (if_pos c_143_1).symm.trans hf
                refine lv_aload_n C0.1 C0.2.1 dX10_command_150 rfl (lv_at hl 0 rfl) ?_
                refine r_get (C := RX10) (T := TX10) (N9 := 20) (ci := 11) C0 C1 hI iX10 rfl 0 19 (Nat.le_of_ble_eq_true rfl) (by decide) ((fun _ => rfl) _) rfl rfl w_1710 dX10_command_151 ?_
                refine lv_if_ne (tgt := 158) C0.1 C0.2.1 dX10_command_154 (by decide) (fun c_143_2 => ?_) (fun c_143_2 => ?_)
                · have hf := (if_neg c_143_2).symm.trans hf
                  refine lv_aload_n C0.1 C0.2.1 dX10_command_158 rfl (lv_at hl 0 rfl) ?_
                  refine lv_iload_n C0.1 C0.2.1 dX10_command_159 rfl (lv_at hl 1 rfl) ?_
                  refine lv_iload C0.1 C0.2.1 dX10_command_160 (lv_at hl 5 rfl) ?_
                  refine lv_iload_n C0.1 C0.2.1 dX10_command_162 rfl (lv_at hl 2 rfl) ?_
                  refine lv_iload_n C0.1 C0.2.1 dX10_command_163 rfl (lv_at hl 3 rfl) ?_
                  refine lv_iload C0.1 C0.2.1 dX10_command_164 (lv_at hl 4 rfl) ?_
                  obtain ⟨r_143_4, M_143_5, h_143_3, hf⟩ := ob2_some hf
                  refine k_i C1 hI (q_V C0 C1 hI 0 (c_X10_does l g X b H.size n M x1_143 x5_143 x2_143 x3_143 x4_143 h_143_3) w_2128 w_2130 w_115 w_132 w_2131 ⟨rfl, rfl⟩ hd_X10_does ⟨Nat.le_of_ble_eq_true rfl, Nat.le_of_ble_eq_true rfl⟩ (Nat.le_of_ble_eq_true rfl) ((fun _ => rfl) _) rfl rfl rfl hl.1 rfl (Nat.le_of_ble_eq_true rfl) dX10_command_166 ⟨Nat.le_of_ble_eq_true rfl, Nat.le_of_ble_eq_true rfl⟩) (fun H locs hI => ?_)
                  refine lv_istore (lv' := [(6, .int r_143_4), (0, .ref (b 0)), (1, .int x1_143), (2, .int x2_143), (3, .int x3_143), (4, .int x4_143), (5, .int x5_143)]) C0.1 C0.2.1 dX10_command_169 hl (by decide) rfl (fun ls hl => ?_)
                  exact ee_vm C0 hI hr hlocks hf dX10_command_171
                · have hf := (if_pos c_143_2).symm.trans hf
                  exact ee_vm C0 hI hr hlocks hf dX10_command_157
            refine lv_icmp_ne (tgt := 143) C0.1 C0.2.1 dX10_command_127 (by decide) (fun c_124_1 => ?_) (fun c_124_1 => ?_)
            · have hf := (if_neg c_124_1).symm.trans hf
              exact L143 x1_124 x2_124 x3_124 x4_124 x5_124 M hf H locs ls hI (lv_sub hl [0, 1, 2, 3, 4, 5] rfl)
            · have hf := (if_pos c_124_1).symm.trans hf
              refine lv_aload_n C0.1 C0.2.1 dX10_command_130 rfl (lv_at hl 0 rfl) ?_
              refine r_get (C := RX10) (T := TX10) (N9 := 20) (ci := 11) C0 C1 hI iX10 rfl 0 18 (Nat.le_of_ble_eq_true rfl) (by decide) ((fun _ => rfl) _) rfl rfl w_1709 dX10_command_131 ?_
              refine lv_if_ne (tgt := 143) C0.1 C0.2.1 dX10_command_134 (by decide) (fun c_124_2 => ?_) (fun c_124_2 => ?_)
              · have hf := (if_neg c_124_2).symm.trans hf
                exact L143 x1_124 x2_124 x3_124 x4_124 x5_124 M hf H locs ls hI (lv_sub hl [0, 1, 2, 3, 4, 5] rfl)
              · have hf := (if_pos c_124_2).symm.trans hf
                refine lv_aload_n C0.1 C0.2.1 dX10_command_137 rfl (lv_at hl 0 rfl) ?_
                refine lv_iconst (v := 1) C0.1 C0.2.1 dX10_command_138 (by decide) ?_
                obtain ⟨r_124_4, M_124_5, h_124_3, hf⟩ := ob2_some hf
                refine k_i C1 hI (q_V C0 C1 hI 0 (c_X10_digits l g X b H.size n M 1 h_124_3) w_2112 w_2114 w_111 w_132 w_2115 ⟨rfl, rfl⟩ hd_X10_digits ⟨Nat.le_of_ble_eq_true rfl, Nat.le_of_ble_eq_true rfl⟩ (Nat.le_of_ble_eq_true rfl) ((fun _ => rfl) _) rfl rfl rfl hl.1 rfl (Nat.le_of_ble_eq_true rfl) dX10_command_139 ⟨Nat.le_of_ble_eq_true rfl, Nat.le_of_ble_eq_true rfl⟩) (fun H locs hI => ?_)
                refine lv_istore_n (lv' := [(3, .int r_124_4), (0, .ref (b 0)), (1, .int x1_124), (2, .int x2_124), (4, .int x4_124), (5, .int x5_124)]) C0.1 C0.2.1 dX10_command_142 rfl hl (by decide) rfl (fun ls hl => ?_)
                exact L143 x1_124 x2_124 r_124_4 x4_124 x5_124 M_124_5 hf H locs ls hI (lv_sub hl [1, 2, 3, 0, 4, 5] rfl)
          refine lv_if_ne (tgt := 112) C0.1 C0.2.1 dX10_command_103 (by decide) (fun c_76_2 => ?_) (fun c_76_2 => ?_)
          · have hf := (if_neg c_76_2).symm.trans hf
            exact L112 x1_76 x2_76 x3_76 x4_76 x5_76 M hf H locs ls hI (lv_sub hl [0, 1, 2, 3, 4, 5] rfl)
          · have hf := (if_pos c_76_2).symm.trans hf
            refine lv_aload_n C0.1 C0.2.1 dX10_command_106 rfl (lv_at hl 0 rfl) ?_
            refine lv_iconst (v := 2) C0.1 C0.2.1 dX10_command_107 (by decide) ?_
            obtain ⟨r_76_4, M_76_5, h_76_3, hf⟩ := ob2_some hf
            refine k_i C1 hI (q_V C0 C1 hI 0 (c_X10_behind l g X b H.size n M 2 h_76_3) w_2116 w_2118 w_112 w_132 w_2119 ⟨rfl, rfl⟩ hd_X10_behind ⟨Nat.le_of_ble_eq_true rfl, Nat.le_of_ble_eq_true rfl⟩ (Nat.le_of_ble_eq_true rfl) ((fun _ => rfl) _) rfl rfl rfl hl.1 rfl (Nat.le_of_ble_eq_true rfl) dX10_command_108 ⟨Nat.le_of_ble_eq_true rfl, Nat.le_of_ble_eq_true rfl⟩) (fun H locs hI => ?_)
            refine lv_istore_n (lv' := [(2, .int r_76_4), (0, .ref (b 0)), (1, .int x1_76), (3, .int x3_76), (4, .int x4_76), (5, .int x5_76)]) C0.1 C0.2.1 dX10_command_111 rfl hl (by decide) rfl (fun ls hl => ?_)
            exact L112 x1_76 r_76_4 x3_76 x4_76 x5_76 M_76_5 hf H locs ls hI (lv_sub hl [1, 2, 0, 3, 4, 5] rfl)
        · have hf := (if_neg c_76_1).symm.trans hf
          refine lv_iload_n C0.1 C0.2.1 dX10_command_81 rfl (lv_at hl 1 rfl) ?_
          refine lv_bipush (v := 6) C0.1 C0.2.1 dX10_command_82 (by decide) ?_
          have L124 : ∀ (x1_124 : Int32) (x2_124 : Int32) (x3_124 : Int32) (x4_124 : Int32) (x5_124 : Int32) (M : Mem) (_ : F_X10_command_L124 n x1_124 x2_124 x3_124 x4_124 x5_124 M = some M'), ∀ (H : Heap) (locs : List Loc) (ls : Array Slot), PI g X 10 (shM g b) b s M H locs → lv_has ls 7 [(0, .ref (b 0)), (1, .int x1_124), (2, .int x2_124), (3, .int x3_124), (4, .int x4_124), (5, .int x5_124)] → W p l e (rmD 5 0 0) s m ([.ref (b 0)] : List Value).toArray below meth c H locs 0 0 (MQ below (Qv g X 10 (shM g b) b s.heap.size M') ([.ref (b 0)] : List Value).toArray s 0 0 (AA X b 10 s.heap.size)) (F0 m 124 ls []) := by
            intro x1_124 x2_124 x3_124 x4_124 x5_124 M hf H locs ls hI hl
            unfold F_X10_command_L124 at hf
            refine lv_iload_n C0.1 C0.2.1 dX10_command_124 rfl (lv_at hl 1 rfl) ?_
            refine lv_bipush (v := 9) C0.1 C0.2.1 dX10_command_125 (by decide) ?_
            have L143 : ∀ (x1_143 : Int32) (x2_143 : Int32) (x3_143 : Int32) (x4_143 : Int32) (x5_143 : Int32) (M : Mem) (_ : F_X10_command_L143 n x1_143 x2_143 x3_143 x4_143 x5_143 M = some M'), ∀ (H : Heap) (locs : List Loc) (ls : Array Slot), PI g X 10 (shM g b) b s M H locs → lv_has ls 7 [(0, .ref (b 0)), (1, .int x1_143), (2, .int x2_143), (3, .int x3_143), (4, .int x4_143), (5, .int x5_143)] → W p l e (rmD 5 0 0) s m ([.ref (b 0)] : List Value).toArray below meth c H locs 0 0 (MQ below (Qv g X 10 (shM g b) b s.heap.size M') ([.ref (b 0)] : List Value).toArray s 0 0 (AA X b 10 s.heap.size)) (F0 m 143 ls []) := by
              intro x1_143 x2_143 x3_143 x4_143 x5_143 M hf H locs ls hI hl
              unfold F_X10_command_L143 at hf
              refine lv_aload_n C0.1 C0.2.1 dX10_command_143 rfl (lv_at hl 0 rfl) ?_
              refine r_get (C := RX10) (T := TX10) (N9 := 20) (ci := 11) C0 C1 hI iX10 rfl 0 18 (Nat.le_of_ble_eq_true rfl) (by decide) ((fun _ => rfl) _) rfl rfl w_1709 dX10_command_144 ?_
              refine lv_if_ne (tgt := 157) C0.1 C0.2.1 dX10_command_147 (by decide) (fun c_143_1 => ?_) (fun c_143_1 => ?_)
              · have hf := (if_neg c_143_1).symm.trans hf
                exact ee_vm C0 hI hr hlocks hf dX10_command_157
              · have hf := (if_pos c_143_1).symm.trans hf
                refine lv_aload_n C0.1 C0.2.1 dX10_command_150 rfl (lv_at hl 0 rfl) ?_
                refine r_get (C := RX10) (T := TX10) (N9 := 20) (ci := 11) C0 C1 hI iX10 rfl 0 19 (Nat.le_of_ble_eq_true rfl) (by decide) ((fun _ => rfl) _) rfl rfl w_1710 dX10_command_151 ?_
                refine lv_if_ne (tgt := 158) C0.1 C0.2.1 dX10_command_154 (by decide) (fun c_143_2 => ?_) (fun c_143_2 => ?_)
                · have hf := (if_neg c_143_2).symm.trans hf
                  refine lv_aload_n C0.1 C0.2.1 dX10_command_158 rfl (lv_at hl 0 rfl) ?_
                  refine lv_iload_n C0.1 C0.2.1 dX10_command_159 rfl (lv_at hl 1 rfl) ?_
                  refine lv_iload C0.1 C0.2.1 dX10_command_160 (lv_at hl 5 rfl) ?_
                  refine lv_iload_n C0.1 C0.2.1 dX10_command_162 rfl (lv_at hl 2 rfl) ?_
                  refine lv_iload_n C0.1 C0.2.1 dX10_command_163 rfl (lv_at hl 3 rfl) ?_
                  refine lv_iload C0.1 C0.2.1 dX10_command_164 (lv_at hl 4 rfl) ?_
                  obtain ⟨r_143_4, M_143_5, h_143_3, hf⟩ := ob2_some hf
                  refine k_i C1 hI (q_V C0 C1 hI 0 (c_X10_does l g X b H.size n M x1_143 x5_143 x2_143 x3_143 x4_143 h_143_3) w_2128 w_2130 w_115 w_132 w_2131 ⟨rfl, rfl⟩ hd_X10_does ⟨Nat.le_of_ble_eq_true rfl, Nat.le_of_ble_eq_true rfl⟩ (Nat.le_of_ble_eq_true rfl) ((fun _ => rfl) _) rfl rfl rfl hl.1 rfl (Nat.le_of_ble_eq_true rfl) dX10_command_166 ⟨Nat.le_of_ble_eq_true rfl, Nat.le_of_ble_eq_true rfl⟩) (fun H locs hI => ?_)
                  refine lv_istore (lv' := [(6, .int r_143_4), (0, .ref (b 0)), (1, .int x1_143), (2, .int x2_143), (3, .int x3_143), (4, .int x4_143), (5, .int x5_143)]) C0.1 C0.2.1 dX10_command_169 hl (by decide) rfl (fun ls hl => ?_)
                  exact ee_vm C0 hI hr hlocks hf dX10_command_171
                · have hf := (if_pos c_143_2).symm.trans hf
                  exact ee_vm C0 hI hr hlocks hf dX10_command_157
            refine lv_icmp_ne (tgt := 143) C0.1 C0.2.1 dX10_command_127 (by decide) (fun c_124_1 => ?_) (fun c_124_1 => ?_)
            · have hf := (if_neg c_124_1).symm.trans hf
              exact L143 x1_124 x2_124 x3_124 x4_124 x5_124 M hf H locs ls hI (lv_sub hl [0, 1, 2, 3, 4, 5] rfl)
            · have hf := (if_pos c_124_1).symm.trans hf
              refine lv_aload_n C0.1 C0.2.1 dX10_command_130 rfl (lv_at hl 0 rfl) ?_
              refine r_get (C := RX10) (T := TX10) (N9 := 20) (ci := 11) C0 C1 hI iX10 rfl 0 18 (Nat.le_of_ble_eq_true rfl) (by decide) ((fun _ => rfl) _) rfl rfl w_1709 dX10_command_131 ?_
              refine lv_if_ne (tgt := 143) C0.1 C0.2.1 dX10_command_134 (by decide) (fun c_124_2 => ?_) (fun c_124_2 => ?_)
              · have hf := (if_neg c_124_2).symm.trans hf
                exact L143 x1_124 x2_124 x3_124 x4_124 x5_124 M hf H locs ls hI (lv_sub hl [0, 1, 2, 3, 4, 5] rfl)
              · have hf := (if_pos c_124_2).symm.trans hf
                refine lv_aload_n C0.1 C0.2.1 dX10_command_137 rfl (lv_at hl 0 rfl) ?_
                refine lv_iconst (v := 1) C0.1 C0.2.1 dX10_command_138 (by decide) ?_
                obtain ⟨r_124_4, M_124_5, h_124_3, hf⟩ := ob2_some hf
                refine k_i C1 hI (q_V C0 C1 hI 0 (c_X10_digits l g X b H.size n M 1 h_124_3) w_2112 w_2114 w_111 w_132 w_2115 ⟨rfl, rfl⟩ hd_X10_digits ⟨Nat.le_of_ble_eq_true rfl, Nat.le_of_ble_eq_true rfl⟩ (Nat.le_of_ble_eq_true rfl) ((fun _ => rfl) _) rfl rfl rfl hl.1 rfl (Nat.le_of_ble_eq_true rfl) dX10_command_139 ⟨Nat.le_of_ble_eq_true rfl, Nat.le_of_ble_eq_true rfl⟩) (fun H locs hI => ?_)
                refine lv_istore_n (lv' := [(3, .int r_124_4), (0, .ref (b 0)), (1, .int x1_124), (2, .int x2_124), (4, .int x4_124), (5, .int x5_124)]) C0.1 C0.2.1 dX10_command_142 rfl hl (by decide) rfl (fun ls hl => ?_)
                exact L143 x1_124 x2_124 r_124_4 x4_124 x5_124 M_124_5 hf H locs ls hI (lv_sub hl [1, 2, 3, 0, 4, 5] rfl)
          refine lv_icmp_eq (tgt := 99) C0.1 C0.2.1 dX10_command_84 (by decide) (fun c_76_6 => ?_) (fun c_76_6 => ?_)
          · have hf := (if_pos c_76_6).symm.trans hf
            refine lv_aload_n C0.1 C0.2.1 dX10_command_99 rfl (lv_at hl 0 rfl) ?_
            refine r_get (C := RX10) (T := TX10) (N9 := 20) (ci := 11) C0 C1 hI iX10 rfl 0 18 (Nat.le_of_ble_eq_true rfl) (by decide) ((fun _ => rfl) _) rfl rfl w_1709 dX10_command_100 ?_
            have L143 : ∀ (x1_143 : Int32) (x2_143 : Int32) (x3_143 : Int32) (x4_143 : Int32) (x5_143 : Int32) (M : Mem) (_ : F_X10_command_L143 n x1_143 x2_143 x3_143 x4_143 x5_143 M = some M'), ∀ (H : Heap) (locs : List Loc) (ls : Array Slot), PI g X 10 (shM g b) b s M H locs → lv_has ls 7 [(0, .ref (b 0)), (1, .int x1_143), (2, .int x2_143), (3, .int x3_143), (4, .int x4_143), (5, .int x5_143)] → W p l e (rmD 5 0 0) s m ([.ref (b 0)] : List Value).toArray below meth c H locs 0 0 (MQ below (Qv g X 10 (shM g b) b s.heap.size M') ([.ref (b 0)] : List Value).toArray s 0 0 (AA X b 10 s.heap.size)) (F0 m 143 ls []) := by
              intro x1_143 x2_143 x3_143 x4_143 x5_143 M hf H locs ls hI hl
              unfold F_X10_command_L143 at hf
              refine lv_aload_n C0.1 C0.2.1 dX10_command_143 rfl (lv_at hl 0 rfl) ?_
              refine r_get (C := RX10) (T := TX10) (N9 := 20) (ci := 11) C0 C1 hI iX10 rfl 0 18 (Nat.le_of_ble_eq_true rfl) (by decide) ((fun _ => rfl) _) rfl rfl w_1709 dX10_command_144 ?_
              refine lv_if_ne (tgt := 157) C0.1 C0.2.1 dX10_command_147 (by decide) (fun c_143_1 => ?_) (fun c_143_1 => ?_)
              · have hf := (if_neg c_143_1).symm.trans hf
                exact ee_vm C0 hI hr hlocks hf dX10_command_157
              · have hf := (if_pos c_143_1).symm.trans hf
                refine lv_aload_n C0.1 C0.2.1 dX10_command_150 rfl (lv_at hl 0 rfl) ?_
                refine r_get (C := RX10) (T := TX10) (N9 := 20) (ci := 11) C0 C1 hI iX10 rfl 0 19 (Nat.le_of_ble_eq_true rfl) (by decide) ((fun _ => rfl) _) rfl rfl w_1710 dX10_command_151 ?_
                refine lv_if_ne (tgt := 158) C0.1 C0.2.1 dX10_command_154 (by decide) (fun c_143_2 => ?_) (fun c_143_2 => ?_)
                · have hf := (if_neg c_143_2).symm.trans hf
                  refine lv_aload_n C0.1 C0.2.1 dX10_command_158 rfl (lv_at hl 0 rfl) ?_
                  refine lv_iload_n C0.1 C0.2.1 dX10_command_159 rfl (lv_at hl 1 rfl) ?_
                  refine lv_iload C0.1 C0.2.1 dX10_command_160 (lv_at hl 5 rfl) ?_
                  refine lv_iload_n C0.1 C0.2.1 dX10_command_162 rfl (lv_at hl 2 rfl) ?_
                  refine lv_iload_n C0.1 C0.2.1 dX10_command_163 rfl (lv_at hl 3 rfl) ?_
                  refine lv_iload C0.1 C0.2.1 dX10_command_164 (lv_at hl 4 rfl) ?_
                  obtain ⟨r_143_4, M_143_5, h_143_3, hf⟩ := ob2_some hf
                  refine k_i C1 hI (q_V C0 C1 hI 0 (c_X10_does l g X b H.size n M x1_143 x5_143 x2_143 x3_143 x4_143 h_143_3) w_2128 w_2130 w_115 w_132 w_2131 ⟨rfl, rfl⟩ hd_X10_does ⟨Nat.le_of_ble_eq_true rfl, Nat.le_of_ble_eq_true rfl⟩ (Nat.le_of_ble_eq_true rfl) ((fun _ => rfl) _) rfl rfl rfl hl.1 rfl (Nat.le_of_ble_eq_true rfl) dX10_command_166 ⟨Nat.le_of_ble_eq_true rfl, Nat.le_of_ble_eq_true rfl⟩) (fun H locs hI => ?_)
                  refine lv_istore (lv' := [(6, .int r_143_4), (0, .ref (b 0)), (1, .int x1_143), (2, .int x2_143), (3, .int x3_143), (4, .int x4_143), (5, .int x5_143)]) C0.1 C0.2.1 dX10_command_169 hl (by decide) rfl (fun ls hl => ?_)
                  exact ee_vm C0 hI hr hlocks hf dX10_command_171
                · have hf := (if_pos c_143_2).symm.trans hf
                  exact ee_vm C0 hI hr hlocks hf dX10_command_157
            refine lv_if_ne (tgt := 112) C0.1 C0.2.1 dX10_command_103 (by decide) (fun c_76_7 => ?_) (fun c_76_7 => ?_)
            · have hf := (if_neg c_76_7).symm.trans hf
              exact L112 x1_76 x2_76 x3_76 x4_76 x5_76 M hf H locs ls hI (lv_sub hl [0, 1, 2, 3, 4, 5] rfl)
            · have hf := (if_pos c_76_7).symm.trans hf
              refine lv_aload_n C0.1 C0.2.1 dX10_command_106 rfl (lv_at hl 0 rfl) ?_
              refine lv_iconst (v := 2) C0.1 C0.2.1 dX10_command_107 (by decide) ?_
              obtain ⟨r_76_9, M_76_10, h_76_8, hf⟩ := ob2_some hf
              refine k_i C1 hI (q_V C0 C1 hI 0 (c_X10_behind l g X b H.size n M 2 h_76_8) w_2116 w_2118 w_112 w_132 w_2119 ⟨rfl, rfl⟩ hd_X10_behind ⟨Nat.le_of_ble_eq_true rfl, Nat.le_of_ble_eq_true rfl⟩ (Nat.le_of_ble_eq_true rfl) ((fun _ => rfl) _) rfl rfl rfl hl.1 rfl (Nat.le_of_ble_eq_true rfl) dX10_command_108 ⟨Nat.le_of_ble_eq_true rfl, Nat.le_of_ble_eq_true rfl⟩) (fun H locs hI => ?_)
              refine lv_istore_n (lv' := [(2, .int r_76_9), (0, .ref (b 0)), (1, .int x1_76), (3, .int x3_76), (4, .int x4_76), (5, .int x5_76)]) C0.1 C0.2.1 dX10_command_111 rfl hl (by decide) rfl (fun ls hl => ?_)
              exact L112 x1_76 r_76_9 x3_76 x4_76 x5_76 M_76_10 hf H locs ls hI (lv_sub hl [1, 2, 0, 3, 4, 5] rfl)
          · have hf := (if_neg c_76_6).symm.trans hf
            refine lv_iload_n C0.1 C0.2.1 dX10_command_87 rfl (lv_at hl 1 rfl) ?_
            refine lv_bipush (v := 8) C0.1 C0.2.1 dX10_command_88 (by decide) ?_
            have L143 : ∀ (x1_143 : Int32) (x2_143 : Int32) (x3_143 : Int32) (x4_143 : Int32) (x5_143 : Int32) (M : Mem) (_ : F_X10_command_L143 n x1_143 x2_143 x3_143 x4_143 x5_143 M = some M'), ∀ (H : Heap) (locs : List Loc) (ls : Array Slot), PI g X 10 (shM g b) b s M H locs → lv_has ls 7 [(0, .ref (b 0)), (1, .int x1_143), (2, .int x2_143), (3, .int x3_143), (4, .int x4_143), (5, .int x5_143)] → W p l e (rmD 5 0 0) s m ([.ref (b 0)] : List Value).toArray below meth c H locs 0 0 (MQ below (Qv g X 10 (shM g b) b s.heap.size M') ([.ref (b 0)] : List Value).toArray s 0 0 (AA X b 10 s.heap.size)) (F0 m 143 ls []) := by
              intro x1_143 x2_143 x3_143 x4_143 x5_143 M hf H locs ls hI hl
              unfold F_X10_command_L143 at hf
              refine lv_aload_n C0.1 C0.2.1 dX10_command_143 rfl (lv_at hl 0 rfl) ?_
              refine r_get (C := RX10) (T := TX10) (N9 := 20) (ci := 11) C0 C1 hI iX10 rfl 0 18 (Nat.le_of_ble_eq_true rfl) (by decide) ((fun _ => rfl) _) rfl rfl w_1709 dX10_command_144 ?_
              refine lv_if_ne (tgt := 157) C0.1 C0.2.1 dX10_command_147 (by decide) (fun c_143_1 => ?_) (fun c_143_1 => ?_)
              · have hf := (if_neg c_143_1).symm.trans hf
                exact ee_vm C0 hI hr hlocks hf dX10_command_157
              · have hf := (if_pos c_143_1).symm.trans hf
                refine lv_aload_n C0.1 C0.2.1 dX10_command_150 rfl (lv_at hl 0 rfl) ?_
                refine r_get (C := RX10) (T := TX10) (N9 := 20) (ci := 11) C0 C1 hI iX10 rfl 0 19 (Nat.le_of_ble_eq_true rfl) (by decide) ((fun _ => rfl) _) rfl rfl w_1710 dX10_command_151 ?_
                refine lv_if_ne (tgt := 158) C0.1 C0.2.1 dX10_command_154 (by decide) (fun c_143_2 => ?_) (fun c_143_2 => ?_)
                · have hf := (if_neg c_143_2).symm.trans hf
                  refine lv_aload_n C0.1 C0.2.1 dX10_command_158 rfl (lv_at hl 0 rfl) ?_
                  refine lv_iload_n C0.1 C0.2.1 dX10_command_159 rfl (lv_at hl 1 rfl) ?_
                  refine lv_iload C0.1 C0.2.1 dX10_command_160 (lv_at hl 5 rfl) ?_
                  refine lv_iload_n C0.1 C0.2.1 dX10_command_162 rfl (lv_at hl 2 rfl) ?_
                  refine lv_iload_n C0.1 C0.2.1 dX10_command_163 rfl (lv_at hl 3 rfl) ?_
                  refine lv_iload C0.1 C0.2.1 dX10_command_164 (lv_at hl 4 rfl) ?_
                  obtain ⟨r_143_4, M_143_5, h_143_3, hf⟩ := ob2_some hf
                  refine k_i C1 hI (q_V C0 C1 hI 0 (c_X10_does l g X b H.size n M x1_143 x5_143 x2_143 x3_143 x4_143 h_143_3) w_2128 w_2130 w_115 w_132 w_2131 ⟨rfl, rfl⟩ hd_X10_does ⟨Nat.le_of_ble_eq_true rfl, Nat.le_of_ble_eq_true rfl⟩ (Nat.le_of_ble_eq_true rfl) ((fun _ => rfl) _) rfl rfl rfl hl.1 rfl (Nat.le_of_ble_eq_true rfl) dX10_command_166 ⟨Nat.le_of_ble_eq_true rfl, Nat.le_of_ble_eq_true rfl⟩) (fun H locs hI => ?_)
                  refine lv_istore (lv' := [(6, .int r_143_4), (0, .ref (b 0)), (1, .int x1_143), (2, .int x2_143), (3, .int x3_143), (4, .int x4_143), (5, .int x5_143)]) C0.1 C0.2.1 dX10_command_169 hl (by decide) rfl (fun ls hl => ?_)
                  exact ee_vm C0 hI hr hlocks hf dX10_command_171
                · have hf := (if_pos c_143_2).symm.trans hf
                  exact ee_vm C0 hI hr hlocks hf dX10_command_157
            refine lv_icmp_eq (tgt := 99) C0.1 C0.2.1 dX10_command_90 (by decide) (fun c_76_11 => ?_) (fun c_76_11 => ?_)
            · have hf := (if_pos c_76_11).symm.trans hf
              refine lv_aload_n C0.1 C0.2.1 dX10_command_99 rfl (lv_at hl 0 rfl) ?_
              refine r_get (C := RX10) (T := TX10) (N9 := 20) (ci := 11) C0 C1 hI iX10 rfl 0 18 (Nat.le_of_ble_eq_true rfl) (by decide) ((fun _ => rfl) _) rfl rfl w_1709 dX10_command_100 ?_
              refine lv_if_ne (tgt := 112) C0.1 C0.2.1 dX10_command_103 (by decide) (fun c_76_12 => ?_) (fun c_76_12 => ?_)
              · have hf := (if_neg c_76_12).symm.trans hf
                exact L112 x1_76 x2_76 x3_76 x4_76 x5_76 M hf H locs ls hI (lv_sub hl [0, 1, 2, 3, 4, 5] rfl)
              · have hf := (if_pos c_76_12).symm.trans hf
                refine lv_aload_n C0.1 C0.2.1 dX10_command_106 rfl (lv_at hl 0 rfl) ?_
                refine lv_iconst (v := 2) C0.1 C0.2.1 dX10_command_107 (by decide) ?_
                obtain ⟨r_76_14, M_76_15, h_76_13, hf⟩ := ob2_some hf
                refine k_i C1 hI (q_V C0 C1 hI 0 (c_X10_behind l g X b H.size n M 2 h_76_13) w_2116 w_2118 w_112 w_132 w_2119 ⟨rfl, rfl⟩ hd_X10_behind ⟨Nat.le_of_ble_eq_true rfl, Nat.le_of_ble_eq_true rfl⟩ (Nat.le_of_ble_eq_true rfl) ((fun _ => rfl) _) rfl rfl rfl hl.1 rfl (Nat.le_of_ble_eq_true rfl) dX10_command_108 ⟨Nat.le_of_ble_eq_true rfl, Nat.le_of_ble_eq_true rfl⟩) (fun H locs hI => ?_)
                refine lv_istore_n (lv' := [(2, .int r_76_14), (0, .ref (b 0)), (1, .int x1_76), (3, .int x3_76), (4, .int x4_76), (5, .int x5_76)]) C0.1 C0.2.1 dX10_command_111 rfl hl (by decide) rfl (fun ls hl => ?_)
                exact L112 x1_76 r_76_14 x3_76 x4_76 x5_76 M_76_15 hf H locs ls hI (lv_sub hl [1, 2, 0, 3, 4, 5] rfl)
            · have hf := (if_neg c_76_11).symm.trans hf
              refine lv_iload_n C0.1 C0.2.1 dX10_command_93 rfl (lv_at hl 1 rfl) ?_
              refine lv_bipush (v := 9) C0.1 C0.2.1 dX10_command_94 (by decide) ?_
              refine lv_icmp_ne (tgt := 112) C0.1 C0.2.1 dX10_command_96 (by decide) (fun c_76_16 => ?_) (fun c_76_16 => ?_)
              · have hf := (if_neg c_76_16).symm.trans hf
                exact L112 x1_76 x2_76 x3_76 x4_76 x5_76 M hf H locs ls hI (lv_sub hl [0, 1, 2, 3, 4, 5] rfl)
              · have hf := (if_pos c_76_16).symm.trans hf
                refine lv_aload_n C0.1 C0.2.1 dX10_command_99 rfl (lv_at hl 0 rfl) ?_
                refine r_get (C := RX10) (T := TX10) (N9 := 20) (ci := 11) C0 C1 hI iX10 rfl 0 18 (Nat.le_of_ble_eq_true rfl) (by decide) ((fun _ => rfl) _) rfl rfl w_1709 dX10_command_100 ?_
                refine lv_if_ne (tgt := 112) C0.1 C0.2.1 dX10_command_103 (by decide) (fun c_76_17 => ?_) (fun c_76_17 => ?_)
                · have hf := (if_neg c_76_17).symm.trans hf
                  exact L112 x1_76 x2_76 x3_76 x4_76 x5_76 M hf H locs ls hI (lv_sub hl [0, 1, 2, 3, 4, 5] rfl)
                · have hf := (if_pos c_76_17).symm.trans hf
                  refine lv_aload_n C0.1 C0.2.1 dX10_command_106 rfl (lv_at hl 0 rfl) ?_
                  refine lv_iconst (v := 2) C0.1 C0.2.1 dX10_command_107 (by decide) ?_
                  obtain ⟨r_76_19, M_76_20, h_76_18, hf⟩ := ob2_some hf
                  refine k_i C1 hI (q_V C0 C1 hI 0 (c_X10_behind l g X b H.size n M 2 h_76_18) w_2116 w_2118 w_112 w_132 w_2119 ⟨rfl, rfl⟩ hd_X10_behind ⟨Nat.le_of_ble_eq_true rfl, Nat.le_of_ble_eq_true rfl⟩ (Nat.le_of_ble_eq_true rfl) ((fun _ => rfl) _) rfl rfl rfl hl.1 rfl (Nat.le_of_ble_eq_true rfl) dX10_command_108 ⟨Nat.le_of_ble_eq_true rfl, Nat.le_of_ble_eq_true rfl⟩) (fun H locs hI => ?_)
                  refine lv_istore_n (lv' := [(2, .int r_76_19), (0, .ref (b 0)), (1, .int x1_76), (3, .int x3_76), (4, .int x4_76), (5, .int x5_76)]) C0.1 C0.2.1 dX10_command_111 rfl hl (by decide) rfl (fun ls hl => ?_)
                  exact L112 x1_76 r_76_19 x3_76 x4_76 x5_76 M_76_20 hf H locs ls hI (lv_sub hl [1, 2, 0, 3, 4, 5] rfl)
      refine lv_icmp_ne (tgt := 76) C0.1 C0.2.1 dX10_command_60 (by decide) (fun c_58_1 => ?_) (fun c_58_1 => ?_)
      · have hf := (if_neg c_58_1).symm.trans hf
        exact L76 x1_58 x2_58 x3_58 x4_58 x5_58 M hf H locs ls hI (lv_sub hl [0, 1, 2, 3, 4, 5] rfl)
      · have hf := (if_pos c_58_1).symm.trans hf
        refine lv_aload_n C0.1 C0.2.1 dX10_command_63 rfl (lv_at hl 0 rfl) ?_
        refine r_get (C := RX10) (T := TX10) (N9 := 20) (ci := 11) C0 C1 hI iX10 rfl 0 18 (Nat.le_of_ble_eq_true rfl) (by decide) ((fun _ => rfl) _) rfl rfl w_1709 dX10_command_64 ?_
        have L112 : ∀ (x1_112 : Int32) (x2_112 : Int32) (x3_112 : Int32) (x4_112 : Int32) (x5_112 : Int32) (M : Mem) (_ : F_X10_command_L112 n x1_112 x2_112 x3_112 x4_112 x5_112 M = some M'), ∀ (H : Heap) (locs : List Loc) (ls : Array Slot), PI g X 10 (shM g b) b s M H locs → lv_has ls 7 [(0, .ref (b 0)), (1, .int x1_112), (2, .int x2_112), (3, .int x3_112), (4, .int x4_112), (5, .int x5_112)] → W p l e (rmD 5 0 0) s m ([.ref (b 0)] : List Value).toArray below meth c H locs 0 0 (MQ below (Qv g X 10 (shM g b) b s.heap.size M') ([.ref (b 0)] : List Value).toArray s 0 0 (AA X b 10 s.heap.size)) (F0 m 112 ls []) := by
          intro x1_112 x2_112 x3_112 x4_112 x5_112 M hf H locs ls hI hl
          unfold F_X10_command_L112 at hf
          refine lv_iload_n C0.1 C0.2.1 dX10_command_112 rfl (lv_at hl 1 rfl) ?_
          refine lv_bipush (v := 9) C0.1 C0.2.1 dX10_command_113 (by decide) ?_
          have L124 : ∀ (x1_124 : Int32) (x2_124 : Int32) (x3_124 : Int32) (x4_124 : Int32) (x5_124 : Int32) (M : Mem) (_ : F_X10_command_L124 n x1_124 x2_124 x3_124 x4_124 x5_124 M = some M'), ∀ (H : Heap) (locs : List Loc) (ls : Array Slot), PI g X 10 (shM g b) b s M H locs → lv_has ls 7 [(0, .ref (b 0)), (1, .int x1_124), (2, .int x2_124), (3, .int x3_124), (4, .int x4_124), (5, .int x5_124)] → W p l e (rmD 5 0 0) s m ([.ref (b 0)] : List Value).toArray below meth c H locs 0 0 (MQ below (Qv g X 10 (shM g b) b s.heap.size M') ([.ref (b 0)] : List Value).toArray s 0 0 (AA X b 10 s.heap.size)) (F0 m 124 ls []) := by
            intro x1_124 x2_124 x3_124 x4_124 x5_124 M hf H locs ls hI hl
            unfold F_X10_command_L124 at hf
            refine lv_iload_n C0.1 C0.2.1 dX10_command_124 rfl (lv_at hl 1 rfl) ?_
            refine lv_bipush (v := 9) C0.1 C0.2.1 dX10_command_125 (by decide) ?_
            have L143 : ∀ (x1_143 : Int32) (x2_143 : Int32) (x3_143 : Int32) (x4_143 : Int32) (x5_143 : Int32) (M : Mem) (_ : F_X10_command_L143 n x1_143 x2_143 x3_143 x4_143 x5_143 M = some M'), ∀ (H : Heap) (locs : List Loc) (ls : Array Slot), PI g X 10 (shM g b) b s M H locs → lv_has ls 7 [(0, .ref (b 0)), (1, .int x1_143), (2, .int x2_143), (3, .int x3_143), (4, .int x4_143), (5, .int x5_143)] → W p l e (rmD 5 0 0) s m ([.ref (b 0)] : List Value).toArray below meth c H locs 0 0 (MQ below (Qv g X 10 (shM g b) b s.heap.size M') ([.ref (b 0)] : List Value).toArray s 0 0 (AA X b 10 s.heap.size)) (F0 m 143 ls []) := by
              intro x1_143 x2_143 x3_143 x4_143 x5_143 M hf H locs ls hI hl
              unfold F_X10_command_L143 at hf
              refine lv_aload_n C0.1 C0.2.1 dX10_command_143 rfl (lv_at hl 0 rfl) ?_
              refine r_get (C := RX10) (T := TX10) (N9 := 20) (ci := 11) C0 C1 hI iX10 rfl 0 18 (Nat.le_of_ble_eq_true rfl) (by decide) ((fun _ => rfl) _) rfl rfl w_1709 dX10_command_144 ?_
              refine lv_if_ne (tgt := 157) C0.1 C0.2.1 dX10_command_147 (by decide) (fun c_143_1 => ?_) (fun c_143_1 => ?_)
              · have hf := (if_neg c_143_1).symm.trans hf
                exact ee_vm C0 hI hr hlocks hf dX10_command_157
              · have hf := (if_pos c_143_1).symm.trans hf
                refine lv_aload_n C0.1 C0.2.1 dX10_command_150 rfl (lv_at hl 0 rfl) ?_
                refine r_get (C := RX10) (T := TX10) (N9 := 20) (ci := 11) C0 C1 hI iX10 rfl 0 19 (Nat.le_of_ble_eq_true rfl) (by decide) ((fun _ => rfl) _) rfl rfl w_1710 dX10_command_151 ?_
                refine lv_if_ne (tgt := 158) C0.1 C0.2.1 dX10_command_154 (by decide) (fun c_143_2 => ?_) (fun c_143_2 => ?_)
                · have hf := (if_neg c_143_2).symm.trans hf
                  refine lv_aload_n C0.1 C0.2.1 dX10_command_158 rfl (lv_at hl 0 rfl) ?_
                  refine lv_iload_n C0.1 C0.2.1 dX10_command_159 rfl (lv_at hl 1 rfl) ?_
                  refine lv_iload C0.1 C0.2.1 dX10_command_160 (lv_at hl 5 rfl) ?_
                  refine lv_iload_n C0.1 C0.2.1 dX10_command_162 rfl (lv_at hl 2 rfl) ?_
                  refine lv_iload_n C0.1 C0.2.1 dX10_command_163 rfl (lv_at hl 3 rfl) ?_
                  refine lv_iload C0.1 C0.2.1 dX10_command_164 (lv_at hl 4 rfl) ?_
                  obtain ⟨r_143_4, M_143_5, h_143_3, hf⟩ := ob2_some hf
                  refine k_i C1 hI (q_V C0 C1 hI 0 (c_X10_does l g X b H.size n M x1_143 x5_143 x2_143 x3_143 x4_143 h_143_3) w_2128 w_2130 w_115 w_132 w_2131 ⟨rfl, rfl⟩ hd_X10_does ⟨Nat.le_of_ble_eq_true rfl, Nat.le_of_ble_eq_true rfl⟩ (Nat.le_of_ble_eq_true rfl) ((fun _ => rfl) _) rfl rfl rfl hl.1 rfl (Nat.le_of_ble_eq_true rfl) dX10_command_166 ⟨Nat.le_of_ble_eq_true rfl, Nat.le_of_ble_eq_true rfl⟩) (fun H locs hI => ?_)
                  refine lv_istore (lv' := [(6, .int r_143_4), (0, .ref (b 0)), (1, .int x1_143), (2, .int x2_143), (3, .int x3_143), (4, .int x4_143), (5, .int x5_143)]) C0.1 C0.2.1 dX10_command_169 hl (by decide) rfl (fun ls hl => ?_)
                  exact ee_vm C0 hI hr hlocks hf dX10_command_171
                · have hf := (if_pos c_143_2).symm.trans hf
                  exact ee_vm C0 hI hr hlocks hf dX10_command_157
            refine lv_icmp_ne (tgt := 143) C0.1 C0.2.1 dX10_command_127 (by decide) (fun c_124_1 => ?_) (fun c_124_1 => ?_)
            · have hf := (if_neg c_124_1).symm.trans hf
              exact L143 x1_124 x2_124 x3_124 x4_124 x5_124 M hf H locs ls hI (lv_sub hl [0, 1, 2, 3, 4, 5] rfl)
            · have hf := (if_pos c_124_1).symm.trans hf
              refine lv_aload_n C0.1 C0.2.1 dX10_command_130 rfl (lv_at hl 0 rfl) ?_
              refine r_get (C := RX10) (T := TX10) (N9 := 20) (ci := 11) C0 C1 hI iX10 rfl 0 18 (Nat.le_of_ble_eq_true rfl) (by decide) ((fun _ => rfl) _) rfl rfl w_1709 dX10_command_131 ?_
              refine lv_if_ne (tgt := 143) C0.1 C0.2.1 dX10_command_134 (by decide) (fun c_124_2 => ?_) (fun c_124_2 => ?_)
              · have hf := (if_neg c_124_2).symm.trans hf
                exact L143 x1_124 x2_124 x3_124 x4_124 x5_124 M hf H locs ls hI (lv_sub hl [0, 1, 2, 3, 4, 5] rfl)
              · have hf := (if_pos c_124_2).symm.trans hf
                refine lv_aload_n C0.1 C0.2.1 dX10_command_137 rfl (lv_at hl 0 rfl) ?_
                refine lv_iconst (v := 1) C0.1 C0.2.1 dX10_command_138 (by decide) ?_
                obtain ⟨r_124_4, M_124_5, h_124_3, hf⟩ := ob2_some hf
                refine k_i C1 hI (q_V C0 C1 hI 0 (c_X10_digits l g X b H.size n M 1 h_124_3) w_2112 w_2114 w_111 w_132 w_2115 ⟨rfl, rfl⟩ hd_X10_digits ⟨Nat.le_of_ble_eq_true rfl, Nat.le_of_ble_eq_true rfl⟩ (Nat.le_of_ble_eq_true rfl) ((fun _ => rfl) _) rfl rfl rfl hl.1 rfl (Nat.le_of_ble_eq_true rfl) dX10_command_139 ⟨Nat.le_of_ble_eq_true rfl, Nat.le_of_ble_eq_true rfl⟩) (fun H locs hI => ?_)
                refine lv_istore_n (lv' := [(3, .int r_124_4), (0, .ref (b 0)), (1, .int x1_124), (2, .int x2_124), (4, .int x4_124), (5, .int x5_124)]) C0.1 C0.2.1 dX10_command_142 rfl hl (by decide) rfl (fun ls hl => ?_)
                exact L143 x1_124 x2_124 r_124_4 x4_124 x5_124 M_124_5 hf H locs ls hI (lv_sub hl [1, 2, 3, 0, 4, 5] rfl)
          refine lv_icmp_ne (tgt := 124) C0.1 C0.2.1 dX10_command_115 (by decide) (fun c_112_1 => ?_) (fun c_112_1 => ?_)
          · have hf := (if_neg c_112_1).symm.trans hf
            exact L124 x1_112 x2_112 x3_112 x4_112 x5_112 M hf H locs ls hI (lv_sub hl [0, 1, 2, 3, 4, 5] rfl)
          · have hf := (if_pos c_112_1).symm.trans hf
            refine lv_aload_n C0.1 C0.2.1 dX10_command_118 rfl (lv_at hl 0 rfl) ?_
            obtain ⟨r_112_3, M_112_4, h_112_2, hf⟩ := ob2_some hf
            refine k_i C1 hI (q_V C0 C1 hI 0 (c_X10_plus l g X b H.size n M h_112_2) w_2124 w_2126 w_114 w_132 w_2127 ⟨rfl, rfl⟩ hd_X10_plus ⟨Nat.le_of_ble_eq_true rfl, Nat.le_of_ble_eq_true rfl⟩ (Nat.le_of_ble_eq_true rfl) ((fun _ => rfl) _) rfl rfl rfl hl.1 rfl (Nat.le_of_ble_eq_true rfl) dX10_command_119 ⟨Nat.le_of_ble_eq_true rfl, Nat.le_of_ble_eq_true rfl⟩) (fun H locs hI => ?_)
            refine lv_istore (lv' := [(4, .int r_112_3), (0, .ref (b 0)), (1, .int x1_112), (2, .int x2_112), (3, .int x3_112), (5, .int x5_112)]) C0.1 C0.2.1 dX10_command_122 hl (by decide) rfl (fun ls hl => ?_)
            exact L124 x1_112 x2_112 x3_112 r_112_3 x5_112 M_112_4 hf H locs ls hI (lv_sub hl [1, 2, 3, 4, 0, 5] rfl)
        refine lv_if_ne (tgt := 76) C0.1 C0.2.1 dX10_command_67 (by decide) (fun c_58_2 => ?_) (fun c_58_2 => ?_)
        · have hf := (if_neg c_58_2).symm.trans hf
          exact L76 x1_58 x2_58 x3_58 x4_58 x5_58 M hf H locs ls hI (lv_sub hl [0, 1, 2, 3, 4, 5] rfl)
        · have hf := (if_pos c_58_2).symm.trans hf
          refine lv_aload_n C0.1 C0.2.1 dX10_command_70 rfl (lv_at hl 0 rfl) ?_
          refine lv_iconst (v := 1) C0.1 C0.2.1 dX10_command_71 (by decide) ?_
          obtain ⟨r_58_4, M_58_5, h_58_3, hf⟩ := ob2_some hf
          refine k_i C1 hI (q_V C0 C1 hI 0 (c_X10_behind l g X b H.size n M 1 h_58_3) w_2116 w_2118 w_112 w_132 w_2119 ⟨rfl, rfl⟩ hd_X10_behind ⟨Nat.le_of_ble_eq_true rfl, Nat.le_of_ble_eq_true rfl⟩ (Nat.le_of_ble_eq_true rfl) ((fun _ => rfl) _) rfl rfl rfl hl.1 rfl (Nat.le_of_ble_eq_true rfl) dX10_command_72 ⟨Nat.le_of_ble_eq_true rfl, Nat.le_of_ble_eq_true rfl⟩) (fun H locs hI => ?_)
          refine lv_istore_n (lv' := [(2, .int r_58_4), (0, .ref (b 0)), (1, .int x1_58), (3, .int x3_58), (4, .int x4_58), (5, .int x5_58)]) C0.1 C0.2.1 dX10_command_75 rfl hl (by decide) rfl (fun ls hl => ?_)
          exact L76 x1_58 r_58_4 x3_58 x4_58 x5_58 M_58_5 hf H locs ls hI (lv_sub hl [1, 2, 0, 3, 4, 5] rfl)
    refine lv_if_ne (tgt := 58) C0.1 C0.2.1 dX10_command_42 (by decide) (fun c_41_1 => ?_) (fun c_41_1 => ?_)
    · have hf := (if_neg c_41_1).symm.trans hf
      exact L58 x1_41 x2_41 x3_41 x4_41 x5_41 M hf H locs ls hI (lv_sub hl [0, 1, 2, 3, 4, 5] rfl)
    · have hf := (if_pos c_41_1).symm.trans hf
      refine lv_aload_n C0.1 C0.2.1 dX10_command_45 rfl (lv_at hl 0 rfl) ?_
      refine r_get (C := RX10) (T := TX10) (N9 := 20) (ci := 11) C0 C1 hI iX10 rfl 0 18 (Nat.le_of_ble_eq_true rfl) (by decide) ((fun _ => rfl) _) rfl rfl w_1709 dX10_command_46 ?_
      have L76 : ∀ (x1_76 : Int32) (x2_76 : Int32) (x3_76 : Int32) (x4_76 : Int32) (x5_76 : Int32) (M : Mem) (_ : F_X10_command_L76 n x1_76 x2_76 x3_76 x4_76 x5_76 M = some M'), ∀ (H : Heap) (locs : List Loc) (ls : Array Slot), PI g X 10 (shM g b) b s M H locs → lv_has ls 7 [(0, .ref (b 0)), (1, .int x1_76), (2, .int x2_76), (3, .int x3_76), (4, .int x4_76), (5, .int x5_76)] → W p l e (rmD 5 0 0) s m ([.ref (b 0)] : List Value).toArray below meth c H locs 0 0 (MQ below (Qv g X 10 (shM g b) b s.heap.size M') ([.ref (b 0)] : List Value).toArray s 0 0 (AA X b 10 s.heap.size)) (F0 m 76 ls []) := by
        intro x1_76 x2_76 x3_76 x4_76 x5_76 M hf H locs ls hI hl
        unfold F_X10_command_L76 at hf
        refine lv_iload_n C0.1 C0.2.1 dX10_command_76 rfl (lv_at hl 1 rfl) ?_
        refine lv_iconst (v := 5) C0.1 C0.2.1 dX10_command_77 (by decide) ?_
        have L112 : ∀ (x1_112 : Int32) (x2_112 : Int32) (x3_112 : Int32) (x4_112 : Int32) (x5_112 : Int32) (M : Mem) (_ : F_X10_command_L112 n x1_112 x2_112 x3_112 x4_112 x5_112 M = some M'), ∀ (H : Heap) (locs : List Loc) (ls : Array Slot), PI g X 10 (shM g b) b s M H locs → lv_has ls 7 [(0, .ref (b 0)), (1, .int x1_112), (2, .int x2_112), (3, .int x3_112), (4, .int x4_112), (5, .int x5_112)] → W p l e (rmD 5 0 0) s m ([.ref (b 0)] : List Value).toArray below meth c H locs 0 0 (MQ below (Qv g X 10 (shM g b) b s.heap.size M') ([.ref (b 0)] : List Value).toArray s 0 0 (AA X b 10 s.heap.size)) (F0 m 112 ls []) := by
          intro x1_112 x2_112 x3_112 x4_112 x5_112 M hf H locs ls hI hl
          unfold F_X10_command_L112 at hf
          refine lv_iload_n C0.1 C0.2.1 dX10_command_112 rfl (lv_at hl 1 rfl) ?_
          refine lv_bipush (v := 9) C0.1 C0.2.1 dX10_command_113 (by decide) ?_
          have L124 : ∀ (x1_124 : Int32) (x2_124 : Int32) (x3_124 : Int32) (x4_124 : Int32) (x5_124 : Int32) (M : Mem) (_ : F_X10_command_L124 n x1_124 x2_124 x3_124 x4_124 x5_124 M = some M'), ∀ (H : Heap) (locs : List Loc) (ls : Array Slot), PI g X 10 (shM g b) b s M H locs → lv_has ls 7 [(0, .ref (b 0)), (1, .int x1_124), (2, .int x2_124), (3, .int x3_124), (4, .int x4_124), (5, .int x5_124)] → W p l e (rmD 5 0 0) s m ([.ref (b 0)] : List Value).toArray below meth c H locs 0 0 (MQ below (Qv g X 10 (shM g b) b s.heap.size M') ([.ref (b 0)] : List Value).toArray s 0 0 (AA X b 10 s.heap.size)) (F0 m 124 ls []) := by
            intro x1_124 x2_124 x3_124 x4_124 x5_124 M hf H locs ls hI hl
            unfold F_X10_command_L124 at hf
            refine lv_iload_n C0.1 C0.2.1 dX10_command_124 rfl (lv_at hl 1 rfl) ?_
            refine lv_bipush (v := 9) C0.1 C0.2.1 dX10_command_125 (by decide) ?_
            have L143 : ∀ (x1_143 : Int32) (x2_143 : Int32) (x3_143 : Int32) (x4_143 : Int32) (x5_143 : Int32) (M : Mem) (_ : F_X10_command_L143 n x1_143 x2_143 x3_143 x4_143 x5_143 M = some M'), ∀ (H : Heap) (locs : List Loc) (ls : Array Slot), PI g X 10 (shM g b) b s M H locs → lv_has ls 7 [(0, .ref (b 0)), (1, .int x1_143), (2, .int x2_143), (3, .int x3_143), (4, .int x4_143), (5, .int x5_143)] → W p l e (rmD 5 0 0) s m ([.ref (b 0)] : List Value).toArray below meth c H locs 0 0 (MQ below (Qv g X 10 (shM g b) b s.heap.size M') ([.ref (b 0)] : List Value).toArray s 0 0 (AA X b 10 s.heap.size)) (F0 m 143 ls []) := by
              intro x1_143 x2_143 x3_143 x4_143 x5_143 M hf H locs ls hI hl
              unfold F_X10_command_L143 at hf
              refine lv_aload_n C0.1 C0.2.1 dX10_command_143 rfl (lv_at hl 0 rfl) ?_
              refine r_get (C := RX10) (T := TX10) (N9 := 20) (ci := 11) C0 C1 hI iX10 rfl 0 18 (Nat.le_of_ble_eq_true rfl) (by decide) ((fun _ => rfl) _) rfl rfl w_1709 dX10_command_144 ?_
              refine lv_if_ne (tgt := 157) C0.1 C0.2.1 dX10_command_147 (by decide) (fun c_143_1 => ?_) (fun c_143_1 => ?_)
              · have hf := (if_neg c_143_1).symm.trans hf
                exact ee_vm C0 hI hr hlocks hf dX10_command_157
              · have hf := (if_pos c_143_1).symm.trans hf
                refine lv_aload_n C0.1 C0.2.1 dX10_command_150 rfl (lv_at hl 0 rfl) ?_
                refine r_get (C := RX10) (T := TX10) (N9 := 20) (ci := 11) C0 C1 hI iX10 rfl 0 19 (Nat.le_of_ble_eq_true rfl) (by decide) ((fun _ => rfl) _) rfl rfl w_1710 dX10_command_151 ?_
                refine lv_if_ne (tgt := 158) C0.1 C0.2.1 dX10_command_154 (by decide) (fun c_143_2 => ?_) (fun c_143_2 => ?_)
                · have hf := (if_neg c_143_2).symm.trans hf
                  refine lv_aload_n C0.1 C0.2.1 dX10_command_158 rfl (lv_at hl 0 rfl) ?_
                  refine lv_iload_n C0.1 C0.2.1 dX10_command_159 rfl (lv_at hl 1 rfl) ?_
                  refine lv_iload C0.1 C0.2.1 dX10_command_160 (lv_at hl 5 rfl) ?_
                  refine lv_iload_n C0.1 C0.2.1 dX10_command_162 rfl (lv_at hl 2 rfl) ?_
                  refine lv_iload_n C0.1 C0.2.1 dX10_command_163 rfl (lv_at hl 3 rfl) ?_
                  refine lv_iload C0.1 C0.2.1 dX10_command_164 (lv_at hl 4 rfl) ?_
                  obtain ⟨r_143_4, M_143_5, h_143_3, hf⟩ := ob2_some hf
                  refine k_i C1 hI (q_V C0 C1 hI 0 (c_X10_does l g X b H.size n M x1_143 x5_143 x2_143 x3_143 x4_143 h_143_3) w_2128 w_2130 w_115 w_132 w_2131 ⟨rfl, rfl⟩ hd_X10_does ⟨Nat.le_of_ble_eq_true rfl, Nat.le_of_ble_eq_true rfl⟩ (Nat.le_of_ble_eq_true rfl) ((fun _ => rfl) _) rfl rfl rfl hl.1 rfl (Nat.le_of_ble_eq_true rfl) dX10_command_166 ⟨Nat.le_of_ble_eq_true rfl, Nat.le_of_ble_eq_true rfl⟩) (fun H locs hI => ?_)
                  refine lv_istore (lv' := [(6, .int r_143_4), (0, .ref (b 0)), (1, .int x1_143), (2, .int x2_143), (3, .int x3_143), (4, .int x4_143), (5, .int x5_143)]) C0.1 C0.2.1 dX10_command_169 hl (by decide) rfl (fun ls hl => ?_)
                  exact ee_vm C0 hI hr hlocks hf dX10_command_171
                · have hf := (if_pos c_143_2).symm.trans hf
                  exact ee_vm C0 hI hr hlocks hf dX10_command_157
            refine lv_icmp_ne (tgt := 143) C0.1 C0.2.1 dX10_command_127 (by decide) (fun c_124_1 => ?_) (fun c_124_1 => ?_)
            · have hf := (if_neg c_124_1).symm.trans hf
              exact L143 x1_124 x2_124 x3_124 x4_124 x5_124 M hf H locs ls hI (lv_sub hl [0, 1, 2, 3, 4, 5] rfl)
            · have hf := (if_pos c_124_1).symm.trans hf
              refine lv_aload_n C0.1 C0.2.1 dX10_command_130 rfl (lv_at hl 0 rfl) ?_
              refine r_get (C := RX10) (T := TX10) (N9 := 20) (ci := 11) C0 C1 hI iX10 rfl 0 18 (Nat.le_of_ble_eq_true rfl) (by decide) ((fun _ => rfl) _) rfl rfl w_1709 dX10_command_131 ?_
              refine lv_if_ne (tgt := 143) C0.1 C0.2.1 dX10_command_134 (by decide) (fun c_124_2 => ?_) (fun c_124_2 => ?_)
              · have hf := (if_neg c_124_2).symm.trans hf
                exact L143 x1_124 x2_124 x3_124 x4_124 x5_124 M hf H locs ls hI (lv_sub hl [0, 1, 2, 3, 4, 5] rfl)
              · have hf := (if_pos c_124_2).symm.trans hf
                refine lv_aload_n C0.1 C0.2.1 dX10_command_137 rfl (lv_at hl 0 rfl) ?_
                refine lv_iconst (v := 1) C0.1 C0.2.1 dX10_command_138 (by decide) ?_
                obtain ⟨r_124_4, M_124_5, h_124_3, hf⟩ := ob2_some hf
                refine k_i C1 hI (q_V C0 C1 hI 0 (c_X10_digits l g X b H.size n M 1 h_124_3) w_2112 w_2114 w_111 w_132 w_2115 ⟨rfl, rfl⟩ hd_X10_digits ⟨Nat.le_of_ble_eq_true rfl, Nat.le_of_ble_eq_true rfl⟩ (Nat.le_of_ble_eq_true rfl) ((fun _ => rfl) _) rfl rfl rfl hl.1 rfl (Nat.le_of_ble_eq_true rfl) dX10_command_139 ⟨Nat.le_of_ble_eq_true rfl, Nat.le_of_ble_eq_true rfl⟩) (fun H locs hI => ?_)
                refine lv_istore_n (lv' := [(3, .int r_124_4), (0, .ref (b 0)), (1, .int x1_124), (2, .int x2_124), (4, .int x4_124), (5, .int x5_124)]) C0.1 C0.2.1 dX10_command_142 rfl hl (by decide) rfl (fun ls hl => ?_)
                exact L143 x1_124 x2_124 r_124_4 x4_124 x5_124 M_124_5 hf H locs ls hI (lv_sub hl [1, 2, 3, 0, 4, 5] rfl)
          refine lv_icmp_ne (tgt := 124) C0.1 C0.2.1 dX10_command_115 (by decide) (fun c_112_1 => ?_) (fun c_112_1 => ?_)
          · have hf := (if_neg c_112_1).symm.trans hf
            exact L124 x1_112 x2_112 x3_112 x4_112 x5_112 M hf H locs ls hI (lv_sub hl [0, 1, 2, 3, 4, 5] rfl)
          · have hf := (if_pos c_112_1).symm.trans hf
            refine lv_aload_n C0.1 C0.2.1 dX10_command_118 rfl (lv_at hl 0 rfl) ?_
            obtain ⟨r_112_3, M_112_4, h_112_2, hf⟩ := ob2_some hf
            refine k_i C1 hI (q_V C0 C1 hI 0 (c_X10_plus l g X b H.size n M h_112_2) w_2124 w_2126 w_114 w_132 w_2127 ⟨rfl, rfl⟩ hd_X10_plus ⟨Nat.le_of_ble_eq_true rfl, Nat.le_of_ble_eq_true rfl⟩ (Nat.le_of_ble_eq_true rfl) ((fun _ => rfl) _) rfl rfl rfl hl.1 rfl (Nat.le_of_ble_eq_true rfl) dX10_command_119 ⟨Nat.le_of_ble_eq_true rfl, Nat.le_of_ble_eq_true rfl⟩) (fun H locs hI => ?_)
            refine lv_istore (lv' := [(4, .int r_112_3), (0, .ref (b 0)), (1, .int x1_112), (2, .int x2_112), (3, .int x3_112), (5, .int x5_112)]) C0.1 C0.2.1 dX10_command_122 hl (by decide) rfl (fun ls hl => ?_)
            exact L124 x1_112 x2_112 x3_112 r_112_3 x5_112 M_112_4 hf H locs ls hI (lv_sub hl [1, 2, 3, 4, 0, 5] rfl)
        refine lv_icmp_eq (tgt := 99) C0.1 C0.2.1 dX10_command_78 (by decide) (fun c_76_1 => ?_) (fun c_76_1 => ?_)
        · have hf := (if_pos c_76_1).symm.trans hf
          refine lv_aload_n C0.1 C0.2.1 dX10_command_99 rfl (lv_at hl 0 rfl) ?_
          refine r_get (C := RX10) (T := TX10) (N9 := 20) (ci := 11) C0 C1 hI iX10 rfl 0 18 (Nat.le_of_ble_eq_true rfl) (by decide) ((fun _ => rfl) _) rfl rfl w_1709 dX10_command_100 ?_
          have L124 : ∀ (x1_124 : Int32) (x2_124 : Int32) (x3_124 : Int32) (x4_124 : Int32) (x5_124 : Int32) (M : Mem) (_ : F_X10_command_L124 n x1_124 x2_124 x3_124 x4_124 x5_124 M = some M'), ∀ (H : Heap) (locs : List Loc) (ls : Array Slot), PI g X 10 (shM g b) b s M H locs → lv_has ls 7 [(0, .ref (b 0)), (1, .int x1_124), (2, .int x2_124), (3, .int x3_124), (4, .int x4_124), (5, .int x5_124)] → W p l e (rmD 5 0 0) s m ([.ref (b 0)] : List Value).toArray below meth c H locs 0 0 (MQ below (Qv g X 10 (shM g b) b s.heap.size M') ([.ref (b 0)] : List Value).toArray s 0 0 (AA X b 10 s.heap.size)) (F0 m 124 ls []) := by
            intro x1_124 x2_124 x3_124 x4_124 x5_124 M hf H locs ls hI hl
            unfold F_X10_command_L124 at hf
            refine lv_iload_n C0.1 C0.2.1 dX10_command_124 rfl (lv_at hl 1 rfl) ?_
            refine lv_bipush (v := 9) C0.1 C0.2.1 dX10_command_125 (by decide) ?_
            have L143 : ∀ (x1_143 : Int32) (x2_143 : Int32) (x3_143 : Int32) (x4_143 : Int32) (x5_143 : Int32) (M : Mem) (_ : F_X10_command_L143 n x1_143 x2_143 x3_143 x4_143 x5_143 M = some M'), ∀ (H : Heap) (locs : List Loc) (ls : Array Slot), PI g X 10 (shM g b) b s M H locs → lv_has ls 7 [(0, .ref (b 0)), (1, .int x1_143), (2, .int x2_143), (3, .int x3_143), (4, .int x4_143), (5, .int x5_143)] → W p l e (rmD 5 0 0) s m ([.ref (b 0)] : List Value).toArray below meth c H locs 0 0 (MQ below (Qv g X 10 (shM g b) b s.heap.size M') ([.ref (b 0)] : List Value).toArray s 0 0 (AA X b 10 s.heap.size)) (F0 m 143 ls []) := by
              intro x1_143 x2_143 x3_143 x4_143 x5_143 M hf H locs ls hI hl
              unfold F_X10_command_L143 at hf
              refine lv_aload_n C0.1 C0.2.1 dX10_command_143 rfl (lv_at hl 0 rfl) ?_
              refine r_get (C := RX10) (T := TX10) (N9 := 20) (ci := 11) C0 C1 hI iX10 rfl 0 18 (Nat.le_of_ble_eq_true rfl) (by decide) ((fun _ => rfl) _) rfl rfl w_1709 dX10_command_144 ?_
              refine lv_if_ne (tgt := 157) C0.1 C0.2.1 dX10_command_147 (by decide) (fun c_143_1 => ?_) (fun c_143_1 => ?_)
              · have hf := (if_neg c_143_1).symm.trans hf
                exact ee_vm C0 hI hr hlocks hf dX10_command_157
              · have hf := (if_pos c_143_1).symm.trans hf
                refine lv_aload_n C0.1 C0.2.1 dX10_command_150 rfl (lv_at hl 0 rfl) ?_
                refine r_get (C := RX10) (T := TX10) (N9 := 20) (ci := 11) C0 C1 hI iX10 rfl 0 19 (Nat.le_of_ble_eq_true rfl) (by decide) ((fun _ => rfl) _) rfl rfl w_1710 dX10_command_151 ?_
                refine lv_if_ne (tgt := 158) C0.1 C0.2.1 dX10_command_154 (by decide) (fun c_143_2 => ?_) (fun c_143_2 => ?_)
                · have hf := (if_neg c_143_2).symm.trans hf
                  refine lv_aload_n C0.1 C0.2.1 dX10_command_158 rfl (lv_at hl 0 rfl) ?_
                  refine lv_iload_n C0.1 C0.2.1 dX10_command_159 rfl (lv_at hl 1 rfl) ?_
                  refine lv_iload C0.1 C0.2.1 dX10_command_160 (lv_at hl 5 rfl) ?_
                  refine lv_iload_n C0.1 C0.2.1 dX10_command_162 rfl (lv_at hl 2 rfl) ?_
                  refine lv_iload_n C0.1 C0.2.1 dX10_command_163 rfl (lv_at hl 3 rfl) ?_
                  refine lv_iload C0.1 C0.2.1 dX10_command_164 (lv_at hl 4 rfl) ?_
                  obtain ⟨r_143_4, M_143_5, h_143_3, hf⟩ := ob2_some hf
                  refine k_i C1 hI (q_V C0 C1 hI 0 (c_X10_does l g X b H.size n M x1_143 x5_143 x2_143 x3_143 x4_143 h_143_3) w_2128 w_2130 w_115 w_132 w_2131 ⟨rfl, rfl⟩ hd_X10_does ⟨Nat.le_of_ble_eq_true rfl, Nat.le_of_ble_eq_true rfl⟩ (Nat.le_of_ble_eq_true rfl) ((fun _ => rfl) _) rfl rfl rfl hl.1 rfl (Nat.le_of_ble_eq_true rfl) dX10_command_166 ⟨Nat.le_of_ble_eq_true rfl, Nat.le_of_ble_eq_true rfl⟩) (fun H locs hI => ?_)
                  refine lv_istore (lv' := [(6, .int r_143_4), (0, .ref (b 0)), (1, .int x1_143), (2, .int x2_143), (3, .int x3_143), (4, .int x4_143), (5, .int x5_143)]) C0.1 C0.2.1 dX10_command_169 hl (by decide) rfl (fun ls hl => ?_)
                  exact ee_vm C0 hI hr hlocks hf dX10_command_171
                · have hf := (if_pos c_143_2).symm.trans hf
                  exact ee_vm C0 hI hr hlocks hf dX10_command_157
            refine lv_icmp_ne (tgt := 143) C0.1 C0.2.1 dX10_command_127 (by decide) (fun c_124_1 => ?_) (fun c_124_1 => ?_)
            · have hf := (if_neg c_124_1).symm.trans hf
              exact L143 x1_124 x2_124 x3_124 x4_124 x5_124 M hf H locs ls hI (lv_sub hl [0, 1, 2, 3, 4, 5] rfl)
            · have hf := (if_pos c_124_1).symm.trans hf
              refine lv_aload_n C0.1 C0.2.1 dX10_command_130 rfl (lv_at hl 0 rfl) ?_
              refine r_get (C := RX10) (T := TX10) (N9 := 20) (ci := 11) C0 C1 hI iX10 rfl 0 18 (Nat.le_of_ble_eq_true rfl) (by decide) ((fun _ => rfl) _) rfl rfl w_1709 dX10_command_131 ?_
              refine lv_if_ne (tgt := 143) C0.1 C0.2.1 dX10_command_134 (by decide) (fun c_124_2 => ?_) (fun c_124_2 => ?_)
              · have hf := (if_neg c_124_2).symm.trans hf
                exact L143 x1_124 x2_124 x3_124 x4_124 x5_124 M hf H locs ls hI (lv_sub hl [0, 1, 2, 3, 4, 5] rfl)
              · have hf := (if_pos c_124_2).symm.trans hf
                refine lv_aload_n C0.1 C0.2.1 dX10_command_137 rfl (lv_at hl 0 rfl) ?_
                refine lv_iconst (v := 1) C0.1 C0.2.1 dX10_command_138 (by decide) ?_
                obtain ⟨r_124_4, M_124_5, h_124_3, hf⟩ := ob2_some hf
                refine k_i C1 hI (q_V C0 C1 hI 0 (c_X10_digits l g X b H.size n M 1 h_124_3) w_2112 w_2114 w_111 w_132 w_2115 ⟨rfl, rfl⟩ hd_X10_digits ⟨Nat.le_of_ble_eq_true rfl, Nat.le_of_ble_eq_true rfl⟩ (Nat.le_of_ble_eq_true rfl) ((fun _ => rfl) _) rfl rfl rfl hl.1 rfl (Nat.le_of_ble_eq_true rfl) dX10_command_139 ⟨Nat.le_of_ble_eq_true rfl, Nat.le_of_ble_eq_true rfl⟩) (fun H locs hI => ?_)
                refine lv_istore_n (lv' := [(3, .int r_124_4), (0, .ref (b 0)), (1, .int x1_124), (2, .int x2_124), (4, .int x4_124), (5, .int x5_124)]) C0.1 C0.2.1 dX10_command_142 rfl hl (by decide) rfl (fun ls hl => ?_)
                exact L143 x1_124 x2_124 r_124_4 x4_124 x5_124 M_124_5 hf H locs ls hI (lv_sub hl [1, 2, 3, 0, 4, 5] rfl)
          refine lv_if_ne (tgt := 112) C0.1 C0.2.1 dX10_command_103 (by decide) (fun c_76_2 => ?_) (fun c_76_2 => ?_)
          · have hf := (if_neg c_76_2).symm.trans hf
            exact L112 x1_76 x2_76 x3_76 x4_76 x5_76 M hf H locs ls hI (lv_sub hl [0, 1, 2, 3, 4, 5] rfl)
          · have hf := (if_pos c_76_2).symm.trans hf
            refine lv_aload_n C0.1 C0.2.1 dX10_command_106 rfl (lv_at hl 0 rfl) ?_
            refine lv_iconst (v := 2) C0.1 C0.2.1 dX10_command_107 (by decide) ?_
            obtain ⟨r_76_4, M_76_5, h_76_3, hf⟩ := ob2_some hf
            refine k_i C1 hI (q_V C0 C1 hI 0 (c_X10_behind l g X b H.size n M 2 h_76_3) w_2116 w_2118 w_112 w_132 w_2119 ⟨rfl, rfl⟩ hd_X10_behind ⟨Nat.le_of_ble_eq_true rfl, Nat.le_of_ble_eq_true rfl⟩ (Nat.le_of_ble_eq_true rfl) ((fun _ => rfl) _) rfl rfl rfl hl.1 rfl (Nat.le_of_ble_eq_true rfl) dX10_command_108 ⟨Nat.le_of_ble_eq_true rfl, Nat.le_of_ble_eq_true rfl⟩) (fun H locs hI => ?_)
            refine lv_istore_n (lv' := [(2, .int r_76_4), (0, .ref (b 0)), (1, .int x1_76), (3, .int x3_76), (4, .int x4_76), (5, .int x5_76)]) C0.1 C0.2.1 dX10_command_111 rfl hl (by decide) rfl (fun ls hl => ?_)
            exact L112 x1_76 r_76_4 x3_76 x4_76 x5_76 M_76_5 hf H locs ls hI (lv_sub hl [1, 2, 0, 3, 4, 5] rfl)
        · have hf := (if_neg c_76_1).symm.trans hf
          refine lv_iload_n C0.1 C0.2.1 dX10_command_81 rfl (lv_at hl 1 rfl) ?_
          refine lv_bipush (v := 6) C0.1 C0.2.1 dX10_command_82 (by decide) ?_
          have L124 : ∀ (x1_124 : Int32) (x2_124 : Int32) (x3_124 : Int32) (x4_124 : Int32) (x5_124 : Int32) (M : Mem) (_ : F_X10_command_L124 n x1_124 x2_124 x3_124 x4_124 x5_124 M = some M'), ∀ (H : Heap) (locs : List Loc) (ls : Array Slot), PI g X 10 (shM g b) b s M H locs → lv_has ls 7 [(0, .ref (b 0)), (1, .int x1_124), (2, .int x2_124), (3, .int x3_124), (4, .int x4_124), (5, .int x5_124)] → W p l e (rmD 5 0 0) s m ([.ref (b 0)] : List Value).toArray below meth c H locs 0 0 (MQ below (Qv g X 10 (shM g b) b s.heap.size M') ([.ref (b 0)] : List Value).toArray s 0 0 (AA X b 10 s.heap.size)) (F0 m 124 ls []) := by
            intro x1_124 x2_124 x3_124 x4_124 x5_124 M hf H locs ls hI hl
            unfold F_X10_command_L124 at hf
            refine lv_iload_n C0.1 C0.2.1 dX10_command_124 rfl (lv_at hl 1 rfl) ?_
            refine lv_bipush (v := 9) C0.1 C0.2.1 dX10_command_125 (by decide) ?_
            have L143 : ∀ (x1_143 : Int32) (x2_143 : Int32) (x3_143 : Int32) (x4_143 : Int32) (x5_143 : Int32) (M : Mem) (_ : F_X10_command_L143 n x1_143 x2_143 x3_143 x4_143 x5_143 M = some M'), ∀ (H : Heap) (locs : List Loc) (ls : Array Slot), PI g X 10 (shM g b) b s M H locs → lv_has ls 7 [(0, .ref (b 0)), (1, .int x1_143), (2, .int x2_143), (3, .int x3_143), (4, .int x4_143), (5, .int x5_143)] → W p l e (rmD 5 0 0) s m ([.ref (b 0)] : List Value).toArray below meth c H locs 0 0 (MQ below (Qv g X 10 (shM g b) b s.heap.size M') ([.ref (b 0)] : List Value).toArray s 0 0 (AA X b 10 s.heap.size)) (F0 m 143 ls []) := by
              intro x1_143 x2_143 x3_143 x4_143 x5_143 M hf H locs ls hI hl
              unfold F_X10_command_L143 at hf
              refine lv_aload_n C0.1 C0.2.1 dX10_command_143 rfl (lv_at hl 0 rfl) ?_
              refine r_get (C := RX10) (T := TX10) (N9 := 20) (ci := 11) C0 C1 hI iX10 rfl 0 18 (Nat.le_of_ble_eq_true rfl) (by decide) ((fun _ => rfl) _) rfl rfl w_1709 dX10_command_144 ?_
              refine lv_if_ne (tgt := 157) C0.1 C0.2.1 dX10_command_147 (by decide) (fun c_143_1 => ?_) (fun c_143_1 => ?_)
              · have hf := (if_neg c_143_1).symm.trans hf
                exact ee_vm C0 hI hr hlocks hf dX10_command_157
              · have hf := (if_pos c_143_1).symm.trans hf
                refine lv_aload_n C0.1 C0.2.1 dX10_command_150 rfl (lv_at hl 0 rfl) ?_
                refine r_get (C := RX10) (T := TX10) (N9 := 20) (ci := 11) C0 C1 hI iX10 rfl 0 19 (Nat.le_of_ble_eq_true rfl) (by decide) ((fun _ => rfl) _) rfl rfl w_1710 dX10_command_151 ?_
                refine lv_if_ne (tgt := 158) C0.1 C0.2.1 dX10_command_154 (by decide) (fun c_143_2 => ?_) (fun c_143_2 => ?_)
                · have hf := (if_neg c_143_2).symm.trans hf
                  refine lv_aload_n C0.1 C0.2.1 dX10_command_158 rfl (lv_at hl 0 rfl) ?_
                  refine lv_iload_n C0.1 C0.2.1 dX10_command_159 rfl (lv_at hl 1 rfl) ?_
                  refine lv_iload C0.1 C0.2.1 dX10_command_160 (lv_at hl 5 rfl) ?_
                  refine lv_iload_n C0.1 C0.2.1 dX10_command_162 rfl (lv_at hl 2 rfl) ?_
                  refine lv_iload_n C0.1 C0.2.1 dX10_command_163 rfl (lv_at hl 3 rfl) ?_
                  refine lv_iload C0.1 C0.2.1 dX10_command_164 (lv_at hl 4 rfl) ?_
                  obtain ⟨r_143_4, M_143_5, h_143_3, hf⟩ := ob2_some hf
                  refine k_i C1 hI (q_V C0 C1 hI 0 (c_X10_does l g X b H.size n M x1_143 x5_143 x2_143 x3_143 x4_143 h_143_3) w_2128 w_2130 w_115 w_132 w_2131 ⟨rfl, rfl⟩ hd_X10_does ⟨Nat.le_of_ble_eq_true rfl, Nat.le_of_ble_eq_true rfl⟩ (Nat.le_of_ble_eq_true rfl) ((fun _ => rfl) _) rfl rfl rfl hl.1 rfl (Nat.le_of_ble_eq_true rfl) dX10_command_166 ⟨Nat.le_of_ble_eq_true rfl, Nat.le_of_ble_eq_true rfl⟩) (fun H locs hI => ?_)
                  refine lv_istore (lv' := [(6, .int r_143_4), (0, .ref (b 0)), (1, .int x1_143), (2, .int x2_143), (3, .int x3_143), (4, .int x4_143), (5, .int x5_143)]) C0.1 C0.2.1 dX10_command_169 hl (by decide) rfl (fun ls hl => ?_)
                  exact ee_vm C0 hI hr hlocks hf dX10_command_171
                · have hf := (if_pos c_143_2).symm.trans hf
                  exact ee_vm C0 hI hr hlocks hf dX10_command_157
            refine lv_icmp_ne (tgt := 143) C0.1 C0.2.1 dX10_command_127 (by decide) (fun c_124_1 => ?_) (fun c_124_1 => ?_)
            · have hf := (if_neg c_124_1).symm.trans hf
              exact L143 x1_124 x2_124 x3_124 x4_124 x5_124 M hf H locs ls hI (lv_sub hl [0, 1, 2, 3, 4, 5] rfl)
            · have hf := (if_pos c_124_1).symm.trans hf
              refine lv_aload_n C0.1 C0.2.1 dX10_command_130 rfl (lv_at hl 0 rfl) ?_
              refine r_get (C := RX10) (T := TX10) (N9 := 20) (ci := 11) C0 C1 hI iX10 rfl 0 18 (Nat.le_of_ble_eq_true rfl) (by decide) ((fun _ => rfl) _) rfl rfl w_1709 dX10_command_131 ?_
              refine lv_if_ne (tgt := 143) C0.1 C0.2.1 dX10_command_134 (by decide) (fun c_124_2 => ?_) (fun c_124_2 => ?_)
              · have hf := (if_neg c_124_2).symm.trans hf
                exact L143 x1_124 x2_124 x3_124 x4_124 x5_124 M hf H locs ls hI (lv_sub hl [0, 1, 2, 3, 4, 5] rfl)
              · have hf := (if_pos c_124_2).symm.trans hf
                refine lv_aload_n C0.1 C0.2.1 dX10_command_137 rfl (lv_at hl 0 rfl) ?_
                refine lv_iconst (v := 1) C0.1 C0.2.1 dX10_command_138 (by decide) ?_
                obtain ⟨r_124_4, M_124_5, h_124_3, hf⟩ := ob2_some hf
                refine k_i C1 hI (q_V C0 C1 hI 0 (c_X10_digits l g X b H.size n M 1 h_124_3) w_2112 w_2114 w_111 w_132 w_2115 ⟨rfl, rfl⟩ hd_X10_digits ⟨Nat.le_of_ble_eq_true rfl, Nat.le_of_ble_eq_true rfl⟩ (Nat.le_of_ble_eq_true rfl) ((fun _ => rfl) _) rfl rfl rfl hl.1 rfl (Nat.le_of_ble_eq_true rfl) dX10_command_139 ⟨Nat.le_of_ble_eq_true rfl, Nat.le_of_ble_eq_true rfl⟩) (fun H locs hI => ?_)
                refine lv_istore_n (lv' := [(3, .int r_124_4), (0, .ref (b 0)), (1, .int x1_124), (2, .int x2_124), (4, .int x4_124), (5, .int x5_124)]) C0.1 C0.2.1 dX10_command_142 rfl hl (by decide) rfl (fun ls hl => ?_)
                exact L143 x1_124 x2_124 r_124_4 x4_124 x5_124 M_124_5 hf H locs ls hI (lv_sub hl [1, 2, 3, 0, 4, 5] rfl)
          refine lv_icmp_eq (tgt := 99) C0.1 C0.2.1 dX10_command_84 (by decide) (fun c_76_6 => ?_) (fun c_76_6 => ?_)
          · have hf := (if_pos c_76_6).symm.trans hf
            refine lv_aload_n C0.1 C0.2.1 dX10_command_99 rfl (lv_at hl 0 rfl) ?_
            refine r_get (C := RX10) (T := TX10) (N9 := 20) (ci := 11) C0 C1 hI iX10 rfl 0 18 (Nat.le_of_ble_eq_true rfl) (by decide) ((fun _ => rfl) _) rfl rfl w_1709 dX10_command_100 ?_
            have L143 : ∀ (x1_143 : Int32) (x2_143 : Int32) (x3_143 : Int32) (x4_143 : Int32) (x5_143 : Int32) (M : Mem) (_ : F_X10_command_L143 n x1_143 x2_143 x3_143 x4_143 x5_143 M = some M'), ∀ (H : Heap) (locs : List Loc) (ls : Array Slot), PI g X 10 (shM g b) b s M H locs → lv_has ls 7 [(0, .ref (b 0)), (1, .int x1_143), (2, .int x2_143), (3, .int x3_143), (4, .int x4_143), (5, .int x5_143)] → W p l e (rmD 5 0 0) s m ([.ref (b 0)] : List Value).toArray below meth c H locs 0 0 (MQ below (Qv g X 10 (shM g b) b s.heap.size M') ([.ref (b 0)] : List Value).toArray s 0 0 (AA X b 10 s.heap.size)) (F0 m 143 ls []) := by
              intro x1_143 x2_143 x3_143 x4_143 x5_143 M hf H locs ls hI hl
              unfold F_X10_command_L143 at hf
              refine lv_aload_n C0.1 C0.2.1 dX10_command_143 rfl (lv_at hl 0 rfl) ?_
              refine r_get (C := RX10) (T := TX10) (N9 := 20) (ci := 11) C0 C1 hI iX10 rfl 0 18 (Nat.le_of_ble_eq_true rfl) (by decide) ((fun _ => rfl) _) rfl rfl w_1709 dX10_command_144 ?_
              refine lv_if_ne (tgt := 157) C0.1 C0.2.1 dX10_command_147 (by decide) (fun c_143_1 => ?_) (fun c_143_1 => ?_)
              · have hf := (if_neg c_143_1).symm.trans hf
                exact ee_vm C0 hI hr hlocks hf dX10_command_157
              · have hf := (if_pos c_143_1).symm.trans hf
                refine lv_aload_n C0.1 C0.2.1 dX10_command_150 rfl (lv_at hl 0 rfl) ?_
                refine r_get (C := RX10) (T := TX10) (N9 := 20) (ci := 11) C0 C1 hI iX10 rfl 0 19 (Nat.le_of_ble_eq_true rfl) (by decide) ((fun _ => rfl) _) rfl rfl w_1710 dX10_command_151 ?_
                refine lv_if_ne (tgt := 158) C0.1 C0.2.1 dX10_command_154 (by decide) (fun c_143_2 => ?_) (fun c_143_2 => ?_)
                · have hf := (if_neg c_143_2).symm.trans hf
                  refine lv_aload_n C0.1 C0.2.1 dX10_command_158 rfl (lv_at hl 0 rfl) ?_
                  refine lv_iload_n C0.1 C0.2.1 dX10_command_159 rfl (lv_at hl 1 rfl) ?_
                  refine lv_iload C0.1 C0.2.1 dX10_command_160 (lv_at hl 5 rfl) ?_
                  refine lv_iload_n C0.1 C0.2.1 dX10_command_162 rfl (lv_at hl 2 rfl) ?_
                  refine lv_iload_n C0.1 C0.2.1 dX10_command_163 rfl (lv_at hl 3 rfl) ?_
                  refine lv_iload C0.1 C0.2.1 dX10_command_164 (lv_at hl 4 rfl) ?_
                  obtain ⟨r_143_4, M_143_5, h_143_3, hf⟩ := ob2_some hf
                  refine k_i C1 hI (q_V C0 C1 hI 0 (c_X10_does l g X b H.size n M x1_143 x5_143 x2_143 x3_143 x4_143 h_143_3) w_2128 w_2130 w_115 w_132 w_2131 ⟨rfl, rfl⟩ hd_X10_does ⟨Nat.le_of_ble_eq_true rfl, Nat.le_of_ble_eq_true rfl⟩ (Nat.le_of_ble_eq_true rfl) ((fun _ => rfl) _) rfl rfl rfl hl.1 rfl (Nat.le_of_ble_eq_true rfl) dX10_command_166 ⟨Nat.le_of_ble_eq_true rfl, Nat.le_of_ble_eq_true rfl⟩) (fun H locs hI => ?_)
                  refine lv_istore (lv' := [(6, .int r_143_4), (0, .ref (b 0)), (1, .int x1_143), (2, .int x2_143), (3, .int x3_143), (4, .int x4_143), (5, .int x5_143)]) C0.1 C0.2.1 dX10_command_169 hl (by decide) rfl (fun ls hl => ?_)
                  exact ee_vm C0 hI hr hlocks hf dX10_command_171
                · have hf := (if_pos c_143_2).symm.trans hf
                  exact ee_vm C0 hI hr hlocks hf dX10_command_157
            refine lv_if_ne (tgt := 112) C0.1 C0.2.1 dX10_command_103 (by decide) (fun c_76_7 => ?_) (fun c_76_7 => ?_)
            · have hf := (if_neg c_76_7).symm.trans hf
              exact L112 x1_76 x2_76 x3_76 x4_76 x5_76 M hf H locs ls hI (lv_sub hl [0, 1, 2, 3, 4, 5] rfl)
            · have hf := (if_pos c_76_7).symm.trans hf
              refine lv_aload_n C0.1 C0.2.1 dX10_command_106 rfl (lv_at hl 0 rfl) ?_
              refine lv_iconst (v := 2) C0.1 C0.2.1 dX10_command_107 (by decide) ?_
              obtain ⟨r_76_9, M_76_10, h_76_8, hf⟩ := ob2_some hf
              refine k_i C1 hI (q_V C0 C1 hI 0 (c_X10_behind l g X b H.size n M 2 h_76_8) w_2116 w_2118 w_112 w_132 w_2119 ⟨rfl, rfl⟩ hd_X10_behind ⟨Nat.le_of_ble_eq_true rfl, Nat.le_of_ble_eq_true rfl⟩ (Nat.le_of_ble_eq_true rfl) ((fun _ => rfl) _) rfl rfl rfl hl.1 rfl (Nat.le_of_ble_eq_true rfl) dX10_command_108 ⟨Nat.le_of_ble_eq_true rfl, Nat.le_of_ble_eq_true rfl⟩) (fun H locs hI => ?_)
              refine lv_istore_n (lv' := [(2, .int r_76_9), (0, .ref (b 0)), (1, .int x1_76), (3, .int x3_76), (4, .int x4_76), (5, .int x5_76)]) C0.1 C0.2.1 dX10_command_111 rfl hl (by decide) rfl (fun ls hl => ?_)
              exact L112 x1_76 r_76_9 x3_76 x4_76 x5_76 M_76_10 hf H locs ls hI (lv_sub hl [1, 2, 0, 3, 4, 5] rfl)
          · have hf := (if_neg c_76_6).symm.trans hf
            refine lv_iload_n C0.1 C0.2.1 dX10_command_87 rfl (lv_at hl 1 rfl) ?_
            refine lv_bipush (v := 8) C0.1 C0.2.1 dX10_command_88 (by decide) ?_
            have L143 : ∀ (x1_143 : Int32) (x2_143 : Int32) (x3_143 : Int32) (x4_143 : Int32) (x5_143 : Int32) (M : Mem) (_ : F_X10_command_L143 n x1_143 x2_143 x3_143 x4_143 x5_143 M = some M'), ∀ (H : Heap) (locs : List Loc) (ls : Array Slot), PI g X 10 (shM g b) b s M H locs → lv_has ls 7 [(0, .ref (b 0)), (1, .int x1_143), (2, .int x2_143), (3, .int x3_143), (4, .int x4_143), (5, .int x5_143)] → W p l e (rmD 5 0 0) s m ([.ref (b 0)] : List Value).toArray below meth c H locs 0 0 (MQ below (Qv g X 10 (shM g b) b s.heap.size M') ([.ref (b 0)] : List Value).toArray s 0 0 (AA X b 10 s.heap.size)) (F0 m 143 ls []) := by
              intro x1_143 x2_143 x3_143 x4_143 x5_143 M hf H locs ls hI hl
              unfold F_X10_command_L143 at hf
              refine lv_aload_n C0.1 C0.2.1 dX10_command_143 rfl (lv_at hl 0 rfl) ?_
              refine r_get (C := RX10) (T := TX10) (N9 := 20) (ci := 11) C0 C1 hI iX10 rfl 0 18 (Nat.le_of_ble_eq_true rfl) (by decide) ((fun _ => rfl) _) rfl rfl w_1709 dX10_command_144 ?_
              refine lv_if_ne (tgt := 157) C0.1 C0.2.1 dX10_command_147 (by decide) (fun c_143_1 => ?_) (fun c_143_1 => ?_)
              · have hf := (if_neg c_143_1).symm.trans hf
                exact ee_vm C0 hI hr hlocks hf dX10_command_157
              · have hf := (if_pos c_143_1).symm.trans hf
                refine lv_aload_n C0.1 C0.2.1 dX10_command_150 rfl (lv_at hl 0 rfl) ?_
                refine r_get (C := RX10) (T := TX10) (N9 := 20) (ci := 11) C0 C1 hI iX10 rfl 0 19 (Nat.le_of_ble_eq_true rfl) (by decide) ((fun _ => rfl) _) rfl rfl w_1710 dX10_command_151 ?_
                refine lv_if_ne (tgt := 158) C0.1 C0.2.1 dX10_command_154 (by decide) (fun c_143_2 => ?_) (fun c_143_2 => ?_)
                · have hf := (if_neg c_143_2).symm.trans hf
                  refine lv_aload_n C0.1 C0.2.1 dX10_command_158 rfl (lv_at hl 0 rfl) ?_
                  refine lv_iload_n C0.1 C0.2.1 dX10_command_159 rfl (lv_at hl 1 rfl) ?_
                  refine lv_iload C0.1 C0.2.1 dX10_command_160 (lv_at hl 5 rfl) ?_
                  refine lv_iload_n C0.1 C0.2.1 dX10_command_162 rfl (lv_at hl 2 rfl) ?_
                  refine lv_iload_n C0.1 C0.2.1 dX10_command_163 rfl (lv_at hl 3 rfl) ?_
                  refine lv_iload C0.1 C0.2.1 dX10_command_164 (lv_at hl 4 rfl) ?_
                  obtain ⟨r_143_4, M_143_5, h_143_3, hf⟩ := ob2_some hf
                  refine k_i C1 hI (q_V C0 C1 hI 0 (c_X10_does l g X b H.size n M x1_143 x5_143 x2_143 x3_143 x4_143 h_143_3) w_2128 w_2130 w_115 w_132 w_2131 ⟨rfl, rfl⟩ hd_X10_does ⟨Nat.le_of_ble_eq_true rfl, Nat.le_of_ble_eq_true rfl⟩ (Nat.le_of_ble_eq_true rfl) ((fun _ => rfl) _) rfl rfl rfl hl.1 rfl (Nat.le_of_ble_eq_true rfl) dX10_command_166 ⟨Nat.le_of_ble_eq_true rfl, Nat.le_of_ble_eq_true rfl⟩) (fun H locs hI => ?_)
                  refine lv_istore (lv' := [(6, .int r_143_4), (0, .ref (b 0)), (1, .int x1_143), (2, .int x2_143), (3, .int x3_143), (4, .int x4_143), (5, .int x5_143)]) C0.1 C0.2.1 dX10_command_169 hl (by decide) rfl (fun ls hl => ?_)
                  exact ee_vm C0 hI hr hlocks hf dX10_command_171
                · have hf := (if_pos c_143_2).symm.trans hf
                  exact ee_vm C0 hI hr hlocks hf dX10_command_157
            refine lv_icmp_eq (tgt := 99) C0.1 C0.2.1 dX10_command_90 (by decide) (fun c_76_11 => ?_) (fun c_76_11 => ?_)
            · have hf := (if_pos c_76_11).symm.trans hf
              refine lv_aload_n C0.1 C0.2.1 dX10_command_99 rfl (lv_at hl 0 rfl) ?_
              refine r_get (C := RX10) (T := TX10) (N9 := 20) (ci := 11) C0 C1 hI iX10 rfl 0 18 (Nat.le_of_ble_eq_true rfl) (by decide) ((fun _ => rfl) _) rfl rfl w_1709 dX10_command_100 ?_
              refine lv_if_ne (tgt := 112) C0.1 C0.2.1 dX10_command_103 (by decide) (fun c_76_12 => ?_) (fun c_76_12 => ?_)
              · have hf := (if_neg c_76_12).symm.trans hf
                exact L112 x1_76 x2_76 x3_76 x4_76 x5_76 M hf H locs ls hI (lv_sub hl [0, 1, 2, 3, 4, 5] rfl)
              · have hf := (if_pos c_76_12).symm.trans hf
                refine lv_aload_n C0.1 C0.2.1 dX10_command_106 rfl (lv_at hl 0 rfl) ?_
                refine lv_iconst (v := 2) C0.1 C0.2.1 dX10_command_107 (by decide) ?_
                obtain ⟨r_76_14, M_76_15, h_76_13, hf⟩ := ob2_some hf
                refine k_i C1 hI (q_V C0 C1 hI 0 (c_X10_behind l g X b H.size n M 2 h_76_13) w_2116 w_2118 w_112 w_132 w_2119 ⟨rfl, rfl⟩ hd_X10_behind ⟨Nat.le_of_ble_eq_true rfl, Nat.le_of_ble_eq_true rfl⟩ (Nat.le_of_ble_eq_true rfl) ((fun _ => rfl) _) rfl rfl rfl hl.1 rfl (Nat.le_of_ble_eq_true rfl) dX10_command_108 ⟨Nat.le_of_ble_eq_true rfl, Nat.le_of_ble_eq_true rfl⟩) (fun H locs hI => ?_)
                refine lv_istore_n (lv' := [(2, .int r_76_14), (0, .ref (b 0)), (1, .int x1_76), (3, .int x3_76), (4, .int x4_76), (5, .int x5_76)]) C0.1 C0.2.1 dX10_command_111 rfl hl (by decide) rfl (fun ls hl => ?_)
                exact L112 x1_76 r_76_14 x3_76 x4_76 x5_76 M_76_15 hf H locs ls hI (lv_sub hl [1, 2, 0, 3, 4, 5] rfl)
            · have hf := (if_neg c_76_11).symm.trans hf
              refine lv_iload_n C0.1 C0.2.1 dX10_command_93 rfl (lv_at hl 1 rfl) ?_
              refine lv_bipush (v := 9) C0.1 C0.2.1 dX10_command_94 (by decide) ?_
              refine lv_icmp_ne (tgt := 112) C0.1 C0.2.1 dX10_command_96 (by decide) (fun c_76_16 => ?_) (fun c_76_16 => ?_)
              · have hf := (if_neg c_76_16).symm.trans hf
                exact L112 x1_76 x2_76 x3_76 x4_76 x5_76 M hf H locs ls hI (lv_sub hl [0, 1, 2, 3, 4, 5] rfl)
              · have hf := (if_pos c_76_16).symm.trans hf
                refine lv_aload_n C0.1 C0.2.1 dX10_command_99 rfl (lv_at hl 0 rfl) ?_
                refine r_get (C := RX10) (T := TX10) (N9 := 20) (ci := 11) C0 C1 hI iX10 rfl 0 18 (Nat.le_of_ble_eq_true rfl) (by decide) ((fun _ => rfl) _) rfl rfl w_1709 dX10_command_100 ?_
                refine lv_if_ne (tgt := 112) C0.1 C0.2.1 dX10_command_103 (by decide) (fun c_76_17 => ?_) (fun c_76_17 => ?_)
                · have hf := (if_neg c_76_17).symm.trans hf
                  exact L112 x1_76 x2_76 x3_76 x4_76 x5_76 M hf H locs ls hI (lv_sub hl [0, 1, 2, 3, 4, 5] rfl)
                · have hf := (if_pos c_76_17).symm.trans hf
                  refine lv_aload_n C0.1 C0.2.1 dX10_command_106 rfl (lv_at hl 0 rfl) ?_
                  refine lv_iconst (v := 2) C0.1 C0.2.1 dX10_command_107 (by decide) ?_
                  obtain ⟨r_76_19, M_76_20, h_76_18, hf⟩ := ob2_some hf
                  refine k_i C1 hI (q_V C0 C1 hI 0 (c_X10_behind l g X b H.size n M 2 h_76_18) w_2116 w_2118 w_112 w_132 w_2119 ⟨rfl, rfl⟩ hd_X10_behind ⟨Nat.le_of_ble_eq_true rfl, Nat.le_of_ble_eq_true rfl⟩ (Nat.le_of_ble_eq_true rfl) ((fun _ => rfl) _) rfl rfl rfl hl.1 rfl (Nat.le_of_ble_eq_true rfl) dX10_command_108 ⟨Nat.le_of_ble_eq_true rfl, Nat.le_of_ble_eq_true rfl⟩) (fun H locs hI => ?_)
                  refine lv_istore_n (lv' := [(2, .int r_76_19), (0, .ref (b 0)), (1, .int x1_76), (3, .int x3_76), (4, .int x4_76), (5, .int x5_76)]) C0.1 C0.2.1 dX10_command_111 rfl hl (by decide) rfl (fun ls hl => ?_)
                  exact L112 x1_76 r_76_19 x3_76 x4_76 x5_76 M_76_20 hf H locs ls hI (lv_sub hl [1, 2, 0, 3, 4, 5] rfl)
      refine lv_if_ne (tgt := 58) C0.1 C0.2.1 dX10_command_49 (by decide) (fun c_41_2 => ?_) (fun c_41_2 => ?_)
      · have hf := (if_neg c_41_2).symm.trans hf
        exact L58 x1_41 x2_41 x3_41 x4_41 x5_41 M hf H locs ls hI (lv_sub hl [0, 1, 2, 3, 4, 5] rfl)
      · have hf := (if_pos c_41_2).symm.trans hf
        refine lv_aload_n C0.1 C0.2.1 dX10_command_52 rfl (lv_at hl 0 rfl) ?_
        refine lv_iconst (v := 1) C0.1 C0.2.1 dX10_command_53 (by decide) ?_
        obtain ⟨r_41_4, M_41_5, h_41_3, hf⟩ := ob2_some hf
        refine k_i C1 hI (q_V C0 C1 hI 0 (c_X10_digits l g X b H.size n M 1 h_41_3) w_2112 w_2114 w_111 w_132 w_2115 ⟨rfl, rfl⟩ hd_X10_digits ⟨Nat.le_of_ble_eq_true rfl, Nat.le_of_ble_eq_true rfl⟩ (Nat.le_of_ble_eq_true rfl) ((fun _ => rfl) _) rfl rfl rfl hl.1 rfl (Nat.le_of_ble_eq_true rfl) dX10_command_54 ⟨Nat.le_of_ble_eq_true rfl, Nat.le_of_ble_eq_true rfl⟩) (fun H locs hI => ?_)
        refine lv_istore_n (lv' := [(2, .int r_41_4), (0, .ref (b 0)), (1, .int x1_41), (3, .int x3_41), (4, .int x4_41), (5, .int x5_41)]) C0.1 C0.2.1 dX10_command_57 rfl hl (by decide) rfl (fun ls hl => ?_)
        exact L58 x1_41 r_41_4 x3_41 x4_41 x5_41 M_41_5 hf H locs ls hI (lv_sub hl [1, 2, 0, 3, 4, 5] rfl)
  refine lv_if_eq (tgt := 20) C0.1 C0.2.1 dX10_command_16 (by decide) (fun c_4 => ?_) (fun c_4 => ?_)
  · have hf := (if_pos c_4).symm.trans hf
    refine lv_aload_n C0.1 C0.2.1 dX10_command_20 rfl (lv_at hl 4 rfl) ?_
    refine lv_iload_n C0.1 C0.2.1 dX10_command_21 rfl (lv_at hl 3 rfl) ?_
    refine lv_iconst (v := 2) C0.1 C0.2.1 dX10_command_22 (by decide) ?_
    have L58 : ∀ (x1_58 : Int32) (x2_58 : Int32) (x3_58 : Int32) (x4_58 : Int32) (x5_58 : Int32) (M : Mem) (_ : F_X10_command_L58 n x1_58 x2_58 x3_58 x4_58 x5_58 M = some M'), ∀ (H : Heap) (locs : List Loc) (ls : Array Slot), PI g X 10 (shM g b) b s M H locs → lv_has ls 7 [(0, .ref (b 0)), (1, .int x1_58), (2, .int x2_58), (3, .int x3_58), (4, .int x4_58), (5, .int x5_58)] → W p l e (rmD 5 0 0) s m ([.ref (b 0)] : List Value).toArray below meth c H locs 0 0 (MQ below (Qv g X 10 (shM g b) b s.heap.size M') ([.ref (b 0)] : List Value).toArray s 0 0 (AA X b 10 s.heap.size)) (F0 m 58 ls []) := by
      intro x1_58 x2_58 x3_58 x4_58 x5_58 M hf H locs ls hI hl
      unfold F_X10_command_L58 at hf
      refine lv_iload_n C0.1 C0.2.1 dX10_command_58 rfl (lv_at hl 1 rfl) ?_
      refine lv_iconst (v := 2) C0.1 C0.2.1 dX10_command_59 (by decide) ?_
      have L76 : ∀ (x1_76 : Int32) (x2_76 : Int32) (x3_76 : Int32) (x4_76 : Int32) (x5_76 : Int32) (M : Mem) (_ : F_X10_command_L76 n x1_76 x2_76 x3_76 x4_76 x5_76 M = some M'), ∀ (H : Heap) (locs : List Loc) (ls : Array Slot), PI g X 10 (shM g b) b s M H locs → lv_has ls 7 [(0, .ref (b 0)), (1, .int x1_76), (2, .int x2_76), (3, .int x3_76), (4, .int x4_76), (5, .int x5_76)] → W p l e (rmD 5 0 0) s m ([.ref (b 0)] : List Value).toArray below meth c H locs 0 0 (MQ below (Qv g X 10 (shM g b) b s.heap.size M') ([.ref (b 0)] : List Value).toArray s 0 0 (AA X b 10 s.heap.size)) (F0 m 76 ls []) := by
        intro x1_76 x2_76 x3_76 x4_76 x5_76 M hf H locs ls hI hl
        unfold F_X10_command_L76 at hf
        refine lv_iload_n C0.1 C0.2.1 dX10_command_76 rfl (lv_at hl 1 rfl) ?_
        refine lv_iconst (v := 5) C0.1 C0.2.1 dX10_command_77 (by decide) ?_
        have L112 : ∀ (x1_112 : Int32) (x2_112 : Int32) (x3_112 : Int32) (x4_112 : Int32) (x5_112 : Int32) (M : Mem) (_ : F_X10_command_L112 n x1_112 x2_112 x3_112 x4_112 x5_112 M = some M'), ∀ (H : Heap) (locs : List Loc) (ls : Array Slot), PI g X 10 (shM g b) b s M H locs → lv_has ls 7 [(0, .ref (b 0)), (1, .int x1_112), (2, .int x2_112), (3, .int x3_112), (4, .int x4_112), (5, .int x5_112)] → W p l e (rmD 5 0 0) s m ([.ref (b 0)] : List Value).toArray below meth c H locs 0 0 (MQ below (Qv g X 10 (shM g b) b s.heap.size M') ([.ref (b 0)] : List Value).toArray s 0 0 (AA X b 10 s.heap.size)) (F0 m 112 ls []) := by
          intro x1_112 x2_112 x3_112 x4_112 x5_112 M hf H locs ls hI hl
          unfold F_X10_command_L112 at hf
          refine lv_iload_n C0.1 C0.2.1 dX10_command_112 rfl (lv_at hl 1 rfl) ?_
          refine lv_bipush (v := 9) C0.1 C0.2.1 dX10_command_113 (by decide) ?_
          have L124 : ∀ (x1_124 : Int32) (x2_124 : Int32) (x3_124 : Int32) (x4_124 : Int32) (x5_124 : Int32) (M : Mem) (_ : F_X10_command_L124 n x1_124 x2_124 x3_124 x4_124 x5_124 M = some M'), ∀ (H : Heap) (locs : List Loc) (ls : Array Slot), PI g X 10 (shM g b) b s M H locs → lv_has ls 7 [(0, .ref (b 0)), (1, .int x1_124), (2, .int x2_124), (3, .int x3_124), (4, .int x4_124), (5, .int x5_124)] → W p l e (rmD 5 0 0) s m ([.ref (b 0)] : List Value).toArray below meth c H locs 0 0 (MQ below (Qv g X 10 (shM g b) b s.heap.size M') ([.ref (b 0)] : List Value).toArray s 0 0 (AA X b 10 s.heap.size)) (F0 m 124 ls []) := by
            intro x1_124 x2_124 x3_124 x4_124 x5_124 M hf H locs ls hI hl
            unfold F_X10_command_L124 at hf
            refine lv_iload_n C0.1 C0.2.1 dX10_command_124 rfl (lv_at hl 1 rfl) ?_
            refine lv_bipush (v := 9) C0.1 C0.2.1 dX10_command_125 (by decide) ?_
            have L143 : ∀ (x1_143 : Int32) (x2_143 : Int32) (x3_143 : Int32) (x4_143 : Int32) (x5_143 : Int32) (M : Mem) (_ : F_X10_command_L143 n x1_143 x2_143 x3_143 x4_143 x5_143 M = some M'), ∀ (H : Heap) (locs : List Loc) (ls : Array Slot), PI g X 10 (shM g b) b s M H locs → lv_has ls 7 [(0, .ref (b 0)), (1, .int x1_143), (2, .int x2_143), (3, .int x3_143), (4, .int x4_143), (5, .int x5_143)] → W p l e (rmD 5 0 0) s m ([.ref (b 0)] : List Value).toArray below meth c H locs 0 0 (MQ below (Qv g X 10 (shM g b) b s.heap.size M') ([.ref (b 0)] : List Value).toArray s 0 0 (AA X b 10 s.heap.size)) (F0 m 143 ls []) := by
              intro x1_143 x2_143 x3_143 x4_143 x5_143 M hf H locs ls hI hl
              unfold F_X10_command_L143 at hf
              refine lv_aload_n C0.1 C0.2.1 dX10_command_143 rfl (lv_at hl 0 rfl) ?_
              refine r_get (C := RX10) (T := TX10) (N9 := 20) (ci := 11) C0 C1 hI iX10 rfl 0 18 (Nat.le_of_ble_eq_true rfl) (by decide) ((fun _ => rfl) _) rfl rfl w_1709 dX10_command_144 ?_
              refine lv_if_ne (tgt := 157) C0.1 C0.2.1 dX10_command_147 (by decide) (fun c_143_1 => ?_) (fun c_143_1 => ?_)
              · have hf := (if_neg c_143_1).symm.trans hf
                exact ee_vm C0 hI hr hlocks hf dX10_command_157
              · have hf := (if_pos c_143_1).symm.trans hf
                refine lv_aload_n C0.1 C0.2.1 dX10_command_150 rfl (lv_at hl 0 rfl) ?_
                refine r_get (C := RX10) (T := TX10) (N9 := 20) (ci := 11) C0 C1 hI iX10 rfl 0 19 (Nat.le_of_ble_eq_true rfl) (by decide) ((fun _ => rfl) _) rfl rfl w_1710 dX10_command_151 ?_
                refine lv_if_ne (tgt := 158) C0.1 C0.2.1 dX10_command_154 (by decide) (fun c_143_2 => ?_) (fun c_143_2 => ?_)
                · have hf := (if_neg c_143_2).symm.trans hf
                  refine lv_aload_n C0.1 C0.2.1 dX10_command_158 rfl (lv_at hl 0 rfl) ?_
                  refine lv_iload_n C0.1 C0.2.1 dX10_command_159 rfl (lv_at hl 1 rfl) ?_
                  refine lv_iload C0.1 C0.2.1 dX10_command_160 (lv_at hl 5 rfl) ?_
                  refine lv_iload_n C0.1 C0.2.1 dX10_command_162 rfl (lv_at hl 2 rfl) ?_
                  refine lv_iload_n C0.1 C0.2.1 dX10_command_163 rfl (lv_at hl 3 rfl) ?_
                  refine lv_iload C0.1 C0.2.1 dX10_command_164 (lv_at hl 4 rfl) ?_
                  obtain ⟨r_143_4, M_143_5, h_143_3, hf⟩ := ob2_some hf
                  refine k_i C1 hI (q_V C0 C1 hI 0 (c_X10_does l g X b H.size n M x1_143 x5_143 x2_143 x3_143 x4_143 h_143_3) w_2128 w_2130 w_115 w_132 w_2131 ⟨rfl, rfl⟩ hd_X10_does ⟨Nat.le_of_ble_eq_true rfl, Nat.le_of_ble_eq_true rfl⟩ (Nat.le_of_ble_eq_true rfl) ((fun _ => rfl) _) rfl rfl rfl hl.1 rfl (Nat.le_of_ble_eq_true rfl) dX10_command_166 ⟨Nat.le_of_ble_eq_true rfl, Nat.le_of_ble_eq_true rfl⟩) (fun H locs hI => ?_)
                  refine lv_istore (lv' := [(6, .int r_143_4), (0, .ref (b 0)), (1, .int x1_143), (2, .int x2_143), (3, .int x3_143), (4, .int x4_143), (5, .int x5_143)]) C0.1 C0.2.1 dX10_command_169 hl (by decide) rfl (fun ls hl => ?_)
                  exact ee_vm C0 hI hr hlocks hf dX10_command_171
                · have hf := (if_pos c_143_2).symm.trans hf
                  exact ee_vm C0 hI hr hlocks hf dX10_command_157
            refine lv_icmp_ne (tgt := 143) C0.1 C0.2.1 dX10_command_127 (by decide) (fun c_124_1 => ?_) (fun c_124_1 => ?_)
            · have hf := (if_neg c_124_1).symm.trans hf
              exact L143 x1_124 x2_124 x3_124 x4_124 x5_124 M hf H locs ls hI (lv_sub hl [0, 1, 2, 3, 4, 5] rfl)
            · have hf := (if_pos c_124_1).symm.trans hf
              refine lv_aload_n C0.1 C0.2.1 dX10_command_130 rfl (lv_at hl 0 rfl) ?_
              refine r_get (C := RX10) (T := TX10) (N9 := 20) (ci := 11) C0 C1 hI iX10 rfl 0 18 (Nat.le_of_ble_eq_true rfl) (by decide) ((fun _ => rfl) _) rfl rfl w_1709 dX10_command_131 ?_
              refine lv_if_ne (tgt := 143) C0.1 C0.2.1 dX10_command_134 (by decide) (fun c_124_2 => ?_) (fun c_124_2 => ?_)
              · have hf := (if_neg c_124_2).symm.trans hf
                exact L143 x1_124 x2_124 x3_124 x4_124 x5_124 M hf H locs ls hI (lv_sub hl [0, 1, 2, 3, 4, 5] rfl)
              · have hf := (if_pos c_124_2).symm.trans hf
                refine lv_aload_n C0.1 C0.2.1 dX10_command_137 rfl (lv_at hl 0 rfl) ?_
                refine lv_iconst (v := 1) C0.1 C0.2.1 dX10_command_138 (by decide) ?_
                obtain ⟨r_124_4, M_124_5, h_124_3, hf⟩ := ob2_some hf
                refine k_i C1 hI (q_V C0 C1 hI 0 (c_X10_digits l g X b H.size n M 1 h_124_3) w_2112 w_2114 w_111 w_132 w_2115 ⟨rfl, rfl⟩ hd_X10_digits ⟨Nat.le_of_ble_eq_true rfl, Nat.le_of_ble_eq_true rfl⟩ (Nat.le_of_ble_eq_true rfl) ((fun _ => rfl) _) rfl rfl rfl hl.1 rfl (Nat.le_of_ble_eq_true rfl) dX10_command_139 ⟨Nat.le_of_ble_eq_true rfl, Nat.le_of_ble_eq_true rfl⟩) (fun H locs hI => ?_)
                refine lv_istore_n (lv' := [(3, .int r_124_4), (0, .ref (b 0)), (1, .int x1_124), (2, .int x2_124), (4, .int x4_124), (5, .int x5_124)]) C0.1 C0.2.1 dX10_command_142 rfl hl (by decide) rfl (fun ls hl => ?_)
                exact L143 x1_124 x2_124 r_124_4 x4_124 x5_124 M_124_5 hf H locs ls hI (lv_sub hl [1, 2, 3, 0, 4, 5] rfl)
          refine lv_icmp_ne (tgt := 124) C0.1 C0.2.1 dX10_command_115 (by decide) (fun c_112_1 => ?_) (fun c_112_1 => ?_)
          · have hf := (if_neg c_112_1).symm.trans hf
            exact L124 x1_112 x2_112 x3_112 x4_112 x5_112 M hf H locs ls hI (lv_sub hl [0, 1, 2, 3, 4, 5] rfl)
          · have hf := (if_pos c_112_1).symm.trans hf
            refine lv_aload_n C0.1 C0.2.1 dX10_command_118 rfl (lv_at hl 0 rfl) ?_
            obtain ⟨r_112_3, M_112_4, h_112_2, hf⟩ := ob2_some hf
            refine k_i C1 hI (q_V C0 C1 hI 0 (c_X10_plus l g X b H.size n M h_112_2) w_2124 w_2126 w_114 w_132 w_2127 ⟨rfl, rfl⟩ hd_X10_plus ⟨Nat.le_of_ble_eq_true rfl, Nat.le_of_ble_eq_true rfl⟩ (Nat.le_of_ble_eq_true rfl) ((fun _ => rfl) _) rfl rfl rfl hl.1 rfl (Nat.le_of_ble_eq_true rfl) dX10_command_119 ⟨Nat.le_of_ble_eq_true rfl, Nat.le_of_ble_eq_true rfl⟩) (fun H locs hI => ?_)
            refine lv_istore (lv' := [(4, .int r_112_3), (0, .ref (b 0)), (1, .int x1_112), (2, .int x2_112), (3, .int x3_112), (5, .int x5_112)]) C0.1 C0.2.1 dX10_command_122 hl (by decide) rfl (fun ls hl => ?_)
            exact L124 x1_112 x2_112 x3_112 r_112_3 x5_112 M_112_4 hf H locs ls hI (lv_sub hl [1, 2, 3, 4, 0, 5] rfl)
        refine lv_icmp_eq (tgt := 99) C0.1 C0.2.1 dX10_command_78 (by decide) (fun c_76_1 => ?_) (fun c_76_1 => ?_)
        · have hf := (if_pos c_76_1).symm.trans hf
          refine lv_aload_n C0.1 C0.2.1 dX10_command_99 rfl (lv_at hl 0 rfl) ?_
          refine r_get (C := RX10) (T := TX10) (N9 := 20) (ci := 11) C0 C1 hI iX10 rfl 0 18 (Nat.le_of_ble_eq_true rfl) (by decide) ((fun _ => rfl) _) rfl rfl w_1709 dX10_command_100 ?_
          have L124 : ∀ (x1_124 : Int32) (x2_124 : Int32) (x3_124 : Int32) (x4_124 : Int32) (x5_124 : Int32) (M : Mem) (_ : F_X10_command_L124 n x1_124 x2_124 x3_124 x4_124 x5_124 M = some M'), ∀ (H : Heap) (locs : List Loc) (ls : Array Slot), PI g X 10 (shM g b) b s M H locs → lv_has ls 7 [(0, .ref (b 0)), (1, .int x1_124), (2, .int x2_124), (3, .int x3_124), (4, .int x4_124), (5, .int x5_124)] → W p l e (rmD 5 0 0) s m ([.ref (b 0)] : List Value).toArray below meth c H locs 0 0 (MQ below (Qv g X 10 (shM g b) b s.heap.size M') ([.ref (b 0)] : List Value).toArray s 0 0 (AA X b 10 s.heap.size)) (F0 m 124 ls []) := by
            intro x1_124 x2_124 x3_124 x4_124 x5_124 M hf H locs ls hI hl
            unfold F_X10_command_L124 at hf
            refine lv_iload_n C0.1 C0.2.1 dX10_command_124 rfl (lv_at hl 1 rfl) ?_
            refine lv_bipush (v := 9) C0.1 C0.2.1 dX10_command_125 (by decide) ?_
            have L143 : ∀ (x1_143 : Int32) (x2_143 : Int32) (x3_143 : Int32) (x4_143 : Int32) (x5_143 : Int32) (M : Mem) (_ : F_X10_command_L143 n x1_143 x2_143 x3_143 x4_143 x5_143 M = some M'), ∀ (H : Heap) (locs : List Loc) (ls : Array Slot), PI g X 10 (shM g b) b s M H locs → lv_has ls 7 [(0, .ref (b 0)), (1, .int x1_143), (2, .int x2_143), (3, .int x3_143), (4, .int x4_143), (5, .int x5_143)] → W p l e (rmD 5 0 0) s m ([.ref (b 0)] : List Value).toArray below meth c H locs 0 0 (MQ below (Qv g X 10 (shM g b) b s.heap.size M') ([.ref (b 0)] : List Value).toArray s 0 0 (AA X b 10 s.heap.size)) (F0 m 143 ls []) := by
              intro x1_143 x2_143 x3_143 x4_143 x5_143 M hf H locs ls hI hl
              unfold F_X10_command_L143 at hf
              refine lv_aload_n C0.1 C0.2.1 dX10_command_143 rfl (lv_at hl 0 rfl) ?_
              refine r_get (C := RX10) (T := TX10) (N9 := 20) (ci := 11) C0 C1 hI iX10 rfl 0 18 (Nat.le_of_ble_eq_true rfl) (by decide) ((fun _ => rfl) _) rfl rfl w_1709 dX10_command_144 ?_
              refine lv_if_ne (tgt := 157) C0.1 C0.2.1 dX10_command_147 (by decide) (fun c_143_1 => ?_) (fun c_143_1 => ?_)
              · have hf := (if_neg c_143_1).symm.trans hf
                exact ee_vm C0 hI hr hlocks hf dX10_command_157
              · have hf := (if_pos c_143_1).symm.trans hf
                refine lv_aload_n C0.1 C0.2.1 dX10_command_150 rfl (lv_at hl 0 rfl) ?_
                refine r_get (C := RX10) (T := TX10) (N9 := 20) (ci := 11) C0 C1 hI iX10 rfl 0 19 (Nat.le_of_ble_eq_true rfl) (by decide) ((fun _ => rfl) _) rfl rfl w_1710 dX10_command_151 ?_
                refine lv_if_ne (tgt := 158) C0.1 C0.2.1 dX10_command_154 (by decide) (fun c_143_2 => ?_) (fun c_143_2 => ?_)
                · have hf := (if_neg c_143_2).symm.trans hf
                  refine lv_aload_n C0.1 C0.2.1 dX10_command_158 rfl (lv_at hl 0 rfl) ?_
                  refine lv_iload_n C0.1 C0.2.1 dX10_command_159 rfl (lv_at hl 1 rfl) ?_
                  refine lv_iload C0.1 C0.2.1 dX10_command_160 (lv_at hl 5 rfl) ?_
                  refine lv_iload_n C0.1 C0.2.1 dX10_command_162 rfl (lv_at hl 2 rfl) ?_
                  refine lv_iload_n C0.1 C0.2.1 dX10_command_163 rfl (lv_at hl 3 rfl) ?_
                  refine lv_iload C0.1 C0.2.1 dX10_command_164 (lv_at hl 4 rfl) ?_
                  obtain ⟨r_143_4, M_143_5, h_143_3, hf⟩ := ob2_some hf
                  refine k_i C1 hI (q_V C0 C1 hI 0 (c_X10_does l g X b H.size n M x1_143 x5_143 x2_143 x3_143 x4_143 h_143_3) w_2128 w_2130 w_115 w_132 w_2131 ⟨rfl, rfl⟩ hd_X10_does ⟨Nat.le_of_ble_eq_true rfl, Nat.le_of_ble_eq_true rfl⟩ (Nat.le_of_ble_eq_true rfl) ((fun _ => rfl) _) rfl rfl rfl hl.1 rfl (Nat.le_of_ble_eq_true rfl) dX10_command_166 ⟨Nat.le_of_ble_eq_true rfl, Nat.le_of_ble_eq_true rfl⟩) (fun H locs hI => ?_)
                  refine lv_istore (lv' := [(6, .int r_143_4), (0, .ref (b 0)), (1, .int x1_143), (2, .int x2_143), (3, .int x3_143), (4, .int x4_143), (5, .int x5_143)]) C0.1 C0.2.1 dX10_command_169 hl (by decide) rfl (fun ls hl => ?_)
                  exact ee_vm C0 hI hr hlocks hf dX10_command_171
                · have hf := (if_pos c_143_2).symm.trans hf
                  exact ee_vm C0 hI hr hlocks hf dX10_command_157
            refine lv_icmp_ne (tgt := 143) C0.1 C0.2.1 dX10_command_127 (by decide) (fun c_124_1 => ?_) (fun c_124_1 => ?_)
            · have hf := (if_neg c_124_1).symm.trans hf
              exact L143 x1_124 x2_124 x3_124 x4_124 x5_124 M hf H locs ls hI (lv_sub hl [0, 1, 2, 3, 4, 5] rfl)
            · have hf := (if_pos c_124_1).symm.trans hf
              refine lv_aload_n C0.1 C0.2.1 dX10_command_130 rfl (lv_at hl 0 rfl) ?_
              refine r_get (C := RX10) (T := TX10) (N9 := 20) (ci := 11) C0 C1 hI iX10 rfl 0 18 (Nat.le_of_ble_eq_true rfl) (by decide) ((fun _ => rfl) _) rfl rfl w_1709 dX10_command_131 ?_
              refine lv_if_ne (tgt := 143) C0.1 C0.2.1 dX10_command_134 (by decide) (fun c_124_2 => ?_) (fun c_124_2 => ?_)
              · have hf := (if_neg c_124_2).symm.trans hf
                exact L143 x1_124 x2_124 x3_124 x4_124 x5_124 M hf H locs ls hI (lv_sub hl [0, 1, 2, 3, 4, 5] rfl)
              · have hf := (if_pos c_124_2).symm.trans hf
                refine lv_aload_n C0.1 C0.2.1 dX10_command_137 rfl (lv_at hl 0 rfl) ?_
                refine lv_iconst (v := 1) C0.1 C0.2.1 dX10_command_138 (by decide) ?_
                obtain ⟨r_124_4, M_124_5, h_124_3, hf⟩ := ob2_some hf
                refine k_i C1 hI (q_V C0 C1 hI 0 (c_X10_digits l g X b H.size n M 1 h_124_3) w_2112 w_2114 w_111 w_132 w_2115 ⟨rfl, rfl⟩ hd_X10_digits ⟨Nat.le_of_ble_eq_true rfl, Nat.le_of_ble_eq_true rfl⟩ (Nat.le_of_ble_eq_true rfl) ((fun _ => rfl) _) rfl rfl rfl hl.1 rfl (Nat.le_of_ble_eq_true rfl) dX10_command_139 ⟨Nat.le_of_ble_eq_true rfl, Nat.le_of_ble_eq_true rfl⟩) (fun H locs hI => ?_)
                refine lv_istore_n (lv' := [(3, .int r_124_4), (0, .ref (b 0)), (1, .int x1_124), (2, .int x2_124), (4, .int x4_124), (5, .int x5_124)]) C0.1 C0.2.1 dX10_command_142 rfl hl (by decide) rfl (fun ls hl => ?_)
                exact L143 x1_124 x2_124 r_124_4 x4_124 x5_124 M_124_5 hf H locs ls hI (lv_sub hl [1, 2, 3, 0, 4, 5] rfl)
          refine lv_if_ne (tgt := 112) C0.1 C0.2.1 dX10_command_103 (by decide) (fun c_76_2 => ?_) (fun c_76_2 => ?_)
          · have hf := (if_neg c_76_2).symm.trans hf
            exact L112 x1_76 x2_76 x3_76 x4_76 x5_76 M hf H locs ls hI (lv_sub hl [0, 1, 2, 3, 4, 5] rfl)
          · have hf := (if_pos c_76_2).symm.trans hf
            refine lv_aload_n C0.1 C0.2.1 dX10_command_106 rfl (lv_at hl 0 rfl) ?_
            refine lv_iconst (v := 2) C0.1 C0.2.1 dX10_command_107 (by decide) ?_
            obtain ⟨r_76_4, M_76_5, h_76_3, hf⟩ := ob2_some hf
            refine k_i C1 hI (q_V C0 C1 hI 0 (c_X10_behind l g X b H.size n M 2 h_76_3) w_2116 w_2118 w_112 w_132 w_2119 ⟨rfl, rfl⟩ hd_X10_behind ⟨Nat.le_of_ble_eq_true rfl, Nat.le_of_ble_eq_true rfl⟩ (Nat.le_of_ble_eq_true rfl) ((fun _ => rfl) _) rfl rfl rfl hl.1 rfl (Nat.le_of_ble_eq_true rfl) dX10_command_108 ⟨Nat.le_of_ble_eq_true rfl, Nat.le_of_ble_eq_true rfl⟩) (fun H locs hI => ?_)
            refine lv_istore_n (lv' := [(2, .int r_76_4), (0, .ref (b 0)), (1, .int x1_76), (3, .int x3_76), (4, .int x4_76), (5, .int x5_76)]) C0.1 C0.2.1 dX10_command_111 rfl hl (by decide) rfl (fun ls hl => ?_)
            exact L112 x1_76 r_76_4 x3_76 x4_76 x5_76 M_76_5 hf H locs ls hI (lv_sub hl [1, 2, 0, 3, 4, 5] rfl)
        · have hf := (if_neg c_76_1).symm.trans hf
          refine lv_iload_n C0.1 C0.2.1 dX10_command_81 rfl (lv_at hl 1 rfl) ?_
          refine lv_bipush (v := 6) C0.1 C0.2.1 dX10_command_82 (by decide) ?_
          have L124 : ∀ (x1_124 : Int32) (x2_124 : Int32) (x3_124 : Int32) (x4_124 : Int32) (x5_124 : Int32) (M : Mem) (_ : F_X10_command_L124 n x1_124 x2_124 x3_124 x4_124 x5_124 M = some M'), ∀ (H : Heap) (locs : List Loc) (ls : Array Slot), PI g X 10 (shM g b) b s M H locs → lv_has ls 7 [(0, .ref (b 0)), (1, .int x1_124), (2, .int x2_124), (3, .int x3_124), (4, .int x4_124), (5, .int x5_124)] → W p l e (rmD 5 0 0) s m ([.ref (b 0)] : List Value).toArray below meth c H locs 0 0 (MQ below (Qv g X 10 (shM g b) b s.heap.size M') ([.ref (b 0)] : List Value).toArray s 0 0 (AA X b 10 s.heap.size)) (F0 m 124 ls []) := by
            intro x1_124 x2_124 x3_124 x4_124 x5_124 M hf H locs ls hI hl
            unfold F_X10_command_L124 at hf
            refine lv_iload_n C0.1 C0.2.1 dX10_command_124 rfl (lv_at hl 1 rfl) ?_
            refine lv_bipush (v := 9) C0.1 C0.2.1 dX10_command_125 (by decide) ?_
            have L143 : ∀ (x1_143 : Int32) (x2_143 : Int32) (x3_143 : Int32) (x4_143 : Int32) (x5_143 : Int32) (M : Mem) (_ : F_X10_command_L143 n x1_143 x2_143 x3_143 x4_143 x5_143 M = some M'), ∀ (H : Heap) (locs : List Loc) (ls : Array Slot), PI g X 10 (shM g b) b s M H locs → lv_has ls 7 [(0, .ref (b 0)), (1, .int x1_143), (2, .int x2_143), (3, .int x3_143), (4, .int x4_143), (5, .int x5_143)] → W p l e (rmD 5 0 0) s m ([.ref (b 0)] : List Value).toArray below meth c H locs 0 0 (MQ below (Qv g X 10 (shM g b) b s.heap.size M') ([.ref (b 0)] : List Value).toArray s 0 0 (AA X b 10 s.heap.size)) (F0 m 143 ls []) := by
              intro x1_143 x2_143 x3_143 x4_143 x5_143 M hf H locs ls hI hl
              unfold F_X10_command_L143 at hf
              refine lv_aload_n C0.1 C0.2.1 dX10_command_143 rfl (lv_at hl 0 rfl) ?_
              refine r_get (C := RX10) (T := TX10) (N9 := 20) (ci := 11) C0 C1 hI iX10 rfl 0 18 (Nat.le_of_ble_eq_true rfl) (by decide) ((fun _ => rfl) _) rfl rfl w_1709 dX10_command_144 ?_
              refine lv_if_ne (tgt := 157) C0.1 C0.2.1 dX10_command_147 (by decide) (fun c_143_1 => ?_) (fun c_143_1 => ?_)
              · have hf := (if_neg c_143_1).symm.trans hf
                exact ee_vm C0 hI hr hlocks hf dX10_command_157
              · have hf := (if_pos c_143_1).symm.trans hf
                refine lv_aload_n C0.1 C0.2.1 dX10_command_150 rfl (lv_at hl 0 rfl) ?_
                refine r_get (C := RX10) (T := TX10) (N9 := 20) (ci := 11) C0 C1 hI iX10 rfl 0 19 (Nat.le_of_ble_eq_true rfl) (by decide) ((fun _ => rfl) _) rfl rfl w_1710 dX10_command_151 ?_
                refine lv_if_ne (tgt := 158) C0.1 C0.2.1 dX10_command_154 (by decide) (fun c_143_2 => ?_) (fun c_143_2 => ?_)
                · have hf := (if_neg c_143_2).symm.trans hf
                  refine lv_aload_n C0.1 C0.2.1 dX10_command_158 rfl (lv_at hl 0 rfl) ?_
                  refine lv_iload_n C0.1 C0.2.1 dX10_command_159 rfl (lv_at hl 1 rfl) ?_
                  refine lv_iload C0.1 C0.2.1 dX10_command_160 (lv_at hl 5 rfl) ?_
                  refine lv_iload_n C0.1 C0.2.1 dX10_command_162 rfl (lv_at hl 2 rfl) ?_
                  refine lv_iload_n C0.1 C0.2.1 dX10_command_163 rfl (lv_at hl 3 rfl) ?_
                  refine lv_iload C0.1 C0.2.1 dX10_command_164 (lv_at hl 4 rfl) ?_
                  obtain ⟨r_143_4, M_143_5, h_143_3, hf⟩ := ob2_some hf
                  refine k_i C1 hI (q_V C0 C1 hI 0 (c_X10_does l g X b H.size n M x1_143 x5_143 x2_143 x3_143 x4_143 h_143_3) w_2128 w_2130 w_115 w_132 w_2131 ⟨rfl, rfl⟩ hd_X10_does ⟨Nat.le_of_ble_eq_true rfl, Nat.le_of_ble_eq_true rfl⟩ (Nat.le_of_ble_eq_true rfl) ((fun _ => rfl) _) rfl rfl rfl hl.1 rfl (Nat.le_of_ble_eq_true rfl) dX10_command_166 ⟨Nat.le_of_ble_eq_true rfl, Nat.le_of_ble_eq_true rfl⟩) (fun H locs hI => ?_)
                  refine lv_istore (lv' := [(6, .int r_143_4), (0, .ref (b 0)), (1, .int x1_143), (2, .int x2_143), (3, .int x3_143), (4, .int x4_143), (5, .int x5_143)]) C0.1 C0.2.1 dX10_command_169 hl (by decide) rfl (fun ls hl => ?_)
                  exact ee_vm C0 hI hr hlocks hf dX10_command_171
                · have hf := (if_pos c_143_2).symm.trans hf
                  exact ee_vm C0 hI hr hlocks hf dX10_command_157
            refine lv_icmp_ne (tgt := 143) C0.1 C0.2.1 dX10_command_127 (by decide) (fun c_124_1 => ?_) (fun c_124_1 => ?_)
            · have hf := (if_neg c_124_1).symm.trans hf
              exact L143 x1_124 x2_124 x3_124 x4_124 x5_124 M hf H locs ls hI (lv_sub hl [0, 1, 2, 3, 4, 5] rfl)
            · have hf := (if_pos c_124_1).symm.trans hf
              refine lv_aload_n C0.1 C0.2.1 dX10_command_130 rfl (lv_at hl 0 rfl) ?_
              refine r_get (C := RX10) (T := TX10) (N9 := 20) (ci := 11) C0 C1 hI iX10 rfl 0 18 (Nat.le_of_ble_eq_true rfl) (by decide) ((fun _ => rfl) _) rfl rfl w_1709 dX10_command_131 ?_
              refine lv_if_ne (tgt := 143) C0.1 C0.2.1 dX10_command_134 (by decide) (fun c_124_2 => ?_) (fun c_124_2 => ?_)
              · have hf := (if_neg c_124_2).symm.trans hf
                exact L143 x1_124 x2_124 x3_124 x4_124 x5_124 M hf H locs ls hI (lv_sub hl [0, 1, 2, 3, 4, 5] rfl)
              · have hf := (if_pos c_124_2).symm.trans hf
                refine lv_aload_n C0.1 C0.2.1 dX10_command_137 rfl (lv_at hl 0 rfl) ?_
                refine lv_iconst (v := 1) C0.1 C0.2.1 dX10_command_138 (by decide) ?_
                obtain ⟨r_124_4, M_124_5, h_124_3, hf⟩ := ob2_some hf
                refine k_i C1 hI (q_V C0 C1 hI 0 (c_X10_digits l g X b H.size n M 1 h_124_3) w_2112 w_2114 w_111 w_132 w_2115 ⟨rfl, rfl⟩ hd_X10_digits ⟨Nat.le_of_ble_eq_true rfl, Nat.le_of_ble_eq_true rfl⟩ (Nat.le_of_ble_eq_true rfl) ((fun _ => rfl) _) rfl rfl rfl hl.1 rfl (Nat.le_of_ble_eq_true rfl) dX10_command_139 ⟨Nat.le_of_ble_eq_true rfl, Nat.le_of_ble_eq_true rfl⟩) (fun H locs hI => ?_)
                refine lv_istore_n (lv' := [(3, .int r_124_4), (0, .ref (b 0)), (1, .int x1_124), (2, .int x2_124), (4, .int x4_124), (5, .int x5_124)]) C0.1 C0.2.1 dX10_command_142 rfl hl (by decide) rfl (fun ls hl => ?_)
                exact L143 x1_124 x2_124 r_124_4 x4_124 x5_124 M_124_5 hf H locs ls hI (lv_sub hl [1, 2, 3, 0, 4, 5] rfl)
          refine lv_icmp_eq (tgt := 99) C0.1 C0.2.1 dX10_command_84 (by decide) (fun c_76_6 => ?_) (fun c_76_6 => ?_)
          · have hf := (if_pos c_76_6).symm.trans hf
            refine lv_aload_n C0.1 C0.2.1 dX10_command_99 rfl (lv_at hl 0 rfl) ?_
            refine r_get (C := RX10) (T := TX10) (N9 := 20) (ci := 11) C0 C1 hI iX10 rfl 0 18 (Nat.le_of_ble_eq_true rfl) (by decide) ((fun _ => rfl) _) rfl rfl w_1709 dX10_command_100 ?_
            have L143 : ∀ (x1_143 : Int32) (x2_143 : Int32) (x3_143 : Int32) (x4_143 : Int32) (x5_143 : Int32) (M : Mem) (_ : F_X10_command_L143 n x1_143 x2_143 x3_143 x4_143 x5_143 M = some M'), ∀ (H : Heap) (locs : List Loc) (ls : Array Slot), PI g X 10 (shM g b) b s M H locs → lv_has ls 7 [(0, .ref (b 0)), (1, .int x1_143), (2, .int x2_143), (3, .int x3_143), (4, .int x4_143), (5, .int x5_143)] → W p l e (rmD 5 0 0) s m ([.ref (b 0)] : List Value).toArray below meth c H locs 0 0 (MQ below (Qv g X 10 (shM g b) b s.heap.size M') ([.ref (b 0)] : List Value).toArray s 0 0 (AA X b 10 s.heap.size)) (F0 m 143 ls []) := by
              intro x1_143 x2_143 x3_143 x4_143 x5_143 M hf H locs ls hI hl
              unfold F_X10_command_L143 at hf
              refine lv_aload_n C0.1 C0.2.1 dX10_command_143 rfl (lv_at hl 0 rfl) ?_
              refine r_get (C := RX10) (T := TX10) (N9 := 20) (ci := 11) C0 C1 hI iX10 rfl 0 18 (Nat.le_of_ble_eq_true rfl) (by decide) ((fun _ => rfl) _) rfl rfl w_1709 dX10_command_144 ?_
              refine lv_if_ne (tgt := 157) C0.1 C0.2.1 dX10_command_147 (by decide) (fun c_143_1 => ?_) (fun c_143_1 => ?_)
              · have hf := (if_neg c_143_1).symm.trans hf
                exact ee_vm C0 hI hr hlocks hf dX10_command_157
              · have hf := (if_pos c_143_1).symm.trans hf
                refine lv_aload_n C0.1 C0.2.1 dX10_command_150 rfl (lv_at hl 0 rfl) ?_
                refine r_get (C := RX10) (T := TX10) (N9 := 20) (ci := 11) C0 C1 hI iX10 rfl 0 19 (Nat.le_of_ble_eq_true rfl) (by decide) ((fun _ => rfl) _) rfl rfl w_1710 dX10_command_151 ?_
                refine lv_if_ne (tgt := 158) C0.1 C0.2.1 dX10_command_154 (by decide) (fun c_143_2 => ?_) (fun c_143_2 => ?_)
                · have hf := (if_neg c_143_2).symm.trans hf
                  refine lv_aload_n C0.1 C0.2.1 dX10_command_158 rfl (lv_at hl 0 rfl) ?_
                  refine lv_iload_n C0.1 C0.2.1 dX10_command_159 rfl (lv_at hl 1 rfl) ?_
                  refine lv_iload C0.1 C0.2.1 dX10_command_160 (lv_at hl 5 rfl) ?_
                  refine lv_iload_n C0.1 C0.2.1 dX10_command_162 rfl (lv_at hl 2 rfl) ?_
                  refine lv_iload_n C0.1 C0.2.1 dX10_command_163 rfl (lv_at hl 3 rfl) ?_
                  refine lv_iload C0.1 C0.2.1 dX10_command_164 (lv_at hl 4 rfl) ?_
                  obtain ⟨r_143_4, M_143_5, h_143_3, hf⟩ := ob2_some hf
                  refine k_i C1 hI (q_V C0 C1 hI 0 (c_X10_does l g X b H.size n M x1_143 x5_143 x2_143 x3_143 x4_143 h_143_3) w_2128 w_2130 w_115 w_132 w_2131 ⟨rfl, rfl⟩ hd_X10_does ⟨Nat.le_of_ble_eq_true rfl, Nat.le_of_ble_eq_true rfl⟩ (Nat.le_of_ble_eq_true rfl) ((fun _ => rfl) _) rfl rfl rfl hl.1 rfl (Nat.le_of_ble_eq_true rfl) dX10_command_166 ⟨Nat.le_of_ble_eq_true rfl, Nat.le_of_ble_eq_true rfl⟩) (fun H locs hI => ?_)
                  refine lv_istore (lv' := [(6, .int r_143_4), (0, .ref (b 0)), (1, .int x1_143), (2, .int x2_143), (3, .int x3_143), (4, .int x4_143), (5, .int x5_143)]) C0.1 C0.2.1 dX10_command_169 hl (by decide) rfl (fun ls hl => ?_)
                  exact ee_vm C0 hI hr hlocks hf dX10_command_171
                · have hf := (if_pos c_143_2).symm.trans hf
                  exact ee_vm C0 hI hr hlocks hf dX10_command_157
            refine lv_if_ne (tgt := 112) C0.1 C0.2.1 dX10_command_103 (by decide) (fun c_76_7 => ?_) (fun c_76_7 => ?_)
            · have hf := (if_neg c_76_7).symm.trans hf
              exact L112 x1_76 x2_76 x3_76 x4_76 x5_76 M hf H locs ls hI (lv_sub hl [0, 1, 2, 3, 4, 5] rfl)
            · have hf := (if_pos c_76_7).symm.trans hf
              refine lv_aload_n C0.1 C0.2.1 dX10_command_106 rfl (lv_at hl 0 rfl) ?_
              refine lv_iconst (v := 2) C0.1 C0.2.1 dX10_command_107 (by decide) ?_
              obtain ⟨r_76_9, M_76_10, h_76_8, hf⟩ := ob2_some hf
              refine k_i C1 hI (q_V C0 C1 hI 0 (c_X10_behind l g X b H.size n M 2 h_76_8) w_2116 w_2118 w_112 w_132 w_2119 ⟨rfl, rfl⟩ hd_X10_behind ⟨Nat.le_of_ble_eq_true rfl, Nat.le_of_ble_eq_true rfl⟩ (Nat.le_of_ble_eq_true rfl) ((fun _ => rfl) _) rfl rfl rfl hl.1 rfl (Nat.le_of_ble_eq_true rfl) dX10_command_108 ⟨Nat.le_of_ble_eq_true rfl, Nat.le_of_ble_eq_true rfl⟩) (fun H locs hI => ?_)
              refine lv_istore_n (lv' := [(2, .int r_76_9), (0, .ref (b 0)), (1, .int x1_76), (3, .int x3_76), (4, .int x4_76), (5, .int x5_76)]) C0.1 C0.2.1 dX10_command_111 rfl hl (by decide) rfl (fun ls hl => ?_)
              exact L112 x1_76 r_76_9 x3_76 x4_76 x5_76 M_76_10 hf H locs ls hI (lv_sub hl [1, 2, 0, 3, 4, 5] rfl)
          · have hf := (if_neg c_76_6).symm.trans hf
            refine lv_iload_n C0.1 C0.2.1 dX10_command_87 rfl (lv_at hl 1 rfl) ?_
            refine lv_bipush (v := 8) C0.1 C0.2.1 dX10_command_88 (by decide) ?_
            have L143 : ∀ (x1_143 : Int32) (x2_143 : Int32) (x3_143 : Int32) (x4_143 : Int32) (x5_143 : Int32) (M : Mem) (_ : F_X10_command_L143 n x1_143 x2_143 x3_143 x4_143 x5_143 M = some M'), ∀ (H : Heap) (locs : List Loc) (ls : Array Slot), PI g X 10 (shM g b) b s M H locs → lv_has ls 7 [(0, .ref (b 0)), (1, .int x1_143), (2, .int x2_143), (3, .int x3_143), (4, .int x4_143), (5, .int x5_143)] → W p l e (rmD 5 0 0) s m ([.ref (b 0)] : List Value).toArray below meth c H locs 0 0 (MQ below (Qv g X 10 (shM g b) b s.heap.size M') ([.ref (b 0)] : List Value).toArray s 0 0 (AA X b 10 s.heap.size)) (F0 m 143 ls []) := by
              intro x1_143 x2_143 x3_143 x4_143 x5_143 M hf H locs ls hI hl
              unfold F_X10_command_L143 at hf
              refine lv_aload_n C0.1 C0.2.1 dX10_command_143 rfl (lv_at hl 0 rfl) ?_
              refine r_get (C := RX10) (T := TX10) (N9 := 20) (ci := 11) C0 C1 hI iX10 rfl 0 18 (Nat.le_of_ble_eq_true rfl) (by decide) ((fun _ => rfl) _) rfl rfl w_1709 dX10_command_144 ?_
              refine lv_if_ne (tgt := 157) C0.1 C0.2.1 dX10_command_147 (by decide) (fun c_143_1 => ?_) (fun c_143_1 => ?_)
              · have hf := (if_neg c_143_1).symm.trans hf
                exact ee_vm C0 hI hr hlocks hf dX10_command_157
              · have hf := (if_pos c_143_1).symm.trans hf
                refine lv_aload_n C0.1 C0.2.1 dX10_command_150 rfl (lv_at hl 0 rfl) ?_
                refine r_get (C := RX10) (T := TX10) (N9 := 20) (ci := 11) C0 C1 hI iX10 rfl 0 19 (Nat.le_of_ble_eq_true rfl) (by decide) ((fun _ => rfl) _) rfl rfl w_1710 dX10_command_151 ?_
                refine lv_if_ne (tgt := 158) C0.1 C0.2.1 dX10_command_154 (by decide) (fun c_143_2 => ?_) (fun c_143_2 => ?_)
                · have hf := (if_neg c_143_2).symm.trans hf
                  refine lv_aload_n C0.1 C0.2.1 dX10_command_158 rfl (lv_at hl 0 rfl) ?_
                  refine lv_iload_n C0.1 C0.2.1 dX10_command_159 rfl (lv_at hl 1 rfl) ?_
                  refine lv_iload C0.1 C0.2.1 dX10_command_160 (lv_at hl 5 rfl) ?_
                  refine lv_iload_n C0.1 C0.2.1 dX10_command_162 rfl (lv_at hl 2 rfl) ?_
                  refine lv_iload_n C0.1 C0.2.1 dX10_command_163 rfl (lv_at hl 3 rfl) ?_
                  refine lv_iload C0.1 C0.2.1 dX10_command_164 (lv_at hl 4 rfl) ?_
                  obtain ⟨r_143_4, M_143_5, h_143_3, hf⟩ := ob2_some hf
                  refine k_i C1 hI (q_V C0 C1 hI 0 (c_X10_does l g X b H.size n M x1_143 x5_143 x2_143 x3_143 x4_143 h_143_3) w_2128 w_2130 w_115 w_132 w_2131 ⟨rfl, rfl⟩ hd_X10_does ⟨Nat.le_of_ble_eq_true rfl, Nat.le_of_ble_eq_true rfl⟩ (Nat.le_of_ble_eq_true rfl) ((fun _ => rfl) _) rfl rfl rfl hl.1 rfl (Nat.le_of_ble_eq_true rfl) dX10_command_166 ⟨Nat.le_of_ble_eq_true rfl, Nat.le_of_ble_eq_true rfl⟩) (fun H locs hI => ?_)
                  refine lv_istore (lv' := [(6, .int r_143_4), (0, .ref (b 0)), (1, .int x1_143), (2, .int x2_143), (3, .int x3_143), (4, .int x4_143), (5, .int x5_143)]) C0.1 C0.2.1 dX10_command_169 hl (by decide) rfl (fun ls hl => ?_)
                  exact ee_vm C0 hI hr hlocks hf dX10_command_171
                · have hf := (if_pos c_143_2).symm.trans hf
                  exact ee_vm C0 hI hr hlocks hf dX10_command_157
            refine lv_icmp_eq (tgt := 99) C0.1 C0.2.1 dX10_command_90 (by decide) (fun c_76_11 => ?_) (fun c_76_11 => ?_)
            · have hf := (if_pos c_76_11).symm.trans hf
              refine lv_aload_n C0.1 C0.2.1 dX10_command_99 rfl (lv_at hl 0 rfl) ?_
              refine r_get (C := RX10) (T := TX10) (N9 := 20) (ci := 11) C0 C1 hI iX10 rfl 0 18 (Nat.le_of_ble_eq_true rfl) (by decide) ((fun _ => rfl) _) rfl rfl w_1709 dX10_command_100 ?_
              refine lv_if_ne (tgt := 112) C0.1 C0.2.1 dX10_command_103 (by decide) (fun c_76_12 => ?_) (fun c_76_12 => ?_)
              · have hf := (if_neg c_76_12).symm.trans hf
                exact L112 x1_76 x2_76 x3_76 x4_76 x5_76 M hf H locs ls hI (lv_sub hl [0, 1, 2, 3, 4, 5] rfl)
              · have hf := (if_pos c_76_12).symm.trans hf
                refine lv_aload_n C0.1 C0.2.1 dX10_command_106 rfl (lv_at hl 0 rfl) ?_
                refine lv_iconst (v := 2) C0.1 C0.2.1 dX10_command_107 (by decide) ?_
                obtain ⟨r_76_14, M_76_15, h_76_13, hf⟩ := ob2_some hf
                refine k_i C1 hI (q_V C0 C1 hI 0 (c_X10_behind l g X b H.size n M 2 h_76_13) w_2116 w_2118 w_112 w_132 w_2119 ⟨rfl, rfl⟩ hd_X10_behind ⟨Nat.le_of_ble_eq_true rfl, Nat.le_of_ble_eq_true rfl⟩ (Nat.le_of_ble_eq_true rfl) ((fun _ => rfl) _) rfl rfl rfl hl.1 rfl (Nat.le_of_ble_eq_true rfl) dX10_command_108 ⟨Nat.le_of_ble_eq_true rfl, Nat.le_of_ble_eq_true rfl⟩) (fun H locs hI => ?_)
                refine lv_istore_n (lv' := [(2, .int r_76_14), (0, .ref (b 0)), (1, .int x1_76), (3, .int x3_76), (4, .int x4_76), (5, .int x5_76)]) C0.1 C0.2.1 dX10_command_111 rfl hl (by decide) rfl (fun ls hl => ?_)
                exact L112 x1_76 r_76_14 x3_76 x4_76 x5_76 M_76_15 hf H locs ls hI (lv_sub hl [1, 2, 0, 3, 4, 5] rfl)
            · have hf := (if_neg c_76_11).symm.trans hf
              refine lv_iload_n C0.1 C0.2.1 dX10_command_93 rfl (lv_at hl 1 rfl) ?_
              refine lv_bipush (v := 9) C0.1 C0.2.1 dX10_command_94 (by decide) ?_
              refine lv_icmp_ne (tgt := 112) C0.1 C0.2.1 dX10_command_96 (by decide) (fun c_76_16 => ?_) (fun c_76_16 => ?_)
              · have hf := (if_neg c_76_16).symm.trans hf
                exact L112 x1_76 x2_76 x3_76 x4_76 x5_76 M hf H locs ls hI (lv_sub hl [0, 1, 2, 3, 4, 5] rfl)
              · have hf := (if_pos c_76_16).symm.trans hf
                refine lv_aload_n C0.1 C0.2.1 dX10_command_99 rfl (lv_at hl 0 rfl) ?_
                refine r_get (C := RX10) (T := TX10) (N9 := 20) (ci := 11) C0 C1 hI iX10 rfl 0 18 (Nat.le_of_ble_eq_true rfl) (by decide) ((fun _ => rfl) _) rfl rfl w_1709 dX10_command_100 ?_
                refine lv_if_ne (tgt := 112) C0.1 C0.2.1 dX10_command_103 (by decide) (fun c_76_17 => ?_) (fun c_76_17 => ?_)
                · have hf := (if_neg c_76_17).symm.trans hf
                  exact L112 x1_76 x2_76 x3_76 x4_76 x5_76 M hf H locs ls hI (lv_sub hl [0, 1, 2, 3, 4, 5] rfl)
                · have hf := (if_pos c_76_17).symm.trans hf
                  refine lv_aload_n C0.1 C0.2.1 dX10_command_106 rfl (lv_at hl 0 rfl) ?_
                  refine lv_iconst (v := 2) C0.1 C0.2.1 dX10_command_107 (by decide) ?_
                  obtain ⟨r_76_19, M_76_20, h_76_18, hf⟩ := ob2_some hf
                  refine k_i C1 hI (q_V C0 C1 hI 0 (c_X10_behind l g X b H.size n M 2 h_76_18) w_2116 w_2118 w_112 w_132 w_2119 ⟨rfl, rfl⟩ hd_X10_behind ⟨Nat.le_of_ble_eq_true rfl, Nat.le_of_ble_eq_true rfl⟩ (Nat.le_of_ble_eq_true rfl) ((fun _ => rfl) _) rfl rfl rfl hl.1 rfl (Nat.le_of_ble_eq_true rfl) dX10_command_108 ⟨Nat.le_of_ble_eq_true rfl, Nat.le_of_ble_eq_true rfl⟩) (fun H locs hI => ?_)
                  refine lv_istore_n (lv' := [(2, .int r_76_19), (0, .ref (b 0)), (1, .int x1_76), (3, .int x3_76), (4, .int x4_76), (5, .int x5_76)]) C0.1 C0.2.1 dX10_command_111 rfl hl (by decide) rfl (fun ls hl => ?_)
                  exact L112 x1_76 r_76_19 x3_76 x4_76 x5_76 M_76_20 hf H locs ls hI (lv_sub hl [1, 2, 0, 3, 4, 5] rfl)
      refine lv_icmp_ne (tgt := 76) C0.1 C0.2.1 dX10_command_60 (by decide) (fun c_58_1 => ?_) (fun c_58_1 => ?_)
      · have hf := (if_neg c_58_1).symm.trans hf
        exact L76 x1_58 x2_58 x3_58 x4_58 x5_58 M hf H locs ls hI (lv_sub hl [0, 1, 2, 3, 4, 5] rfl)
      · have hf := (if_pos c_58_1).symm.trans hf
        refine lv_aload_n C0.1 C0.2.1 dX10_command_63 rfl (lv_at hl 0 rfl) ?_
        refine r_get (C := RX10) (T := TX10) (N9 := 20) (ci := 11) C0 C1 hI iX10 rfl 0 18 (Nat.le_of_ble_eq_true rfl) (by decide) ((fun _ => rfl) _) rfl rfl w_1709 dX10_command_64 ?_
        have L112 : ∀ (x1_112 : Int32) (x2_112 : Int32) (x3_112 : Int32) (x4_112 : Int32) (x5_112 : Int32) (M : Mem) (_ : F_X10_command_L112 n x1_112 x2_112 x3_112 x4_112 x5_112 M = some M'), ∀ (H : Heap) (locs : List Loc) (ls : Array Slot), PI g X 10 (shM g b) b s M H locs → lv_has ls 7 [(0, .ref (b 0)), (1, .int x1_112), (2, .int x2_112), (3, .int x3_112), (4, .int x4_112), (5, .int x5_112)] → W p l e (rmD 5 0 0) s m ([.ref (b 0)] : List Value).toArray below meth c H locs 0 0 (MQ below (Qv g X 10 (shM g b) b s.heap.size M') ([.ref (b 0)] : List Value).toArray s 0 0 (AA X b 10 s.heap.size)) (F0 m 112 ls []) := by
          intro x1_112 x2_112 x3_112 x4_112 x5_112 M hf H locs ls hI hl
          unfold F_X10_command_L112 at hf
          refine lv_iload_n C0.1 C0.2.1 dX10_command_112 rfl (lv_at hl 1 rfl) ?_
          refine lv_bipush (v := 9) C0.1 C0.2.1 dX10_command_113 (by decide) ?_
          have L124 : ∀ (x1_124 : Int32) (x2_124 : Int32) (x3_124 : Int32) (x4_124 : Int32) (x5_124 : Int32) (M : Mem) (_ : F_X10_command_L124 n x1_124 x2_124 x3_124 x4_124 x5_124 M = some M'), ∀ (H : Heap) (locs : List Loc) (ls : Array Slot), PI g X 10 (shM g b) b s M H locs → lv_has ls 7 [(0, .ref (b 0)), (1, .int x1_124), (2, .int x2_124), (3, .int x3_124), (4, .int x4_124), (5, .int x5_124)] → W p l e (rmD 5 0 0) s m ([.ref (b 0)] : List Value).toArray below meth c H locs 0 0 (MQ below (Qv g X 10 (shM g b) b s.heap.size M') ([.ref (b 0)] : List Value).toArray s 0 0 (AA X b 10 s.heap.size)) (F0 m 124 ls []) := by
            intro x1_124 x2_124 x3_124 x4_124 x5_124 M hf H locs ls hI hl
            unfold F_X10_command_L124 at hf
            refine lv_iload_n C0.1 C0.2.1 dX10_command_124 rfl (lv_at hl 1 rfl) ?_
            refine lv_bipush (v := 9) C0.1 C0.2.1 dX10_command_125 (by decide) ?_
            have L143 : ∀ (x1_143 : Int32) (x2_143 : Int32) (x3_143 : Int32) (x4_143 : Int32) (x5_143 : Int32) (M : Mem) (_ : F_X10_command_L143 n x1_143 x2_143 x3_143 x4_143 x5_143 M = some M'), ∀ (H : Heap) (locs : List Loc) (ls : Array Slot), PI g X 10 (shM g b) b s M H locs → lv_has ls 7 [(0, .ref (b 0)), (1, .int x1_143), (2, .int x2_143), (3, .int x3_143), (4, .int x4_143), (5, .int x5_143)] → W p l e (rmD 5 0 0) s m ([.ref (b 0)] : List Value).toArray below meth c H locs 0 0 (MQ below (Qv g X 10 (shM g b) b s.heap.size M') ([.ref (b 0)] : List Value).toArray s 0 0 (AA X b 10 s.heap.size)) (F0 m 143 ls []) := by
              intro x1_143 x2_143 x3_143 x4_143 x5_143 M hf H locs ls hI hl
              unfold F_X10_command_L143 at hf
              refine lv_aload_n C0.1 C0.2.1 dX10_command_143 rfl (lv_at hl 0 rfl) ?_
              refine r_get (C := RX10) (T := TX10) (N9 := 20) (ci := 11) C0 C1 hI iX10 rfl 0 18 (Nat.le_of_ble_eq_true rfl) (by decide) ((fun _ => rfl) _) rfl rfl w_1709 dX10_command_144 ?_
              refine lv_if_ne (tgt := 157) C0.1 C0.2.1 dX10_command_147 (by decide) (fun c_143_1 => ?_) (fun c_143_1 => ?_)
              · have hf := (if_neg c_143_1).symm.trans hf
                exact ee_vm C0 hI hr hlocks hf dX10_command_157
              · have hf := (if_pos c_143_1).symm.trans hf
                refine lv_aload_n C0.1 C0.2.1 dX10_command_150 rfl (lv_at hl 0 rfl) ?_
                refine r_get (C := RX10) (T := TX10) (N9 := 20) (ci := 11) C0 C1 hI iX10 rfl 0 19 (Nat.le_of_ble_eq_true rfl) (by decide) ((fun _ => rfl) _) rfl rfl w_1710 dX10_command_151 ?_
                refine lv_if_ne (tgt := 158) C0.1 C0.2.1 dX10_command_154 (by decide) (fun c_143_2 => ?_) (fun c_143_2 => ?_)
                · have hf := (if_neg c_143_2).symm.trans hf
                  refine lv_aload_n C0.1 C0.2.1 dX10_command_158 rfl (lv_at hl 0 rfl) ?_
                  refine lv_iload_n C0.1 C0.2.1 dX10_command_159 rfl (lv_at hl 1 rfl) ?_
                  refine lv_iload C0.1 C0.2.1 dX10_command_160 (lv_at hl 5 rfl) ?_
                  refine lv_iload_n C0.1 C0.2.1 dX10_command_162 rfl (lv_at hl 2 rfl) ?_
                  refine lv_iload_n C0.1 C0.2.1 dX10_command_163 rfl (lv_at hl 3 rfl) ?_
                  refine lv_iload C0.1 C0.2.1 dX10_command_164 (lv_at hl 4 rfl) ?_
                  obtain ⟨r_143_4, M_143_5, h_143_3, hf⟩ := ob2_some hf
                  refine k_i C1 hI (q_V C0 C1 hI 0 (c_X10_does l g X b H.size n M x1_143 x5_143 x2_143 x3_143 x4_143 h_143_3) w_2128 w_2130 w_115 w_132 w_2131 ⟨rfl, rfl⟩ hd_X10_does ⟨Nat.le_of_ble_eq_true rfl, Nat.le_of_ble_eq_true rfl⟩ (Nat.le_of_ble_eq_true rfl) ((fun _ => rfl) _) rfl rfl rfl hl.1 rfl (Nat.le_of_ble_eq_true rfl) dX10_command_166 ⟨Nat.le_of_ble_eq_true rfl, Nat.le_of_ble_eq_true rfl⟩) (fun H locs hI => ?_)
                  refine lv_istore (lv' := [(6, .int r_143_4), (0, .ref (b 0)), (1, .int x1_143), (2, .int x2_143), (3, .int x3_143), (4, .int x4_143), (5, .int x5_143)]) C0.1 C0.2.1 dX10_command_169 hl (by decide) rfl (fun ls hl => ?_)
                  exact ee_vm C0 hI hr hlocks hf dX10_command_171
                · have hf := (if_pos c_143_2).symm.trans hf
                  exact ee_vm C0 hI hr hlocks hf dX10_command_157
            refine lv_icmp_ne (tgt := 143) C0.1 C0.2.1 dX10_command_127 (by decide) (fun c_124_1 => ?_) (fun c_124_1 => ?_)
            · have hf := (if_neg c_124_1).symm.trans hf
              exact L143 x1_124 x2_124 x3_124 x4_124 x5_124 M hf H locs ls hI (lv_sub hl [0, 1, 2, 3, 4, 5] rfl)
            · have hf := (if_pos c_124_1).symm.trans hf
              refine lv_aload_n C0.1 C0.2.1 dX10_command_130 rfl (lv_at hl 0 rfl) ?_
              refine r_get (C := RX10) (T := TX10) (N9 := 20) (ci := 11) C0 C1 hI iX10 rfl 0 18 (Nat.le_of_ble_eq_true rfl) (by decide) ((fun _ => rfl) _) rfl rfl w_1709 dX10_command_131 ?_
              refine lv_if_ne (tgt := 143) C0.1 C0.2.1 dX10_command_134 (by decide) (fun c_124_2 => ?_) (fun c_124_2 => ?_)
              · have hf := (if_neg c_124_2).symm.trans hf
                exact L143 x1_124 x2_124 x3_124 x4_124 x5_124 M hf H locs ls hI (lv_sub hl [0, 1, 2, 3, 4, 5] rfl)
              · have hf := (if_pos c_124_2).symm.trans hf
                refine lv_aload_n C0.1 C0.2.1 dX10_command_137 rfl (lv_at hl 0 rfl) ?_
                refine lv_iconst (v := 1) C0.1 C0.2.1 dX10_command_138 (by decide) ?_
                obtain ⟨r_124_4, M_124_5, h_124_3, hf⟩ := ob2_some hf
                refine k_i C1 hI (q_V C0 C1 hI 0 (c_X10_digits l g X b H.size n M 1 h_124_3) w_2112 w_2114 w_111 w_132 w_2115 ⟨rfl, rfl⟩ hd_X10_digits ⟨Nat.le_of_ble_eq_true rfl, Nat.le_of_ble_eq_true rfl⟩ (Nat.le_of_ble_eq_true rfl) ((fun _ => rfl) _) rfl rfl rfl hl.1 rfl (Nat.le_of_ble_eq_true rfl) dX10_command_139 ⟨Nat.le_of_ble_eq_true rfl, Nat.le_of_ble_eq_true rfl⟩) (fun H locs hI => ?_)
                refine lv_istore_n (lv' := [(3, .int r_124_4), (0, .ref (b 0)), (1, .int x1_124), (2, .int x2_124), (4, .int x4_124), (5, .int x5_124)]) C0.1 C0.2.1 dX10_command_142 rfl hl (by decide) rfl (fun ls hl => ?_)
                exact L143 x1_124 x2_124 r_124_4 x4_124 x5_124 M_124_5 hf H locs ls hI (lv_sub hl [1, 2, 3, 0, 4, 5] rfl)
          refine lv_icmp_ne (tgt := 124) C0.1 C0.2.1 dX10_command_115 (by decide) (fun c_112_1 => ?_) (fun c_112_1 => ?_)
          · have hf := (if_neg c_112_1).symm.trans hf
            exact L124 x1_112 x2_112 x3_112 x4_112 x5_112 M hf H locs ls hI (lv_sub hl [0, 1, 2, 3, 4, 5] rfl)
          · have hf := (if_pos c_112_1).symm.trans hf
            refine lv_aload_n C0.1 C0.2.1 dX10_command_118 rfl (lv_at hl 0 rfl) ?_
            obtain ⟨r_112_3, M_112_4, h_112_2, hf⟩ := ob2_some hf
            refine k_i C1 hI (q_V C0 C1 hI 0 (c_X10_plus l g X b H.size n M h_112_2) w_2124 w_2126 w_114 w_132 w_2127 ⟨rfl, rfl⟩ hd_X10_plus ⟨Nat.le_of_ble_eq_true rfl, Nat.le_of_ble_eq_true rfl⟩ (Nat.le_of_ble_eq_true rfl) ((fun _ => rfl) _) rfl rfl rfl hl.1 rfl (Nat.le_of_ble_eq_true rfl) dX10_command_119 ⟨Nat.le_of_ble_eq_true rfl, Nat.le_of_ble_eq_true rfl⟩) (fun H locs hI => ?_)
            refine lv_istore (lv' := [(4, .int r_112_3), (0, .ref (b 0)), (1, .int x1_112), (2, .int x2_112), (3, .int x3_112), (5, .int x5_112)]) C0.1 C0.2.1 dX10_command_122 hl (by decide) rfl (fun ls hl => ?_)
            exact L124 x1_112 x2_112 x3_112 r_112_3 x5_112 M_112_4 hf H locs ls hI (lv_sub hl [1, 2, 3, 4, 0, 5] rfl)
        refine lv_if_ne (tgt := 76) C0.1 C0.2.1 dX10_command_67 (by decide) (fun c_58_2 => ?_) (fun c_58_2 => ?_)
        · have hf := (if_neg c_58_2).symm.trans hf
          exact L76 x1_58 x2_58 x3_58 x4_58 x5_58 M hf H locs ls hI (lv_sub hl [0, 1, 2, 3, 4, 5] rfl)
        · have hf := (if_pos c_58_2).symm.trans hf
          refine lv_aload_n C0.1 C0.2.1 dX10_command_70 rfl (lv_at hl 0 rfl) ?_
          refine lv_iconst (v := 1) C0.1 C0.2.1 dX10_command_71 (by decide) ?_
          obtain ⟨r_58_4, M_58_5, h_58_3, hf⟩ := ob2_some hf
          refine k_i C1 hI (q_V C0 C1 hI 0 (c_X10_behind l g X b H.size n M 1 h_58_3) w_2116 w_2118 w_112 w_132 w_2119 ⟨rfl, rfl⟩ hd_X10_behind ⟨Nat.le_of_ble_eq_true rfl, Nat.le_of_ble_eq_true rfl⟩ (Nat.le_of_ble_eq_true rfl) ((fun _ => rfl) _) rfl rfl rfl hl.1 rfl (Nat.le_of_ble_eq_true rfl) dX10_command_72 ⟨Nat.le_of_ble_eq_true rfl, Nat.le_of_ble_eq_true rfl⟩) (fun H locs hI => ?_)
          refine lv_istore_n (lv' := [(2, .int r_58_4), (0, .ref (b 0)), (1, .int x1_58), (3, .int x3_58), (4, .int x4_58), (5, .int x5_58)]) C0.1 C0.2.1 dX10_command_75 rfl hl (by decide) rfl (fun ls hl => ?_)
          exact L76 x1_58 r_58_4 x3_58 x4_58 x5_58 M_58_5 hf H locs ls hI (lv_sub hl [1, 2, 0, 3, 4, 5] rfl)
    refine lv_icmp_lt (tgt := 35) C0.1 C0.2.1 dX10_command_23 (by decide) (fun c_5 => ?_) (fun c_5 => ?_)
    · have hf := (if_pos c_5).symm.trans hf
      refine lv_iconst (v := 1) C0.1 C0.2.1 dX10_command_35 (by decide) ?_
      obtain ⟨r_7, M_8, h_6, hf⟩ := ob2_some hf
      refine k_i C1 hI (q_V C0 C1 hI 0 (c_X10_digits l g X b H.size n M_3 1 h_6) w_2112 w_2114 w_111 w_132 w_2115 ⟨rfl, rfl⟩ hd_X10_digits ⟨Nat.le_of_ble_eq_true rfl, Nat.le_of_ble_eq_true rfl⟩ (Nat.le_of_ble_eq_true rfl) ((fun _ => rfl) _) rfl rfl rfl hl.1 rfl (Nat.le_of_ble_eq_true rfl) dX10_command_36 ⟨Nat.le_of_ble_eq_true rfl, Nat.le_of_ble_eq_true rfl⟩) (fun H locs hI => ?_)
      refine lv_istore (lv' := [(5, .int r_7), (4, .int 0), (3, .int 0), (2, .int 0), (1, .int r_2), (0, .ref (b 0))]) C0.1 C0.2.1 dX10_command_39 hl (by decide) rfl (fun ls hl => ?_)
      exact L41 r_2 0 0 0 r_7 M_8 hf H locs ls hI (lv_sub hl [5, 4, 3, 2, 1, 0] rfl)
    · have hf := (if_neg c_5).symm.trans hf
      refine lv_iload_n C0.1 C0.2.1 dX10_command_26 rfl (lv_at hl 3 rfl) ?_
      refine lv_iconst (v := 4) C0.1 C0.2.1 dX10_command_27 (by decide) ?_
      have L76 : ∀ (x1_76 : Int32) (x2_76 : Int32) (x3_76 : Int32) (x4_76 : Int32) (x5_76 : Int32) (M : Mem) (_ : F_X10_command_L76 n x1_76 x2_76 x3_76 x4_76 x5_76 M = some M'), ∀ (H : Heap) (locs : List Loc) (ls : Array Slot), PI g X 10 (shM g b) b s M H locs → lv_has ls 7 [(0, .ref (b 0)), (1, .int x1_76), (2, .int x2_76), (3, .int x3_76), (4, .int x4_76), (5, .int x5_76)] → W p l e (rmD 5 0 0) s m ([.ref (b 0)] : List Value).toArray below meth c H locs 0 0 (MQ below (Qv g X 10 (shM g b) b s.heap.size M') ([.ref (b 0)] : List Value).toArray s 0 0 (AA X b 10 s.heap.size)) (F0 m 76 ls []) := by
        intro x1_76 x2_76 x3_76 x4_76 x5_76 M hf H locs ls hI hl
        unfold F_X10_command_L76 at hf
        refine lv_iload_n C0.1 C0.2.1 dX10_command_76 rfl (lv_at hl 1 rfl) ?_
        refine lv_iconst (v := 5) C0.1 C0.2.1 dX10_command_77 (by decide) ?_
        have L112 : ∀ (x1_112 : Int32) (x2_112 : Int32) (x3_112 : Int32) (x4_112 : Int32) (x5_112 : Int32) (M : Mem) (_ : F_X10_command_L112 n x1_112 x2_112 x3_112 x4_112 x5_112 M = some M'), ∀ (H : Heap) (locs : List Loc) (ls : Array Slot), PI g X 10 (shM g b) b s M H locs → lv_has ls 7 [(0, .ref (b 0)), (1, .int x1_112), (2, .int x2_112), (3, .int x3_112), (4, .int x4_112), (5, .int x5_112)] → W p l e (rmD 5 0 0) s m ([.ref (b 0)] : List Value).toArray below meth c H locs 0 0 (MQ below (Qv g X 10 (shM g b) b s.heap.size M') ([.ref (b 0)] : List Value).toArray s 0 0 (AA X b 10 s.heap.size)) (F0 m 112 ls []) := by
          intro x1_112 x2_112 x3_112 x4_112 x5_112 M hf H locs ls hI hl
          unfold F_X10_command_L112 at hf
          refine lv_iload_n C0.1 C0.2.1 dX10_command_112 rfl (lv_at hl 1 rfl) ?_
          refine lv_bipush (v := 9) C0.1 C0.2.1 dX10_command_113 (by decide) ?_
          have L124 : ∀ (x1_124 : Int32) (x2_124 : Int32) (x3_124 : Int32) (x4_124 : Int32) (x5_124 : Int32) (M : Mem) (_ : F_X10_command_L124 n x1_124 x2_124 x3_124 x4_124 x5_124 M = some M'), ∀ (H : Heap) (locs : List Loc) (ls : Array Slot), PI g X 10 (shM g b) b s M H locs → lv_has ls 7 [(0, .ref (b 0)), (1, .int x1_124), (2, .int x2_124), (3, .int x3_124), (4, .int x4_124), (5, .int x5_124)] → W p l e (rmD 5 0 0) s m ([.ref (b 0)] : List Value).toArray below meth c H locs 0 0 (MQ below (Qv g X 10 (shM g b) b s.heap.size M') ([.ref (b 0)] : List Value).toArray s 0 0 (AA X b 10 s.heap.size)) (F0 m 124 ls []) := by
            intro x1_124 x2_124 x3_124 x4_124 x5_124 M hf H locs ls hI hl
            unfold F_X10_command_L124 at hf
            refine lv_iload_n C0.1 C0.2.1 dX10_command_124 rfl (lv_at hl 1 rfl) ?_
            refine lv_bipush (v := 9) C0.1 C0.2.1 dX10_command_125 (by decide) ?_
            have L143 : ∀ (x1_143 : Int32) (x2_143 : Int32) (x3_143 : Int32) (x4_143 : Int32) (x5_143 : Int32) (M : Mem) (_ : F_X10_command_L143 n x1_143 x2_143 x3_143 x4_143 x5_143 M = some M'), ∀ (H : Heap) (locs : List Loc) (ls : Array Slot), PI g X 10 (shM g b) b s M H locs → lv_has ls 7 [(0, .ref (b 0)), (1, .int x1_143), (2, .int x2_143), (3, .int x3_143), (4, .int x4_143), (5, .int x5_143)] → W p l e (rmD 5 0 0) s m ([.ref (b 0)] : List Value).toArray below meth c H locs 0 0 (MQ below (Qv g X 10 (shM g b) b s.heap.size M') ([.ref (b 0)] : List Value).toArray s 0 0 (AA X b 10 s.heap.size)) (F0 m 143 ls []) := by
              intro x1_143 x2_143 x3_143 x4_143 x5_143 M hf H locs ls hI hl
              unfold F_X10_command_L143 at hf
              refine lv_aload_n C0.1 C0.2.1 dX10_command_143 rfl (lv_at hl 0 rfl) ?_
              refine r_get (C := RX10) (T := TX10) (N9 := 20) (ci := 11) C0 C1 hI iX10 rfl 0 18 (Nat.le_of_ble_eq_true rfl) (by decide) ((fun _ => rfl) _) rfl rfl w_1709 dX10_command_144 ?_
              refine lv_if_ne (tgt := 157) C0.1 C0.2.1 dX10_command_147 (by decide) (fun c_143_1 => ?_) (fun c_143_1 => ?_)
              · have hf := (if_neg c_143_1).symm.trans hf
                exact ee_vm C0 hI hr hlocks hf dX10_command_157
              · have hf := (if_pos c_143_1).symm.trans hf
                refine lv_aload_n C0.1 C0.2.1 dX10_command_150 rfl (lv_at hl 0 rfl) ?_
                refine r_get (C := RX10) (T := TX10) (N9 := 20) (ci := 11) C0 C1 hI iX10 rfl 0 19 (Nat.le_of_ble_eq_true rfl) (by decide) ((fun _ => rfl) _) rfl rfl w_1710 dX10_command_151 ?_
                refine lv_if_ne (tgt := 158) C0.1 C0.2.1 dX10_command_154 (by decide) (fun c_143_2 => ?_) (fun c_143_2 => ?_)
                · have hf := (if_neg c_143_2).symm.trans hf
                  refine lv_aload_n C0.1 C0.2.1 dX10_command_158 rfl (lv_at hl 0 rfl) ?_
                  refine lv_iload_n C0.1 C0.2.1 dX10_command_159 rfl (lv_at hl 1 rfl) ?_
                  refine lv_iload C0.1 C0.2.1 dX10_command_160 (lv_at hl 5 rfl) ?_
                  refine lv_iload_n C0.1 C0.2.1 dX10_command_162 rfl (lv_at hl 2 rfl) ?_
                  refine lv_iload_n C0.1 C0.2.1 dX10_command_163 rfl (lv_at hl 3 rfl) ?_
                  refine lv_iload C0.1 C0.2.1 dX10_command_164 (lv_at hl 4 rfl) ?_
                  obtain ⟨r_143_4, M_143_5, h_143_3, hf⟩ := ob2_some hf
                  refine k_i C1 hI (q_V C0 C1 hI 0 (c_X10_does l g X b H.size n M x1_143 x5_143 x2_143 x3_143 x4_143 h_143_3) w_2128 w_2130 w_115 w_132 w_2131 ⟨rfl, rfl⟩ hd_X10_does ⟨Nat.le_of_ble_eq_true rfl, Nat.le_of_ble_eq_true rfl⟩ (Nat.le_of_ble_eq_true rfl) ((fun _ => rfl) _) rfl rfl rfl hl.1 rfl (Nat.le_of_ble_eq_true rfl) dX10_command_166 ⟨Nat.le_of_ble_eq_true rfl, Nat.le_of_ble_eq_true rfl⟩) (fun H locs hI => ?_)
                  refine lv_istore (lv' := [(6, .int r_143_4), (0, .ref (b 0)), (1, .int x1_143), (2, .int x2_143), (3, .int x3_143), (4, .int x4_143), (5, .int x5_143)]) C0.1 C0.2.1 dX10_command_169 hl (by decide) rfl (fun ls hl => ?_)
                  exact ee_vm C0 hI hr hlocks hf dX10_command_171
                · have hf := (if_pos c_143_2).symm.trans hf
                  exact ee_vm C0 hI hr hlocks hf dX10_command_157
            refine lv_icmp_ne (tgt := 143) C0.1 C0.2.1 dX10_command_127 (by decide) (fun c_124_1 => ?_) (fun c_124_1 => ?_)
            · have hf := (if_neg c_124_1).symm.trans hf
              exact L143 x1_124 x2_124 x3_124 x4_124 x5_124 M hf H locs ls hI (lv_sub hl [0, 1, 2, 3, 4, 5] rfl)
            · have hf := (if_pos c_124_1).symm.trans hf
              refine lv_aload_n C0.1 C0.2.1 dX10_command_130 rfl (lv_at hl 0 rfl) ?_
              refine r_get (C := RX10) (T := TX10) (N9 := 20) (ci := 11) C0 C1 hI iX10 rfl 0 18 (Nat.le_of_ble_eq_true rfl) (by decide) ((fun _ => rfl) _) rfl rfl w_1709 dX10_command_131 ?_
              refine lv_if_ne (tgt := 143) C0.1 C0.2.1 dX10_command_134 (by decide) (fun c_124_2 => ?_) (fun c_124_2 => ?_)
              · have hf := (if_neg c_124_2).symm.trans hf
                exact L143 x1_124 x2_124 x3_124 x4_124 x5_124 M hf H locs ls hI (lv_sub hl [0, 1, 2, 3, 4, 5] rfl)
              · have hf := (if_pos c_124_2).symm.trans hf
                refine lv_aload_n C0.1 C0.2.1 dX10_command_137 rfl (lv_at hl 0 rfl) ?_
                refine lv_iconst (v := 1) C0.1 C0.2.1 dX10_command_138 (by decide) ?_
                obtain ⟨r_124_4, M_124_5, h_124_3, hf⟩ := ob2_some hf
                refine k_i C1 hI (q_V C0 C1 hI 0 (c_X10_digits l g X b H.size n M 1 h_124_3) w_2112 w_2114 w_111 w_132 w_2115 ⟨rfl, rfl⟩ hd_X10_digits ⟨Nat.le_of_ble_eq_true rfl, Nat.le_of_ble_eq_true rfl⟩ (Nat.le_of_ble_eq_true rfl) ((fun _ => rfl) _) rfl rfl rfl hl.1 rfl (Nat.le_of_ble_eq_true rfl) dX10_command_139 ⟨Nat.le_of_ble_eq_true rfl, Nat.le_of_ble_eq_true rfl⟩) (fun H locs hI => ?_)
                refine lv_istore_n (lv' := [(3, .int r_124_4), (0, .ref (b 0)), (1, .int x1_124), (2, .int x2_124), (4, .int x4_124), (5, .int x5_124)]) C0.1 C0.2.1 dX10_command_142 rfl hl (by decide) rfl (fun ls hl => ?_)
                exact L143 x1_124 x2_124 r_124_4 x4_124 x5_124 M_124_5 hf H locs ls hI (lv_sub hl [1, 2, 3, 0, 4, 5] rfl)
          refine lv_icmp_ne (tgt := 124) C0.1 C0.2.1 dX10_command_115 (by decide) (fun c_112_1 => ?_) (fun c_112_1 => ?_)
          · have hf := (if_neg c_112_1).symm.trans hf
            exact L124 x1_112 x2_112 x3_112 x4_112 x5_112 M hf H locs ls hI (lv_sub hl [0, 1, 2, 3, 4, 5] rfl)
          · have hf := (if_pos c_112_1).symm.trans hf
            refine lv_aload_n C0.1 C0.2.1 dX10_command_118 rfl (lv_at hl 0 rfl) ?_
            obtain ⟨r_112_3, M_112_4, h_112_2, hf⟩ := ob2_some hf
            refine k_i C1 hI (q_V C0 C1 hI 0 (c_X10_plus l g X b H.size n M h_112_2) w_2124 w_2126 w_114 w_132 w_2127 ⟨rfl, rfl⟩ hd_X10_plus ⟨Nat.le_of_ble_eq_true rfl, Nat.le_of_ble_eq_true rfl⟩ (Nat.le_of_ble_eq_true rfl) ((fun _ => rfl) _) rfl rfl rfl hl.1 rfl (Nat.le_of_ble_eq_true rfl) dX10_command_119 ⟨Nat.le_of_ble_eq_true rfl, Nat.le_of_ble_eq_true rfl⟩) (fun H locs hI => ?_)
            refine lv_istore (lv' := [(4, .int r_112_3), (0, .ref (b 0)), (1, .int x1_112), (2, .int x2_112), (3, .int x3_112), (5, .int x5_112)]) C0.1 C0.2.1 dX10_command_122 hl (by decide) rfl (fun ls hl => ?_)
            exact L124 x1_112 x2_112 x3_112 r_112_3 x5_112 M_112_4 hf H locs ls hI (lv_sub hl [1, 2, 3, 4, 0, 5] rfl)
        refine lv_icmp_eq (tgt := 99) C0.1 C0.2.1 dX10_command_78 (by decide) (fun c_76_1 => ?_) (fun c_76_1 => ?_)
        · have hf := (if_pos c_76_1).symm.trans hf
          refine lv_aload_n C0.1 C0.2.1 dX10_command_99 rfl (lv_at hl 0 rfl) ?_
          refine r_get (C := RX10) (T := TX10) (N9 := 20) (ci := 11) C0 C1 hI iX10 rfl 0 18 (Nat.le_of_ble_eq_true rfl) (by decide) ((fun _ => rfl) _) rfl rfl w_1709 dX10_command_100 ?_
          have L124 : ∀ (x1_124 : Int32) (x2_124 : Int32) (x3_124 : Int32) (x4_124 : Int32) (x5_124 : Int32) (M : Mem) (_ : F_X10_command_L124 n x1_124 x2_124 x3_124 x4_124 x5_124 M = some M'), ∀ (H : Heap) (locs : List Loc) (ls : Array Slot), PI g X 10 (shM g b) b s M H locs → lv_has ls 7 [(0, .ref (b 0)), (1, .int x1_124), (2, .int x2_124), (3, .int x3_124), (4, .int x4_124), (5, .int x5_124)] → W p l e (rmD 5 0 0) s m ([.ref (b 0)] : List Value).toArray below meth c H locs 0 0 (MQ below (Qv g X 10 (shM g b) b s.heap.size M') ([.ref (b 0)] : List Value).toArray s 0 0 (AA X b 10 s.heap.size)) (F0 m 124 ls []) := by
            intro x1_124 x2_124 x3_124 x4_124 x5_124 M hf H locs ls hI hl
            unfold F_X10_command_L124 at hf
            refine lv_iload_n C0.1 C0.2.1 dX10_command_124 rfl (lv_at hl 1 rfl) ?_
            refine lv_bipush (v := 9) C0.1 C0.2.1 dX10_command_125 (by decide) ?_
            have L143 : ∀ (x1_143 : Int32) (x2_143 : Int32) (x3_143 : Int32) (x4_143 : Int32) (x5_143 : Int32) (M : Mem) (_ : F_X10_command_L143 n x1_143 x2_143 x3_143 x4_143 x5_143 M = some M'), ∀ (H : Heap) (locs : List Loc) (ls : Array Slot), PI g X 10 (shM g b) b s M H locs → lv_has ls 7 [(0, .ref (b 0)), (1, .int x1_143), (2, .int x2_143), (3, .int x3_143), (4, .int x4_143), (5, .int x5_143)] → W p l e (rmD 5 0 0) s m ([.ref (b 0)] : List Value).toArray below meth c H locs 0 0 (MQ below (Qv g X 10 (shM g b) b s.heap.size M') ([.ref (b 0)] : List Value).toArray s 0 0 (AA X b 10 s.heap.size)) (F0 m 143 ls []) := by
              intro x1_143 x2_143 x3_143 x4_143 x5_143 M hf H locs ls hI hl
              unfold F_X10_command_L143 at hf
              refine lv_aload_n C0.1 C0.2.1 dX10_command_143 rfl (lv_at hl 0 rfl) ?_
              refine r_get (C := RX10) (T := TX10) (N9 := 20) (ci := 11) C0 C1 hI iX10 rfl 0 18 (Nat.le_of_ble_eq_true rfl) (by decide) ((fun _ => rfl) _) rfl rfl w_1709 dX10_command_144 ?_
              refine lv_if_ne (tgt := 157) C0.1 C0.2.1 dX10_command_147 (by decide) (fun c_143_1 => ?_) (fun c_143_1 => ?_)
              · have hf := (if_neg c_143_1).symm.trans hf
                exact ee_vm C0 hI hr hlocks hf dX10_command_157
              · have hf := (if_pos c_143_1).symm.trans hf
                refine lv_aload_n C0.1 C0.2.1 dX10_command_150 rfl (lv_at hl 0 rfl) ?_
                refine r_get (C := RX10) (T := TX10) (N9 := 20) (ci := 11) C0 C1 hI iX10 rfl 0 19 (Nat.le_of_ble_eq_true rfl) (by decide) ((fun _ => rfl) _) rfl rfl w_1710 dX10_command_151 ?_
                refine lv_if_ne (tgt := 158) C0.1 C0.2.1 dX10_command_154 (by decide) (fun c_143_2 => ?_) (fun c_143_2 => ?_)
                · have hf := (if_neg c_143_2).symm.trans hf
                  refine lv_aload_n C0.1 C0.2.1 dX10_command_158 rfl (lv_at hl 0 rfl) ?_
                  refine lv_iload_n C0.1 C0.2.1 dX10_command_159 rfl (lv_at hl 1 rfl) ?_
                  refine lv_iload C0.1 C0.2.1 dX10_command_160 (lv_at hl 5 rfl) ?_
                  refine lv_iload_n C0.1 C0.2.1 dX10_command_162 rfl (lv_at hl 2 rfl) ?_
                  refine lv_iload_n C0.1 C0.2.1 dX10_command_163 rfl (lv_at hl 3 rfl) ?_
                  refine lv_iload C0.1 C0.2.1 dX10_command_164 (lv_at hl 4 rfl) ?_
                  obtain ⟨r_143_4, M_143_5, h_143_3, hf⟩ := ob2_some hf
                  refine k_i C1 hI (q_V C0 C1 hI 0 (c_X10_does l g X b H.size n M x1_143 x5_143 x2_143 x3_143 x4_143 h_143_3) w_2128 w_2130 w_115 w_132 w_2131 ⟨rfl, rfl⟩ hd_X10_does ⟨Nat.le_of_ble_eq_true rfl, Nat.le_of_ble_eq_true rfl⟩ (Nat.le_of_ble_eq_true rfl) ((fun _ => rfl) _) rfl rfl rfl hl.1 rfl (Nat.le_of_ble_eq_true rfl) dX10_command_166 ⟨Nat.le_of_ble_eq_true rfl, Nat.le_of_ble_eq_true rfl⟩) (fun H locs hI => ?_)
                  refine lv_istore (lv' := [(6, .int r_143_4), (0, .ref (b 0)), (1, .int x1_143), (2, .int x2_143), (3, .int x3_143), (4, .int x4_143), (5, .int x5_143)]) C0.1 C0.2.1 dX10_command_169 hl (by decide) rfl (fun ls hl => ?_)
                  exact ee_vm C0 hI hr hlocks hf dX10_command_171
                · have hf := (if_pos c_143_2).symm.trans hf
                  exact ee_vm C0 hI hr hlocks hf dX10_command_157
            refine lv_icmp_ne (tgt := 143) C0.1 C0.2.1 dX10_command_127 (by decide) (fun c_124_1 => ?_) (fun c_124_1 => ?_)
            · have hf := (if_neg c_124_1).symm.trans hf
              exact L143 x1_124 x2_124 x3_124 x4_124 x5_124 M hf H locs ls hI (lv_sub hl [0, 1, 2, 3, 4, 5] rfl)
            · have hf := (if_pos c_124_1).symm.trans hf
              refine lv_aload_n C0.1 C0.2.1 dX10_command_130 rfl (lv_at hl 0 rfl) ?_
              refine r_get (C := RX10) (T := TX10) (N9 := 20) (ci := 11) C0 C1 hI iX10 rfl 0 18 (Nat.le_of_ble_eq_true rfl) (by decide) ((fun _ => rfl) _) rfl rfl w_1709 dX10_command_131 ?_
              refine lv_if_ne (tgt := 143) C0.1 C0.2.1 dX10_command_134 (by decide) (fun c_124_2 => ?_) (fun c_124_2 => ?_)
              · have hf := (if_neg c_124_2).symm.trans hf
                exact L143 x1_124 x2_124 x3_124 x4_124 x5_124 M hf H locs ls hI (lv_sub hl [0, 1, 2, 3, 4, 5] rfl)
              · have hf := (if_pos c_124_2).symm.trans hf
                refine lv_aload_n C0.1 C0.2.1 dX10_command_137 rfl (lv_at hl 0 rfl) ?_
                refine lv_iconst (v := 1) C0.1 C0.2.1 dX10_command_138 (by decide) ?_
                obtain ⟨r_124_4, M_124_5, h_124_3, hf⟩ := ob2_some hf
                refine k_i C1 hI (q_V C0 C1 hI 0 (c_X10_digits l g X b H.size n M 1 h_124_3) w_2112 w_2114 w_111 w_132 w_2115 ⟨rfl, rfl⟩ hd_X10_digits ⟨Nat.le_of_ble_eq_true rfl, Nat.le_of_ble_eq_true rfl⟩ (Nat.le_of_ble_eq_true rfl) ((fun _ => rfl) _) rfl rfl rfl hl.1 rfl (Nat.le_of_ble_eq_true rfl) dX10_command_139 ⟨Nat.le_of_ble_eq_true rfl, Nat.le_of_ble_eq_true rfl⟩) (fun H locs hI => ?_)
                refine lv_istore_n (lv' := [(3, .int r_124_4), (0, .ref (b 0)), (1, .int x1_124), (2, .int x2_124), (4, .int x4_124), (5, .int x5_124)]) C0.1 C0.2.1 dX10_command_142 rfl hl (by decide) rfl (fun ls hl => ?_)
                exact L143 x1_124 x2_124 r_124_4 x4_124 x5_124 M_124_5 hf H locs ls hI (lv_sub hl [1, 2, 3, 0, 4, 5] rfl)
          refine lv_if_ne (tgt := 112) C0.1 C0.2.1 dX10_command_103 (by decide) (fun c_76_2 => ?_) (fun c_76_2 => ?_)
          · have hf := (if_neg c_76_2).symm.trans hf
            exact L112 x1_76 x2_76 x3_76 x4_76 x5_76 M hf H locs ls hI (lv_sub hl [0, 1, 2, 3, 4, 5] rfl)
          · have hf := (if_pos c_76_2).symm.trans hf
            refine lv_aload_n C0.1 C0.2.1 dX10_command_106 rfl (lv_at hl 0 rfl) ?_
            refine lv_iconst (v := 2) C0.1 C0.2.1 dX10_command_107 (by decide) ?_
            obtain ⟨r_76_4, M_76_5, h_76_3, hf⟩ := ob2_some hf
            refine k_i C1 hI (q_V C0 C1 hI 0 (c_X10_behind l g X b H.size n M 2 h_76_3) w_2116 w_2118 w_112 w_132 w_2119 ⟨rfl, rfl⟩ hd_X10_behind ⟨Nat.le_of_ble_eq_true rfl, Nat.le_of_ble_eq_true rfl⟩ (Nat.le_of_ble_eq_true rfl) ((fun _ => rfl) _) rfl rfl rfl hl.1 rfl (Nat.le_of_ble_eq_true rfl) dX10_command_108 ⟨Nat.le_of_ble_eq_true rfl, Nat.le_of_ble_eq_true rfl⟩) (fun H locs hI => ?_)
            refine lv_istore_n (lv' := [(2, .int r_76_4), (0, .ref (b 0)), (1, .int x1_76), (3, .int x3_76), (4, .int x4_76), (5, .int x5_76)]) C0.1 C0.2.1 dX10_command_111 rfl hl (by decide) rfl (fun ls hl => ?_)
            exact L112 x1_76 r_76_4 x3_76 x4_76 x5_76 M_76_5 hf H locs ls hI (lv_sub hl [1, 2, 0, 3, 4, 5] rfl)
        · have hf := (if_neg c_76_1).symm.trans hf
          refine lv_iload_n C0.1 C0.2.1 dX10_command_81 rfl (lv_at hl 1 rfl) ?_
          refine lv_bipush (v := 6) C0.1 C0.2.1 dX10_command_82 (by decide) ?_
          have L124 : ∀ (x1_124 : Int32) (x2_124 : Int32) (x3_124 : Int32) (x4_124 : Int32) (x5_124 : Int32) (M : Mem) (_ : F_X10_command_L124 n x1_124 x2_124 x3_124 x4_124 x5_124 M = some M'), ∀ (H : Heap) (locs : List Loc) (ls : Array Slot), PI g X 10 (shM g b) b s M H locs → lv_has ls 7 [(0, .ref (b 0)), (1, .int x1_124), (2, .int x2_124), (3, .int x3_124), (4, .int x4_124), (5, .int x5_124)] → W p l e (rmD 5 0 0) s m ([.ref (b 0)] : List Value).toArray below meth c H locs 0 0 (MQ below (Qv g X 10 (shM g b) b s.heap.size M') ([.ref (b 0)] : List Value).toArray s 0 0 (AA X b 10 s.heap.size)) (F0 m 124 ls []) := by
            intro x1_124 x2_124 x3_124 x4_124 x5_124 M hf H locs ls hI hl
            unfold F_X10_command_L124 at hf
            refine lv_iload_n C0.1 C0.2.1 dX10_command_124 rfl (lv_at hl 1 rfl) ?_
            refine lv_bipush (v := 9) C0.1 C0.2.1 dX10_command_125 (by decide) ?_
            have L143 : ∀ (x1_143 : Int32) (x2_143 : Int32) (x3_143 : Int32) (x4_143 : Int32) (x5_143 : Int32) (M : Mem) (_ : F_X10_command_L143 n x1_143 x2_143 x3_143 x4_143 x5_143 M = some M'), ∀ (H : Heap) (locs : List Loc) (ls : Array Slot), PI g X 10 (shM g b) b s M H locs → lv_has ls 7 [(0, .ref (b 0)), (1, .int x1_143), (2, .int x2_143), (3, .int x3_143), (4, .int x4_143), (5, .int x5_143)] → W p l e (rmD 5 0 0) s m ([.ref (b 0)] : List Value).toArray below meth c H locs 0 0 (MQ below (Qv g X 10 (shM g b) b s.heap.size M') ([.ref (b 0)] : List Value).toArray s 0 0 (AA X b 10 s.heap.size)) (F0 m 143 ls []) := by
              intro x1_143 x2_143 x3_143 x4_143 x5_143 M hf H locs ls hI hl
              unfold F_X10_command_L143 at hf
              refine lv_aload_n C0.1 C0.2.1 dX10_command_143 rfl (lv_at hl 0 rfl) ?_
              refine r_get (C := RX10) (T := TX10) (N9 := 20) (ci := 11) C0 C1 hI iX10 rfl 0 18 (Nat.le_of_ble_eq_true rfl) (by decide) ((fun _ => rfl) _) rfl rfl w_1709 dX10_command_144 ?_
              refine lv_if_ne (tgt := 157) C0.1 C0.2.1 dX10_command_147 (by decide) (fun c_143_1 => ?_) (fun c_143_1 => ?_)
              · have hf := (if_neg c_143_1).symm.trans hf
                exact ee_vm C0 hI hr hlocks hf dX10_command_157
              · have hf := (if_pos c_143_1).symm.trans hf
                refine lv_aload_n C0.1 C0.2.1 dX10_command_150 rfl (lv_at hl 0 rfl) ?_
                refine r_get (C := RX10) (T := TX10) (N9 := 20) (ci := 11) C0 C1 hI iX10 rfl 0 19 (Nat.le_of_ble_eq_true rfl) (by decide) ((fun _ => rfl) _) rfl rfl w_1710 dX10_command_151 ?_
                refine lv_if_ne (tgt := 158) C0.1 C0.2.1 dX10_command_154 (by decide) (fun c_143_2 => ?_) (fun c_143_2 => ?_)
                · have hf := (if_neg c_143_2).symm.trans hf
                  refine lv_aload_n C0.1 C0.2.1 dX10_command_158 rfl (lv_at hl 0 rfl) ?_
                  refine lv_iload_n C0.1 C0.2.1 dX10_command_159 rfl (lv_at hl 1 rfl) ?_
                  refine lv_iload C0.1 C0.2.1 dX10_command_160 (lv_at hl 5 rfl) ?_
                  refine lv_iload_n C0.1 C0.2.1 dX10_command_162 rfl (lv_at hl 2 rfl) ?_
                  refine lv_iload_n C0.1 C0.2.1 dX10_command_163 rfl (lv_at hl 3 rfl) ?_
                  refine lv_iload C0.1 C0.2.1 dX10_command_164 (lv_at hl 4 rfl) ?_
                  obtain ⟨r_143_4, M_143_5, h_143_3, hf⟩ := ob2_some hf
                  refine k_i C1 hI (q_V C0 C1 hI 0 (c_X10_does l g X b H.size n M x1_143 x5_143 x2_143 x3_143 x4_143 h_143_3) w_2128 w_2130 w_115 w_132 w_2131 ⟨rfl, rfl⟩ hd_X10_does ⟨Nat.le_of_ble_eq_true rfl, Nat.le_of_ble_eq_true rfl⟩ (Nat.le_of_ble_eq_true rfl) ((fun _ => rfl) _) rfl rfl rfl hl.1 rfl (Nat.le_of_ble_eq_true rfl) dX10_command_166 ⟨Nat.le_of_ble_eq_true rfl, Nat.le_of_ble_eq_true rfl⟩) (fun H locs hI => ?_)
                  refine lv_istore (lv' := [(6, .int r_143_4), (0, .ref (b 0)), (1, .int x1_143), (2, .int x2_143), (3, .int x3_143), (4, .int x4_143), (5, .int x5_143)]) C0.1 C0.2.1 dX10_command_169 hl (by decide) rfl (fun ls hl => ?_)
                  exact ee_vm C0 hI hr hlocks hf dX10_command_171
                · have hf := (if_pos c_143_2).symm.trans hf
                  exact ee_vm C0 hI hr hlocks hf dX10_command_157
            refine lv_icmp_ne (tgt := 143) C0.1 C0.2.1 dX10_command_127 (by decide) (fun c_124_1 => ?_) (fun c_124_1 => ?_)
            · have hf := (if_neg c_124_1).symm.trans hf
              exact L143 x1_124 x2_124 x3_124 x4_124 x5_124 M hf H locs ls hI (lv_sub hl [0, 1, 2, 3, 4, 5] rfl)
            · have hf := (if_pos c_124_1).symm.trans hf
              refine lv_aload_n C0.1 C0.2.1 dX10_command_130 rfl (lv_at hl 0 rfl) ?_
              refine r_get (C := RX10) (T := TX10) (N9 := 20) (ci := 11) C0 C1 hI iX10 rfl 0 18 (Nat.le_of_ble_eq_true rfl) (by decide) ((fun _ => rfl) _) rfl rfl w_1709 dX10_command_131 ?_
              refine lv_if_ne (tgt := 143) C0.1 C0.2.1 dX10_command_134 (by decide) (fun c_124_2 => ?_) (fun c_124_2 => ?_)
              · have hf := (if_neg c_124_2).symm.trans hf
                exact L143 x1_124 x2_124 x3_124 x4_124 x5_124 M hf H locs ls hI (lv_sub hl [0, 1, 2, 3, 4, 5] rfl)
              · have hf := (if_pos c_124_2).symm.trans hf
                refine lv_aload_n C0.1 C0.2.1 dX10_command_137 rfl (lv_at hl 0 rfl) ?_
                refine lv_iconst (v := 1) C0.1 C0.2.1 dX10_command_138 (by decide) ?_
                obtain ⟨r_124_4, M_124_5, h_124_3, hf⟩ := ob2_some hf
                refine k_i C1 hI (q_V C0 C1 hI 0 (c_X10_digits l g X b H.size n M 1 h_124_3) w_2112 w_2114 w_111 w_132 w_2115 ⟨rfl, rfl⟩ hd_X10_digits ⟨Nat.le_of_ble_eq_true rfl, Nat.le_of_ble_eq_true rfl⟩ (Nat.le_of_ble_eq_true rfl) ((fun _ => rfl) _) rfl rfl rfl hl.1 rfl (Nat.le_of_ble_eq_true rfl) dX10_command_139 ⟨Nat.le_of_ble_eq_true rfl, Nat.le_of_ble_eq_true rfl⟩) (fun H locs hI => ?_)
                refine lv_istore_n (lv' := [(3, .int r_124_4), (0, .ref (b 0)), (1, .int x1_124), (2, .int x2_124), (4, .int x4_124), (5, .int x5_124)]) C0.1 C0.2.1 dX10_command_142 rfl hl (by decide) rfl (fun ls hl => ?_)
                exact L143 x1_124 x2_124 r_124_4 x4_124 x5_124 M_124_5 hf H locs ls hI (lv_sub hl [1, 2, 3, 0, 4, 5] rfl)
          refine lv_icmp_eq (tgt := 99) C0.1 C0.2.1 dX10_command_84 (by decide) (fun c_76_6 => ?_) (fun c_76_6 => ?_)
          · have hf := (if_pos c_76_6).symm.trans hf
            refine lv_aload_n C0.1 C0.2.1 dX10_command_99 rfl (lv_at hl 0 rfl) ?_
            refine r_get (C := RX10) (T := TX10) (N9 := 20) (ci := 11) C0 C1 hI iX10 rfl 0 18 (Nat.le_of_ble_eq_true rfl) (by decide) ((fun _ => rfl) _) rfl rfl w_1709 dX10_command_100 ?_
            have L143 : ∀ (x1_143 : Int32) (x2_143 : Int32) (x3_143 : Int32) (x4_143 : Int32) (x5_143 : Int32) (M : Mem) (_ : F_X10_command_L143 n x1_143 x2_143 x3_143 x4_143 x5_143 M = some M'), ∀ (H : Heap) (locs : List Loc) (ls : Array Slot), PI g X 10 (shM g b) b s M H locs → lv_has ls 7 [(0, .ref (b 0)), (1, .int x1_143), (2, .int x2_143), (3, .int x3_143), (4, .int x4_143), (5, .int x5_143)] → W p l e (rmD 5 0 0) s m ([.ref (b 0)] : List Value).toArray below meth c H locs 0 0 (MQ below (Qv g X 10 (shM g b) b s.heap.size M') ([.ref (b 0)] : List Value).toArray s 0 0 (AA X b 10 s.heap.size)) (F0 m 143 ls []) := by
              intro x1_143 x2_143 x3_143 x4_143 x5_143 M hf H locs ls hI hl
              unfold F_X10_command_L143 at hf
              refine lv_aload_n C0.1 C0.2.1 dX10_command_143 rfl (lv_at hl 0 rfl) ?_
              refine r_get (C := RX10) (T := TX10) (N9 := 20) (ci := 11) C0 C1 hI iX10 rfl 0 18 (Nat.le_of_ble_eq_true rfl) (by decide) ((fun _ => rfl) _) rfl rfl w_1709 dX10_command_144 ?_
              refine lv_if_ne (tgt := 157) C0.1 C0.2.1 dX10_command_147 (by decide) (fun c_143_1 => ?_) (fun c_143_1 => ?_)
              · have hf := (if_neg c_143_1).symm.trans hf
                exact ee_vm C0 hI hr hlocks hf dX10_command_157
              · have hf := (if_pos c_143_1).symm.trans hf
                refine lv_aload_n C0.1 C0.2.1 dX10_command_150 rfl (lv_at hl 0 rfl) ?_
                refine r_get (C := RX10) (T := TX10) (N9 := 20) (ci := 11) C0 C1 hI iX10 rfl 0 19 (Nat.le_of_ble_eq_true rfl) (by decide) ((fun _ => rfl) _) rfl rfl w_1710 dX10_command_151 ?_
                refine lv_if_ne (tgt := 158) C0.1 C0.2.1 dX10_command_154 (by decide) (fun c_143_2 => ?_) (fun c_143_2 => ?_)
                · have hf := (if_neg c_143_2).symm.trans hf
                  refine lv_aload_n C0.1 C0.2.1 dX10_command_158 rfl (lv_at hl 0 rfl) ?_
                  refine lv_iload_n C0.1 C0.2.1 dX10_command_159 rfl (lv_at hl 1 rfl) ?_
                  refine lv_iload C0.1 C0.2.1 dX10_command_160 (lv_at hl 5 rfl) ?_
                  refine lv_iload_n C0.1 C0.2.1 dX10_command_162 rfl (lv_at hl 2 rfl) ?_
                  refine lv_iload_n C0.1 C0.2.1 dX10_command_163 rfl (lv_at hl 3 rfl) ?_
                  refine lv_iload C0.1 C0.2.1 dX10_command_164 (lv_at hl 4 rfl) ?_
                  obtain ⟨r_143_4, M_143_5, h_143_3, hf⟩ := ob2_some hf
                  refine k_i C1 hI (q_V C0 C1 hI 0 (c_X10_does l g X b H.size n M x1_143 x5_143 x2_143 x3_143 x4_143 h_143_3) w_2128 w_2130 w_115 w_132 w_2131 ⟨rfl, rfl⟩ hd_X10_does ⟨Nat.le_of_ble_eq_true rfl, Nat.le_of_ble_eq_true rfl⟩ (Nat.le_of_ble_eq_true rfl) ((fun _ => rfl) _) rfl rfl rfl hl.1 rfl (Nat.le_of_ble_eq_true rfl) dX10_command_166 ⟨Nat.le_of_ble_eq_true rfl, Nat.le_of_ble_eq_true rfl⟩) (fun H locs hI => ?_)
                  refine lv_istore (lv' := [(6, .int r_143_4), (0, .ref (b 0)), (1, .int x1_143), (2, .int x2_143), (3, .int x3_143), (4, .int x4_143), (5, .int x5_143)]) C0.1 C0.2.1 dX10_command_169 hl (by decide) rfl (fun ls hl => ?_)
                  exact ee_vm C0 hI hr hlocks hf dX10_command_171
                · have hf := (if_pos c_143_2).symm.trans hf
                  exact ee_vm C0 hI hr hlocks hf dX10_command_157
            refine lv_if_ne (tgt := 112) C0.1 C0.2.1 dX10_command_103 (by decide) (fun c_76_7 => ?_) (fun c_76_7 => ?_)
            · have hf := (if_neg c_76_7).symm.trans hf
              exact L112 x1_76 x2_76 x3_76 x4_76 x5_76 M hf H locs ls hI (lv_sub hl [0, 1, 2, 3, 4, 5] rfl)
            · have hf := (if_pos c_76_7).symm.trans hf
              refine lv_aload_n C0.1 C0.2.1 dX10_command_106 rfl (lv_at hl 0 rfl) ?_
              refine lv_iconst (v := 2) C0.1 C0.2.1 dX10_command_107 (by decide) ?_
              obtain ⟨r_76_9, M_76_10, h_76_8, hf⟩ := ob2_some hf
              refine k_i C1 hI (q_V C0 C1 hI 0 (c_X10_behind l g X b H.size n M 2 h_76_8) w_2116 w_2118 w_112 w_132 w_2119 ⟨rfl, rfl⟩ hd_X10_behind ⟨Nat.le_of_ble_eq_true rfl, Nat.le_of_ble_eq_true rfl⟩ (Nat.le_of_ble_eq_true rfl) ((fun _ => rfl) _) rfl rfl rfl hl.1 rfl (Nat.le_of_ble_eq_true rfl) dX10_command_108 ⟨Nat.le_of_ble_eq_true rfl, Nat.le_of_ble_eq_true rfl⟩) (fun H locs hI => ?_)
              refine lv_istore_n (lv' := [(2, .int r_76_9), (0, .ref (b 0)), (1, .int x1_76), (3, .int x3_76), (4, .int x4_76), (5, .int x5_76)]) C0.1 C0.2.1 dX10_command_111 rfl hl (by decide) rfl (fun ls hl => ?_)
              exact L112 x1_76 r_76_9 x3_76 x4_76 x5_76 M_76_10 hf H locs ls hI (lv_sub hl [1, 2, 0, 3, 4, 5] rfl)
          · have hf := (if_neg c_76_6).symm.trans hf
            refine lv_iload_n C0.1 C0.2.1 dX10_command_87 rfl (lv_at hl 1 rfl) ?_
            refine lv_bipush (v := 8) C0.1 C0.2.1 dX10_command_88 (by decide) ?_
            have L143 : ∀ (x1_143 : Int32) (x2_143 : Int32) (x3_143 : Int32) (x4_143 : Int32) (x5_143 : Int32) (M : Mem) (_ : F_X10_command_L143 n x1_143 x2_143 x3_143 x4_143 x5_143 M = some M'), ∀ (H : Heap) (locs : List Loc) (ls : Array Slot), PI g X 10 (shM g b) b s M H locs → lv_has ls 7 [(0, .ref (b 0)), (1, .int x1_143), (2, .int x2_143), (3, .int x3_143), (4, .int x4_143), (5, .int x5_143)] → W p l e (rmD 5 0 0) s m ([.ref (b 0)] : List Value).toArray below meth c H locs 0 0 (MQ below (Qv g X 10 (shM g b) b s.heap.size M') ([.ref (b 0)] : List Value).toArray s 0 0 (AA X b 10 s.heap.size)) (F0 m 143 ls []) := by
              intro x1_143 x2_143 x3_143 x4_143 x5_143 M hf H locs ls hI hl
              unfold F_X10_command_L143 at hf
              refine lv_aload_n C0.1 C0.2.1 dX10_command_143 rfl (lv_at hl 0 rfl) ?_
              refine r_get (C := RX10) (T := TX10) (N9 := 20) (ci := 11) C0 C1 hI iX10 rfl 0 18 (Nat.le_of_ble_eq_true rfl) (by decide) ((fun _ => rfl) _) rfl rfl w_1709 dX10_command_144 ?_
              refine lv_if_ne (tgt := 157) C0.1 C0.2.1 dX10_command_147 (by decide) (fun c_143_1 => ?_) (fun c_143_1 => ?_)
              · have hf := (if_neg c_143_1).symm.trans hf
                exact ee_vm C0 hI hr hlocks hf dX10_command_157
              · have hf := (if_pos c_143_1).symm.trans hf
                refine lv_aload_n C0.1 C0.2.1 dX10_command_150 rfl (lv_at hl 0 rfl) ?_
                refine r_get (C := RX10) (T := TX10) (N9 := 20) (ci := 11) C0 C1 hI iX10 rfl 0 19 (Nat.le_of_ble_eq_true rfl) (by decide) ((fun _ => rfl) _) rfl rfl w_1710 dX10_command_151 ?_
                refine lv_if_ne (tgt := 158) C0.1 C0.2.1 dX10_command_154 (by decide) (fun c_143_2 => ?_) (fun c_143_2 => ?_)
                · have hf := (if_neg c_143_2).symm.trans hf
                  refine lv_aload_n C0.1 C0.2.1 dX10_command_158 rfl (lv_at hl 0 rfl) ?_
                  refine lv_iload_n C0.1 C0.2.1 dX10_command_159 rfl (lv_at hl 1 rfl) ?_
                  refine lv_iload C0.1 C0.2.1 dX10_command_160 (lv_at hl 5 rfl) ?_
                  refine lv_iload_n C0.1 C0.2.1 dX10_command_162 rfl (lv_at hl 2 rfl) ?_
                  refine lv_iload_n C0.1 C0.2.1 dX10_command_163 rfl (lv_at hl 3 rfl) ?_
                  refine lv_iload C0.1 C0.2.1 dX10_command_164 (lv_at hl 4 rfl) ?_
                  obtain ⟨r_143_4, M_143_5, h_143_3, hf⟩ := ob2_some hf
                  refine k_i C1 hI (q_V C0 C1 hI 0 (c_X10_does l g X b H.size n M x1_143 x5_143 x2_143 x3_143 x4_143 h_143_3) w_2128 w_2130 w_115 w_132 w_2131 ⟨rfl, rfl⟩ hd_X10_does ⟨Nat.le_of_ble_eq_true rfl, Nat.le_of_ble_eq_true rfl⟩ (Nat.le_of_ble_eq_true rfl) ((fun _ => rfl) _) rfl rfl rfl hl.1 rfl (Nat.le_of_ble_eq_true rfl) dX10_command_166 ⟨Nat.le_of_ble_eq_true rfl, Nat.le_of_ble_eq_true rfl⟩) (fun H locs hI => ?_)
                  refine lv_istore (lv' := [(6, .int r_143_4), (0, .ref (b 0)), (1, .int x1_143), (2, .int x2_143), (3, .int x3_143), (4, .int x4_143), (5, .int x5_143)]) C0.1 C0.2.1 dX10_command_169 hl (by decide) rfl (fun ls hl => ?_)
                  exact ee_vm C0 hI hr hlocks hf dX10_command_171
                · have hf := (if_pos c_143_2).symm.trans hf
                  exact ee_vm C0 hI hr hlocks hf dX10_command_157
            refine lv_icmp_eq (tgt := 99) C0.1 C0.2.1 dX10_command_90 (by decide) (fun c_76_11 => ?_) (fun c_76_11 => ?_)
            · have hf := (if_pos c_76_11).symm.trans hf
              refine lv_aload_n C0.1 C0.2.1 dX10_command_99 rfl (lv_at hl 0 rfl) ?_
              refine r_get (C := RX10) (T := TX10) (N9 := 20) (ci := 11) C0 C1 hI iX10 rfl 0 18 (Nat.le_of_ble_eq_true rfl) (by decide) ((fun _ => rfl) _) rfl rfl w_1709 dX10_command_100 ?_
              refine lv_if_ne (tgt := 112) C0.1 C0.2.1 dX10_command_103 (by decide) (fun c_76_12 => ?_) (fun c_76_12 => ?_)
              · have hf := (if_neg c_76_12).symm.trans hf
                exact L112 x1_76 x2_76 x3_76 x4_76 x5_76 M hf H locs ls hI (lv_sub hl [0, 1, 2, 3, 4, 5] rfl)
              · have hf := (if_pos c_76_12).symm.trans hf
                refine lv_aload_n C0.1 C0.2.1 dX10_command_106 rfl (lv_at hl 0 rfl) ?_
                refine lv_iconst (v := 2) C0.1 C0.2.1 dX10_command_107 (by decide) ?_
                obtain ⟨r_76_14, M_76_15, h_76_13, hf⟩ := ob2_some hf
                refine k_i C1 hI (q_V C0 C1 hI 0 (c_X10_behind l g X b H.size n M 2 h_76_13) w_2116 w_2118 w_112 w_132 w_2119 ⟨rfl, rfl⟩ hd_X10_behind ⟨Nat.le_of_ble_eq_true rfl, Nat.le_of_ble_eq_true rfl⟩ (Nat.le_of_ble_eq_true rfl) ((fun _ => rfl) _) rfl rfl rfl hl.1 rfl (Nat.le_of_ble_eq_true rfl) dX10_command_108 ⟨Nat.le_of_ble_eq_true rfl, Nat.le_of_ble_eq_true rfl⟩) (fun H locs hI => ?_)
                refine lv_istore_n (lv' := [(2, .int r_76_14), (0, .ref (b 0)), (1, .int x1_76), (3, .int x3_76), (4, .int x4_76), (5, .int x5_76)]) C0.1 C0.2.1 dX10_command_111 rfl hl (by decide) rfl (fun ls hl => ?_)
                exact L112 x1_76 r_76_14 x3_76 x4_76 x5_76 M_76_15 hf H locs ls hI (lv_sub hl [1, 2, 0, 3, 4, 5] rfl)
            · have hf := (if_neg c_76_11).symm.trans hf
              refine lv_iload_n C0.1 C0.2.1 dX10_command_93 rfl (lv_at hl 1 rfl) ?_
              refine lv_bipush (v := 9) C0.1 C0.2.1 dX10_command_94 (by decide) ?_
              refine lv_icmp_ne (tgt := 112) C0.1 C0.2.1 dX10_command_96 (by decide) (fun c_76_16 => ?_) (fun c_76_16 => ?_)
              · have hf := (if_neg c_76_16).symm.trans hf
                exact L112 x1_76 x2_76 x3_76 x4_76 x5_76 M hf H locs ls hI (lv_sub hl [0, 1, 2, 3, 4, 5] rfl)
              · have hf := (if_pos c_76_16).symm.trans hf
                refine lv_aload_n C0.1 C0.2.1 dX10_command_99 rfl (lv_at hl 0 rfl) ?_
                refine r_get (C := RX10) (T := TX10) (N9 := 20) (ci := 11) C0 C1 hI iX10 rfl 0 18 (Nat.le_of_ble_eq_true rfl) (by decide) ((fun _ => rfl) _) rfl rfl w_1709 dX10_command_100 ?_
                refine lv_if_ne (tgt := 112) C0.1 C0.2.1 dX10_command_103 (by decide) (fun c_76_17 => ?_) (fun c_76_17 => ?_)
                · have hf := (if_neg c_76_17).symm.trans hf
                  exact L112 x1_76 x2_76 x3_76 x4_76 x5_76 M hf H locs ls hI (lv_sub hl [0, 1, 2, 3, 4, 5] rfl)
                · have hf := (if_pos c_76_17).symm.trans hf
                  refine lv_aload_n C0.1 C0.2.1 dX10_command_106 rfl (lv_at hl 0 rfl) ?_
                  refine lv_iconst (v := 2) C0.1 C0.2.1 dX10_command_107 (by decide) ?_
                  obtain ⟨r_76_19, M_76_20, h_76_18, hf⟩ := ob2_some hf
                  refine k_i C1 hI (q_V C0 C1 hI 0 (c_X10_behind l g X b H.size n M 2 h_76_18) w_2116 w_2118 w_112 w_132 w_2119 ⟨rfl, rfl⟩ hd_X10_behind ⟨Nat.le_of_ble_eq_true rfl, Nat.le_of_ble_eq_true rfl⟩ (Nat.le_of_ble_eq_true rfl) ((fun _ => rfl) _) rfl rfl rfl hl.1 rfl (Nat.le_of_ble_eq_true rfl) dX10_command_108 ⟨Nat.le_of_ble_eq_true rfl, Nat.le_of_ble_eq_true rfl⟩) (fun H locs hI => ?_)
                  refine lv_istore_n (lv' := [(2, .int r_76_19), (0, .ref (b 0)), (1, .int x1_76), (3, .int x3_76), (4, .int x4_76), (5, .int x5_76)]) C0.1 C0.2.1 dX10_command_111 rfl hl (by decide) rfl (fun ls hl => ?_)
                  exact L112 x1_76 r_76_19 x3_76 x4_76 x5_76 M_76_20 hf H locs ls hI (lv_sub hl [1, 2, 0, 3, 4, 5] rfl)
      refine lv_icmp_gt (tgt := 35) C0.1 C0.2.1 dX10_command_28 (by decide) (fun c_9 => ?_) (fun c_9 => ?_)
      · have hf := (if_pos c_9).symm.trans hf
        refine lv_iconst (v := 1) C0.1 C0.2.1 dX10_command_35 (by decide) ?_
        obtain ⟨r_11, M_12, h_10, hf⟩ := ob2_some hf
        refine k_i C1 hI (q_V C0 C1 hI 0 (c_X10_digits l g X b H.size n M_3 1 h_10) w_2112 w_2114 w_111 w_132 w_2115 ⟨rfl, rfl⟩ hd_X10_digits ⟨Nat.le_of_ble_eq_true rfl, Nat.le_of_ble_eq_true rfl⟩ (Nat.le_of_ble_eq_true rfl) ((fun _ => rfl) _) rfl rfl rfl hl.1 rfl (Nat.le_of_ble_eq_true rfl) dX10_command_36 ⟨Nat.le_of_ble_eq_true rfl, Nat.le_of_ble_eq_true rfl⟩) (fun H locs hI => ?_)
        refine lv_istore (lv' := [(5, .int r_11), (4, .int 0), (3, .int 0), (2, .int 0), (1, .int r_2), (0, .ref (b 0))]) C0.1 C0.2.1 dX10_command_39 hl (by decide) rfl (fun ls hl => ?_)
        exact L41 r_2 0 0 0 r_11 M_12 hf H locs ls hI (lv_sub hl [5, 4, 3, 2, 1, 0] rfl)
      · have hf := (if_neg c_9).symm.trans hf
        refine lv_iconst (v := 2) C0.1 C0.2.1 dX10_command_31 (by decide) ?_
        refine lv_goto (tgt := 36) C0.1 C0.2.1 dX10_command_32 (by decide) ?_
        obtain ⟨r_14, M_15, h_13, hf⟩ := ob2_some hf
        refine k_i C1 hI (q_V C0 C1 hI 0 (c_X10_digits l g X b H.size n M_3 2 h_13) w_2112 w_2114 w_111 w_132 w_2115 ⟨rfl, rfl⟩ hd_X10_digits ⟨Nat.le_of_ble_eq_true rfl, Nat.le_of_ble_eq_true rfl⟩ (Nat.le_of_ble_eq_true rfl) ((fun _ => rfl) _) rfl rfl rfl hl.1 rfl (Nat.le_of_ble_eq_true rfl) dX10_command_36 ⟨Nat.le_of_ble_eq_true rfl, Nat.le_of_ble_eq_true rfl⟩) (fun H locs hI => ?_)
        refine lv_istore (lv' := [(5, .int r_14), (4, .int 0), (3, .int 0), (2, .int 0), (1, .int r_2), (0, .ref (b 0))]) C0.1 C0.2.1 dX10_command_39 hl (by decide) rfl (fun ls hl => ?_)
        exact L41 r_2 0 0 0 r_14 M_15 hf H locs ls hI (lv_sub hl [5, 4, 3, 2, 1, 0] rfl)
  · have hf := (if_neg c_4).symm.trans hf
    exact ee_vm C0 hI hr hlocks hf dX10_command_19

def F_X10_commands_L16 (n : Nat) : Nat → Int32 → Mem → Option (Int32 × Mem)
  | 0, _, _ => none
  | k16 + 1, x1_16, M =>
    (if (M 0 18) = 0 then (if (M 0 0) = 0 then (if (M 0 16) ≤ (M 0 15) then some (x1_16, M) else ob (F_X10_mark n 59 M) (fun M_16_5 => (if (M_16_5 0 18) = 0 then ob (F_X10_command n M_16_5) (fun M_16_10 => lt' (x1_16 + 1) (fun x1_16_11 => F_X10_commands_L16 n k16 x1_16_11 M_16_10)) else lt' (x1_16 + 1) (fun x1_16_7 => F_X10_commands_L16 n k16 x1_16_7 M_16_5)))) else some (x1_16, M)) else some (x1_16, M))
def F_X10_commands (n : Nat) (M : Mem) : Option (Int32 × Mem) :=
  lt' (up2 M 0 15 0) (fun M_1 => lt' (up2 M_1 0 18 0) (fun M_3 => ob (F_X10_command n M_3) (fun M_6 => F_X10_commands_L16 n n 1 M_6)))
theorem hd_X10_commands : yX10_commands.cls ≠ "java/lang/invoke/MethodHandle" ∧ yX10_commands.cls ≠ "java/lang/invoke/VarHandle" ∧ (parseMethodDescriptor yX10_commands.desc).map (fun d => d.parameters.length) = some 0 := ⟨by decide +kernel, by decide +kernel, by decide +kernel⟩
set_option maxHeartbeats 4000000 in
set_option maxRecDepth 100000 in
theorem c_X10_commands (l : Launch) (g : GG) (X : va_W) (b : Nat → Nat) (sz n : Nat) (M : Mem) {r0 : Int32} {M' : Mem} (hf : F_X10_commands n M = some (r0, M')) : Met l yX10_commands (.code yX10_commands cX10_commands 2 (some .int) :: LWg) (rmD 6 0 0) (va_Pc [.ref (b 0)] (PreP g X 10 (shM g b) b sz M)) (Qi g X 10 (shM g b) b sz r0 M') 0 0 (AA X b 10 sz) := by
  refine met_go (by decide +kernel) rfl (Nat.le_of_ble_eq_true rfl) ?_
  intro p e s m below meth c ls H locs C0 C1 hr hlocks hnm hsz hl hI
  subst hsz
  have hl : lv_has ls 2 [(0, .ref (b 0))] := hl
  unfold F_X10_commands at hf
  refine lv_aload_n C0.1 C0.2.1 dX10_commands_0 rfl (lv_at hl 0 rfl) ?_
  refine lv_iconst (v := 0) C0.1 C0.2.1 dX10_commands_1 (by decide) ?_
  refine r_put (C := RX10) (T := TX10) (N9 := 20) (ci := 11) (fs := fM b) (ty := .int) C0 C1 hI iX10 tyX10 tyX10_ok nmX10 rfl 0 15 (Nat.le_of_ble_eq_true rfl) (by decide) (fun _ => rfl) rfl rfl rfl (by decide +kernel) ⟨rfl, rfl⟩ (Nat.le_of_ble_eq_true rfl) w_1706 dX10_commands_2 (fun H locs hI => ?_)
  obtain ⟨M_1, e_2⟩ : ∃ z : Mem, z = up2 M 0 15 0 := ⟨_, rfl⟩
  rw [← e_2] at hI
  have hf := lt_at e_2 hf
  refine lv_aload_n C0.1 C0.2.1 dX10_commands_5 rfl (lv_at hl 0 rfl) ?_
  refine lv_iconst (v := 0) C0.1 C0.2.1 dX10_commands_6 (by decide) ?_
  refine r_put (C := RX10) (T := TX10) (N9 := 20) (ci := 11) (fs := fM b) (ty := .boolean) C0 C1 hI iX10 tyX10 tyX10_ok nmX10 rfl 0 18 (Nat.le_of_ble_eq_true rfl) (by decide) (fun _ => rfl) rfl rfl rfl (by decide +kernel) ⟨rfl, rfl⟩ (Nat.le_of_ble_eq_true rfl) w_1709 dX10_commands_7 (fun H locs hI => ?_)
  obtain ⟨M_3, e_4⟩ : ∃ z : Mem, z = up2 M_1 0 18 0 := ⟨_, rfl⟩
  rw [← e_4] at hI
  have hf := lt_at e_4 hf
  refine lv_iconst (v := 1) C0.1 C0.2.1 dX10_commands_10 (by decide) ?_
  refine lv_istore_n (lv' := [(1, .int 1), (0, .ref (b 0))]) C0.1 C0.2.1 dX10_commands_11 rfl hl (by decide) rfl (fun ls hl => ?_)
  refine lv_aload_n C0.1 C0.2.1 dX10_commands_12 rfl (lv_at hl 1 rfl) ?_
  obtain ⟨M_6, h_5, hf⟩ := ob_some hf
  refine k_v C1 hI (q_V C0 C1 hI 0 (c_X10_command l g X b H.size n M_3 h_5) w_2100 w_2102 w_108 w_132 w_2103 ⟨rfl, rfl⟩ hd_X10_command ⟨Nat.le_of_ble_eq_true rfl, Nat.le_of_ble_eq_true rfl⟩ (Nat.le_of_ble_eq_true rfl) ((fun _ => rfl) _) rfl rfl rfl hl.1 rfl (Nat.le_of_ble_eq_true rfl) dX10_commands_13 ⟨Nat.le_of_ble_eq_true rfl, Nat.le_of_ble_eq_true rfl⟩) (fun H locs hI => ?_)
  have L16 : ∀ (k16 : Nat) (x1_16 : Int32) (M : Mem), F_X10_commands_L16 n k16 x1_16 M = some (r0, M') → ∀ (H : Heap) (locs : List Loc) (ls : Array Slot), PI g X 10 (shM g b) b s M H locs → lv_has ls 2 [(0, .ref (b 0)), (1, .int x1_16)] → W p l e (rmD 6 0 0) s m ([.ref (b 0)] : List Value).toArray below meth c H locs 0 0 (MQ below (Qi g X 10 (shM g b) b s.heap.size r0 M') ([.ref (b 0)] : List Value).toArray s 0 0 (AA X b 10 s.heap.size)) (F0 m 16 ls []) := by
    intro k16
    induction k16 with
    | zero => intro x1_16 M hf; exact absurd (show (none : Option (Int32 × Mem)) = some (r0, M') from hf) (fun h => by cases h)
    | succ k16 ih16 =>
      intro x1_16 M hf H locs ls hI hl
      unfold F_X10_commands_L16 at hf
      refine lv_aload_n C0.1 C0.2.1 dX10_commands_16 rfl (lv_at hl 0 rfl) ?_
      refine r_get (C := RX10) (T := TX10) (N9 := 20) (ci := 11) C0 C1 hI iX10 rfl 0 18 (Nat.le_of_ble_eq_true rfl) (by decide) ((fun _ => rfl) _) rfl rfl w_1709 dX10_commands_17 ?_
      refine lv_if_ne (tgt := 64) C0.1 C0.2.1 dX10_commands_20 (by decide) (fun c_16_1 => ?_) (fun c_16_1 => ?_)
      · have hf := (if_neg c_16_1).symm.trans hf
        refine lv_iload_n C0.1 C0.2.1 dX10_commands_64 rfl (lv_at hl 1 rfl) ?_
        exact ee_im C0 hI hr hlocks hf dX10_commands_65
      · have hf := (if_pos c_16_1).symm.trans hf
        refine lv_aload_n C0.1 C0.2.1 dX10_commands_23 rfl (lv_at hl 0 rfl) ?_
        refine r_get (C := RX10) (T := TX10) (N9 := 20) (ci := 11) C0 C1 hI iX10 rfl 0 0 (Nat.le_of_ble_eq_true rfl) (by decide) ((fun _ => rfl) _) rfl rfl w_1691 dX10_commands_24 ?_
        refine lv_if_ne (tgt := 64) C0.1 C0.2.1 dX10_commands_27 (by decide) (fun c_16_2 => ?_) (fun c_16_2 => ?_)
        · have hf := (if_neg c_16_2).symm.trans hf
          refine lv_iload_n C0.1 C0.2.1 dX10_commands_64 rfl (lv_at hl 1 rfl) ?_
          exact ee_im C0 hI hr hlocks hf dX10_commands_65
        · have hf := (if_pos c_16_2).symm.trans hf
          refine lv_aload_n C0.1 C0.2.1 dX10_commands_30 rfl (lv_at hl 0 rfl) ?_
          refine r_get (C := RX10) (T := TX10) (N9 := 20) (ci := 11) C0 C1 hI iX10 rfl 0 15 (Nat.le_of_ble_eq_true rfl) (by decide) ((fun _ => rfl) _) rfl rfl w_1706 dX10_commands_31 ?_
          refine lv_aload_n C0.1 C0.2.1 dX10_commands_34 rfl (lv_at hl 0 rfl) ?_
          refine r_get (C := RX10) (T := TX10) (N9 := 20) (ci := 11) C0 C1 hI iX10 rfl 0 16 (Nat.le_of_ble_eq_true rfl) (by decide) ((fun _ => rfl) _) rfl rfl w_1707 dX10_commands_35 ?_
          refine lv_icmp_ge (tgt := 64) C0.1 C0.2.1 dX10_commands_38 (by decide) (fun c_16_3 => ?_) (fun c_16_3 => ?_)
          · have hf := (if_pos c_16_3).symm.trans hf
            refine lv_iload_n C0.1 C0.2.1 dX10_commands_64 rfl (lv_at hl 1 rfl) ?_
            exact ee_im C0 hI hr hlocks hf dX10_commands_65
          · have hf := (if_neg c_16_3).symm.trans hf
            refine lv_aload_n C0.1 C0.2.1 dX10_commands_41 rfl (lv_at hl 0 rfl) ?_
            refine lv_bipush (v := 59) C0.1 C0.2.1 dX10_commands_42 (by decide) ?_
            obtain ⟨M_16_5, h_16_4, hf⟩ := ob_some hf
            refine k_v C1 hI (q_V C0 C1 hI 0 (c_X10_mark l g X b H.size n M 59 h_16_4) w_2120 w_2122 w_113 w_132 w_2123 ⟨rfl, rfl⟩ hd_X10_mark ⟨Nat.le_of_ble_eq_true rfl, Nat.le_of_ble_eq_true rfl⟩ (Nat.le_of_ble_eq_true rfl) ((fun _ => rfl) _) rfl rfl rfl hl.1 rfl (Nat.le_of_ble_eq_true rfl) dX10_commands_44 ⟨Nat.le_of_ble_eq_true rfl, Nat.le_of_ble_eq_true rfl⟩) (fun H locs hI => ?_)
            refine lv_aload_n C0.1 C0.2.1 dX10_commands_47 rfl (lv_at hl 0 rfl) ?_
            refine r_get (C := RX10) (T := TX10) (N9 := 20) (ci := 11) C0 C1 hI iX10 rfl 0 18 (Nat.le_of_ble_eq_true rfl) (by decide) ((fun _ => rfl) _) rfl rfl w_1709 dX10_commands_48 ?_
            refine lv_if_ne (tgt := 58) C0.1 C0.2.1 dX10_commands_51 (by decide) (fun c_16_6 => ?_) (fun c_16_6 => ?_)
            · have hf := (if_neg c_16_6).symm.trans hf
              obtain ⟨x1_16_7, e_16_8⟩ : ∃ z : Int32, z = x1_16 + 1 := ⟨_, rfl⟩
              have hf := lt_at e_16_8 hf
              refine lv_iinc (v := x1_16_7) (lv' := [(1, .int x1_16_7), (0, .ref (b 0))]) C0.1 C0.2.1 dX10_commands_58 hl (k := 1) rfl (by rw [e_16_8]; rfl) (by decide) rfl (fun ls hl => ?_)
              refine lv_goto (tgt := 16) C0.1 C0.2.1 dX10_commands_61 (by decide) ?_
              exact ih16 x1_16_7 M_16_5 hf H locs ls hI (lv_sub hl [1, 0] rfl)
            · have hf := (if_pos c_16_6).symm.trans hf
              refine lv_aload_n C0.1 C0.2.1 dX10_commands_54 rfl (lv_at hl 0 rfl) ?_
              obtain ⟨M_16_10, h_16_9, hf⟩ := ob_some hf
              refine k_v C1 hI (q_V C0 C1 hI 0 (c_X10_command l g X b H.size n M_16_5 h_16_9) w_2100 w_2102 w_108 w_132 w_2103 ⟨rfl, rfl⟩ hd_X10_command ⟨Nat.le_of_ble_eq_true rfl, Nat.le_of_ble_eq_true rfl⟩ (Nat.le_of_ble_eq_true rfl) ((fun _ => rfl) _) rfl rfl rfl hl.1 rfl (Nat.le_of_ble_eq_true rfl) dX10_commands_55 ⟨Nat.le_of_ble_eq_true rfl, Nat.le_of_ble_eq_true rfl⟩) (fun H locs hI => ?_)
              obtain ⟨x1_16_11, e_16_12⟩ : ∃ z : Int32, z = x1_16 + 1 := ⟨_, rfl⟩
              have hf := lt_at e_16_12 hf
              refine lv_iinc (v := x1_16_11) (lv' := [(1, .int x1_16_11), (0, .ref (b 0))]) C0.1 C0.2.1 dX10_commands_58 hl (k := 1) rfl (by rw [e_16_12]; rfl) (by decide) rfl (fun ls hl => ?_)
              refine lv_goto (tgt := 16) C0.1 C0.2.1 dX10_commands_61 (by decide) ?_
              exact ih16 x1_16_11 M_16_10 hf H locs ls hI (lv_sub hl [1, 0] rfl)
  exact L16 n 1 M_6 hf H locs ls hI (lv_sub hl [1, 0] rfl)

def F_X10_run (n : Nat) (M : Mem) : Option (Int32 × Mem) :=
  ob (F_X10_begins n M) (fun M_2 => lt' (up2 M_2 0 16 (M_2 0 14)) (fun M_3 => lt' (up2 M_3 0 14 0) (fun M_5 => lt' (up2 M_5 0 19 0) (fun M_7 => ob2 (F_X10_commands n M_7) (fun r_10 M_11 => (if (M_11 0 18) = 0 then lt' (up2 M_11 0 19 1) (fun M_13 => ob2 (F_X10_commands n M_13) (fun r_16 M_17 => (if (M_17 0 0) = 0 then ob2 (F_X10_ends n r_16 M_17) (fun r_20 M_21 => some (r_20, M_21)) else lt' (up2 M_17 0 3 (r_16 - 1)) (fun M_22 => lt' (up2 M_22 0 0 2) (fun M_24 => ob2 (F_X10_ends n r_16 M_24) (fun r_27 M_28 => some (r_27, M_28))))))) else lt' (up2 M_11 0 2 (M_11 0 15)) (fun M_29 => ob2 (F_X10_fail n 1 M_29) (fun r_32 M_33 => some (r_32, M_33)))))))))
theorem hd_X10_run : yX10_run.cls ≠ "java/lang/invoke/MethodHandle" ∧ yX10_run.cls ≠ "java/lang/invoke/VarHandle" ∧ (parseMethodDescriptor yX10_run.desc).map (fun d => d.parameters.length) = some 0 := ⟨by decide +kernel, by decide +kernel, by decide +kernel⟩
set_option maxHeartbeats 4000000 in
set_option maxRecDepth 100000 in
theorem c_X10_run (l : Launch) (g : GG) (X : va_W) (b : Nat → Nat) (sz n : Nat) (M : Mem) {r0 : Int32} {M' : Mem} (hf : F_X10_run n M = some (r0, M')) : Met l yX10_run (.code yX10_run cX10_run 2 (some .int) :: LWg) (rmD 7 0 0) (va_Pc [.ref (b 0)] (PreP g X 10 (shM g b) b sz M)) (Qi g X 10 (shM g b) b sz r0 M') 0 0 (AA X b 10 sz) := by
  refine met_go (by decide +kernel) rfl (Nat.le_of_ble_eq_true rfl) ?_
  intro p e s m below meth c ls H locs C0 C1 hr hlocks hnm hsz hl hI
  subst hsz
  have hl : lv_has ls 2 [(0, .ref (b 0))] := hl
  unfold F_X10_run at hf
  refine lv_aload_n C0.1 C0.2.1 dX10_run_0 rfl (lv_at hl 0 rfl) ?_
  obtain ⟨M_2, h_1, hf⟩ := ob_some hf
  refine k_v C1 hI (q_V C0 C1 hI 0 (c_X10_begins l g X b H.size n M h_1) w_1760 w_1762 w_70 w_132 w_1763 ⟨rfl, rfl⟩ hd_X10_begins ⟨Nat.le_of_ble_eq_true rfl, Nat.le_of_ble_eq_true rfl⟩ (Nat.le_of_ble_eq_true rfl) ((fun _ => rfl) _) rfl rfl rfl hl.1 rfl (Nat.le_of_ble_eq_true rfl) dX10_run_1 ⟨Nat.le_of_ble_eq_true rfl, Nat.le_of_ble_eq_true rfl⟩) (fun H locs hI => ?_)
  refine lv_aload_n C0.1 C0.2.1 dX10_run_4 rfl (lv_at hl 0 rfl) ?_
  refine lv_aload_n C0.1 C0.2.1 dX10_run_5 rfl (lv_at hl 0 rfl) ?_
  refine r_get (C := RX10) (T := TX10) (N9 := 20) (ci := 11) C0 C1 hI iX10 rfl 0 14 (Nat.le_of_ble_eq_true rfl) (by decide) ((fun _ => rfl) _) rfl rfl w_1705 dX10_run_6 ?_
  refine r_put (C := RX10) (T := TX10) (N9 := 20) (ci := 11) (fs := fM b) (ty := .int) C0 C1 hI iX10 tyX10 tyX10_ok nmX10 rfl 0 16 (Nat.le_of_ble_eq_true rfl) (by decide) (fun _ => rfl) rfl rfl rfl (by decide +kernel) ⟨rfl, rfl⟩ (Nat.le_of_ble_eq_true rfl) w_1707 dX10_run_9 (fun H locs hI => ?_)
  obtain ⟨M_3, e_4⟩ : ∃ z : Mem, z = up2 M_2 0 16 (M_2 0 14) := ⟨_, rfl⟩
  rw [← e_4] at hI
  have hf := lt_at e_4 hf
  refine lv_aload_n C0.1 C0.2.1 dX10_run_12 rfl (lv_at hl 0 rfl) ?_
  refine lv_iconst (v := 0) C0.1 C0.2.1 dX10_run_13 (by decide) ?_
  refine r_put (C := RX10) (T := TX10) (N9 := 20) (ci := 11) (fs := fM b) (ty := .int) C0 C1 hI iX10 tyX10 tyX10_ok nmX10 rfl 0 14 (Nat.le_of_ble_eq_true rfl) (by decide) (fun _ => rfl) rfl rfl rfl (by decide +kernel) ⟨rfl, rfl⟩ (Nat.le_of_ble_eq_true rfl) w_1705 dX10_run_14 (fun H locs hI => ?_)
  obtain ⟨M_5, e_6⟩ : ∃ z : Mem, z = up2 M_3 0 14 0 := ⟨_, rfl⟩
  rw [← e_6] at hI
  have hf := lt_at e_6 hf
  refine lv_aload_n C0.1 C0.2.1 dX10_run_17 rfl (lv_at hl 0 rfl) ?_
  refine lv_iconst (v := 0) C0.1 C0.2.1 dX10_run_18 (by decide) ?_
  refine r_put (C := RX10) (T := TX10) (N9 := 20) (ci := 11) (fs := fM b) (ty := .boolean) C0 C1 hI iX10 tyX10 tyX10_ok nmX10 rfl 0 19 (Nat.le_of_ble_eq_true rfl) (by decide) (fun _ => rfl) rfl rfl rfl (by decide +kernel) ⟨rfl, rfl⟩ (Nat.le_of_ble_eq_true rfl) w_1710 dX10_run_19 (fun H locs hI => ?_)
  obtain ⟨M_7, e_8⟩ : ∃ z : Mem, z = up2 M_5 0 19 0 := ⟨_, rfl⟩
  rw [← e_8] at hI
  have hf := lt_at e_8 hf
  refine lv_aload_n C0.1 C0.2.1 dX10_run_22 rfl (lv_at hl 0 rfl) ?_
  obtain ⟨r_10, M_11, h_9, hf⟩ := ob2_some hf
  refine k_i C1 hI (q_V C0 C1 hI 0 (c_X10_commands l g X b H.size n M_7 h_9) w_2096 w_2098 w_107 w_132 w_2099 ⟨rfl, rfl⟩ hd_X10_commands ⟨Nat.le_of_ble_eq_true rfl, Nat.le_of_ble_eq_true rfl⟩ (Nat.le_of_ble_eq_true rfl) ((fun _ => rfl) _) rfl rfl rfl hl.1 rfl (Nat.le_of_ble_eq_true rfl) dX10_run_23 ⟨Nat.le_of_ble_eq_true rfl, Nat.le_of_ble_eq_true rfl⟩) (fun H locs hI => ?_)
  refine lv_istore_n (lv' := [(1, .int r_10), (0, .ref (b 0))]) C0.1 C0.2.1 dX10_run_26 rfl hl (by decide) rfl (fun ls hl => ?_)
  refine lv_aload_n C0.1 C0.2.1 dX10_run_27 rfl (lv_at hl 1 rfl) ?_
  refine r_get (C := RX10) (T := TX10) (N9 := 20) (ci := 11) C0 C1 hI iX10 rfl 0 18 (Nat.le_of_ble_eq_true rfl) (by decide) ((fun _ => rfl) _) rfl rfl w_1709 dX10_run_28 ?_
  refine lv_if_eq (tgt := 48) C0.1 C0.2.1 dX10_run_31 (by decide) (fun c_12 => ?_) (fun c_12 => ?_)
  · have hf := (if_pos c_12).symm.trans hf
    refine lv_aload_n C0.1 C0.2.1 dX10_run_48 rfl (lv_at hl 1 rfl) ?_
    refine lv_iconst (v := 1) C0.1 C0.2.1 dX10_run_49 (by decide) ?_
    refine r_put (C := RX10) (T := TX10) (N9 := 20) (ci := 11) (fs := fM b) (ty := .boolean) C0 C1 hI iX10 tyX10 tyX10_ok nmX10 rfl 0 19 (Nat.le_of_ble_eq_true rfl) (by decide) (fun _ => rfl) rfl rfl rfl (by decide +kernel) ⟨rfl, rfl⟩ (Nat.le_of_ble_eq_true rfl) w_1710 dX10_run_50 (fun H locs hI => ?_)
    obtain ⟨M_13, e_14⟩ : ∃ z : Mem, z = up2 M_11 0 19 1 := ⟨_, rfl⟩
    rw [← e_14] at hI
    have hf := lt_at e_14 hf
    refine lv_aload_n C0.1 C0.2.1 dX10_run_53 rfl (lv_at hl 1 rfl) ?_
    obtain ⟨r_16, M_17, h_15, hf⟩ := ob2_some hf
    refine k_i C1 hI (q_V C0 C1 hI 0 (c_X10_commands l g X b H.size n M_13 h_15) w_2096 w_2098 w_107 w_132 w_2099 ⟨rfl, rfl⟩ hd_X10_commands ⟨Nat.le_of_ble_eq_true rfl, Nat.le_of_ble_eq_true rfl⟩ (Nat.le_of_ble_eq_true rfl) ((fun _ => rfl) _) rfl rfl rfl hl.1 rfl (Nat.le_of_ble_eq_true rfl) dX10_run_54 ⟨Nat.le_of_ble_eq_true rfl, Nat.le_of_ble_eq_true rfl⟩) (fun H locs hI => ?_)
    refine lv_istore_n (lv' := [(1, .int r_16), (0, .ref (b 0))]) C0.1 C0.2.1 dX10_run_57 rfl hl (by decide) rfl (fun ls hl => ?_)
    refine lv_aload_n C0.1 C0.2.1 dX10_run_58 rfl (lv_at hl 1 rfl) ?_
    refine r_get (C := RX10) (T := TX10) (N9 := 20) (ci := 11) C0 C1 hI iX10 rfl 0 0 (Nat.le_of_ble_eq_true rfl) (by decide) ((fun _ => rfl) _) rfl rfl w_1691 dX10_run_59 ?_
    refine lv_if_eq (tgt := 77) C0.1 C0.2.1 dX10_run_62 (by decide) (fun c_18 => ?_) (fun c_18 => ?_)
    · have hf := (if_pos c_18).symm.trans hf
      refine lv_aload_n C0.1 C0.2.1 dX10_run_77 rfl (lv_at hl 1 rfl) ?_
      refine lv_iload_n C0.1 C0.2.1 dX10_run_78 rfl (lv_at hl 0 rfl) ?_
      obtain ⟨r_20, M_21, h_19, hf⟩ := ob2_some hf
      refine k_i C1 hI (q_V C0 C1 hI 0 (c_X10_ends l g X b H.size n M_17 r_16 h_19) w_1778 w_1780 w_73 w_132 w_1781 ⟨rfl, rfl⟩ hd_X10_ends ⟨Nat.le_of_ble_eq_true rfl, Nat.le_of_ble_eq_true rfl⟩ (Nat.le_of_ble_eq_true rfl) ((fun _ => rfl) _) rfl rfl rfl hl.1 rfl (Nat.le_of_ble_eq_true rfl) dX10_run_79 ⟨Nat.le_of_ble_eq_true rfl, Nat.le_of_ble_eq_true rfl⟩) (fun H locs hI => ?_)
      exact ee_im C0 hI hr hlocks hf dX10_run_82
    · have hf := (if_neg c_18).symm.trans hf
      refine lv_aload_n C0.1 C0.2.1 dX10_run_65 rfl (lv_at hl 1 rfl) ?_
      refine lv_iload_n C0.1 C0.2.1 dX10_run_66 rfl (lv_at hl 0 rfl) ?_
      refine lv_iconst (v := 1) C0.1 C0.2.1 dX10_run_67 (by decide) ?_
      refine lv_isub C0.1 C0.2.1 dX10_run_68 ?_
      refine r_put (C := RX10) (T := TX10) (N9 := 20) (ci := 11) (fs := fM b) (ty := .int) C0 C1 hI iX10 tyX10 tyX10_ok nmX10 rfl 0 3 (Nat.le_of_ble_eq_true rfl) (by decide) (fun _ => rfl) rfl rfl rfl (by decide +kernel) ⟨rfl, rfl⟩ (Nat.le_of_ble_eq_true rfl) w_1694 dX10_run_69 (fun H locs hI => ?_)
      obtain ⟨M_22, e_23⟩ : ∃ z : Mem, z = up2 M_17 0 3 (r_16 - 1) := ⟨_, rfl⟩
      rw [← e_23] at hI
      have hf := lt_at e_23 hf
      refine lv_aload_n C0.1 C0.2.1 dX10_run_72 rfl (lv_at hl 1 rfl) ?_
      refine lv_iconst (v := 2) C0.1 C0.2.1 dX10_run_73 (by decide) ?_
      refine r_put (C := RX10) (T := TX10) (N9 := 20) (ci := 11) (fs := fM b) (ty := .int) C0 C1 hI iX10 tyX10 tyX10_ok nmX10 rfl 0 0 (Nat.le_of_ble_eq_true rfl) (by decide) (fun _ => rfl) rfl rfl rfl (by decide +kernel) ⟨rfl, rfl⟩ (Nat.le_of_ble_eq_true rfl) w_1691 dX10_run_74 (fun H locs hI => ?_)
      obtain ⟨M_24, e_25⟩ : ∃ z : Mem, z = up2 M_22 0 0 2 := ⟨_, rfl⟩
      rw [← e_25] at hI
      have hf := lt_at e_25 hf
      refine lv_aload_n C0.1 C0.2.1 dX10_run_77 rfl (lv_at hl 1 rfl) ?_
      refine lv_iload_n C0.1 C0.2.1 dX10_run_78 rfl (lv_at hl 0 rfl) ?_
      obtain ⟨r_27, M_28, h_26, hf⟩ := ob2_some hf
      refine k_i C1 hI (q_V C0 C1 hI 0 (c_X10_ends l g X b H.size n M_24 r_16 h_26) w_1778 w_1780 w_73 w_132 w_1781 ⟨rfl, rfl⟩ hd_X10_ends ⟨Nat.le_of_ble_eq_true rfl, Nat.le_of_ble_eq_true rfl⟩ (Nat.le_of_ble_eq_true rfl) ((fun _ => rfl) _) rfl rfl rfl hl.1 rfl (Nat.le_of_ble_eq_true rfl) dX10_run_79 ⟨Nat.le_of_ble_eq_true rfl, Nat.le_of_ble_eq_true rfl⟩) (fun H locs hI => ?_)
      exact ee_im C0 hI hr hlocks hf dX10_run_82
  · have hf := (if_neg c_12).symm.trans hf
    refine lv_aload_n C0.1 C0.2.1 dX10_run_34 rfl (lv_at hl 1 rfl) ?_
    refine lv_aload_n C0.1 C0.2.1 dX10_run_35 rfl (lv_at hl 1 rfl) ?_
    refine r_get (C := RX10) (T := TX10) (N9 := 20) (ci := 11) C0 C1 hI iX10 rfl 0 15 (Nat.le_of_ble_eq_true rfl) (by decide) ((fun _ => rfl) _) rfl rfl w_1706 dX10_run_36 ?_
    refine r_put (C := RX10) (T := TX10) (N9 := 20) (ci := 11) (fs := fM b) (ty := .int) C0 C1 hI iX10 tyX10 tyX10_ok nmX10 rfl 0 2 (Nat.le_of_ble_eq_true rfl) (by decide) (fun _ => rfl) rfl rfl rfl (by decide +kernel) ⟨rfl, rfl⟩ (Nat.le_of_ble_eq_true rfl) w_1693 dX10_run_39 (fun H locs hI => ?_)
    obtain ⟨M_29, e_30⟩ : ∃ z : Mem, z = up2 M_11 0 2 (M_11 0 15) := ⟨_, rfl⟩
    rw [← e_30] at hI
    have hf := lt_at e_30 hf
    refine lv_aload_n C0.1 C0.2.1 dX10_run_42 rfl (lv_at hl 1 rfl) ?_
    refine lv_iconst (v := 1) C0.1 C0.2.1 dX10_run_43 (by decide) ?_
    obtain ⟨r_32, M_33, h_31, hf⟩ := ob2_some hf
    refine k_i C1 hI (q_V C0 C1 hI 0 (c_X10_fail l g X b H.size n M_29 1 h_31) w_1774 w_1776 w_72 w_132 w_1777 ⟨rfl, rfl⟩ hd_X10_fail ⟨Nat.le_of_ble_eq_true rfl, Nat.le_of_ble_eq_true rfl⟩ (Nat.le_of_ble_eq_true rfl) ((fun _ => rfl) _) rfl rfl rfl hl.1 rfl (Nat.le_of_ble_eq_true rfl) dX10_run_44 ⟨Nat.le_of_ble_eq_true rfl, Nat.le_of_ble_eq_true rfl⟩) (fun H locs hI => ?_)
    exact ee_im C0 hI hr hlocks hf dX10_run_47

def F_X10_errorPosition (n : Nat) (M : Mem) : Option (Int32 × Mem) :=
  (if 0 ≤ (M 0 2) then lt' (up2 M 0 0 0) (fun M_2 => (if (M_2 0 0) = 0 then some (M_2 0 2, M_2) else some (0, M_2))) else lt' (up2 M 0 0 1) (fun M_5 => (if (M_5 0 0) = 0 then some (M_5 0 2, M_5) else some (0, M_5))))
theorem hd_X10_errorPosition : yX10_errorPosition.cls ≠ "java/lang/invoke/MethodHandle" ∧ yX10_errorPosition.cls ≠ "java/lang/invoke/VarHandle" ∧ (parseMethodDescriptor yX10_errorPosition.desc).map (fun d => d.parameters.length) = some 0 := ⟨by decide +kernel, by decide +kernel, by decide +kernel⟩
set_option maxHeartbeats 4000000 in
set_option maxRecDepth 100000 in
theorem c_X10_errorPosition (l : Launch) (g : GG) (X : va_W) (b : Nat → Nat) (sz n : Nat) (M : Mem) {r0 : Int32} {M' : Mem} (hf : F_X10_errorPosition n M = some (r0, M')) : Met l yX10_errorPosition (.code yX10_errorPosition cX10_errorPosition 1 (some .int) :: LWg) (rmD 0 0 0) (va_Pc [.ref (b 0)] (PreP g X 10 (shM g b) b sz M)) (Qi g X 10 (shM g b) b sz r0 M') 0 0 (AA X b 10 sz) := by
  refine met_go (by decide +kernel) rfl (Nat.le_of_ble_eq_true rfl) ?_
  intro p e s m below meth c ls H locs C0 C1 hr hlocks hnm hsz hl hI
  subst hsz
  have hl : lv_has ls 1 [(0, .ref (b 0))] := hl
  unfold F_X10_errorPosition at hf
  refine lv_aload_n C0.1 C0.2.1 dX10_errorPosition_0 rfl (lv_at hl 0 rfl) ?_
  refine lv_aload_n C0.1 C0.2.1 dX10_errorPosition_1 rfl (lv_at hl 0 rfl) ?_
  refine r_get (C := RX10) (T := TX10) (N9 := 20) (ci := 11) C0 C1 hI iX10 rfl 0 2 (Nat.le_of_ble_eq_true rfl) (by decide) ((fun _ => rfl) _) rfl rfl w_1693 dX10_errorPosition_2 ?_
  refine lv_if_ge (tgt := 12) C0.1 C0.2.1 dX10_errorPosition_5 (by decide) (fun c_1 => ?_) (fun c_1 => ?_)
  · have hf := (if_pos c_1).symm.trans hf
    refine lv_iconst (v := 0) C0.1 C0.2.1 dX10_errorPosition_12 (by decide) ?_
    refine r_put (C := RX10) (T := TX10) (N9 := 20) (ci := 11) (fs := fM b) (ty := .int) C0 C1 hI iX10 tyX10 tyX10_ok nmX10 rfl 0 0 (Nat.le_of_ble_eq_true rfl) (by decide) (fun _ => rfl) rfl rfl rfl (by decide +kernel) ⟨rfl, rfl⟩ (Nat.le_of_ble_eq_true rfl) w_1691 dX10_errorPosition_13 (fun H locs hI => ?_)
    obtain ⟨M_2, e_3⟩ : ∃ z : Mem, z = up2 M 0 0 0 := ⟨_, rfl⟩
    rw [← e_3] at hI
    have hf := lt_at e_3 hf
    refine lv_aload_n C0.1 C0.2.1 dX10_errorPosition_16 rfl (lv_at hl 0 rfl) ?_
    refine r_get (C := RX10) (T := TX10) (N9 := 20) (ci := 11) C0 C1 hI iX10 rfl 0 0 (Nat.le_of_ble_eq_true rfl) (by decide) ((fun _ => rfl) _) rfl rfl w_1691 dX10_errorPosition_17 ?_
    refine lv_if_ne (tgt := 30) C0.1 C0.2.1 dX10_errorPosition_20 (by decide) (fun c_4 => ?_) (fun c_4 => ?_)
    · have hf := (if_neg c_4).symm.trans hf
      refine lv_iconst (v := 0) C0.1 C0.2.1 dX10_errorPosition_30 (by decide) ?_
      exact ee_im C0 hI hr hlocks hf dX10_errorPosition_31
    · have hf := (if_pos c_4).symm.trans hf
      refine lv_aload_n C0.1 C0.2.1 dX10_errorPosition_23 rfl (lv_at hl 0 rfl) ?_
      refine r_get (C := RX10) (T := TX10) (N9 := 20) (ci := 11) C0 C1 hI iX10 rfl 0 2 (Nat.le_of_ble_eq_true rfl) (by decide) ((fun _ => rfl) _) rfl rfl w_1693 dX10_errorPosition_24 ?_
      refine lv_goto (tgt := 31) C0.1 C0.2.1 dX10_errorPosition_27 (by decide) ?_
      exact ee_im C0 hI hr hlocks hf dX10_errorPosition_31
  · have hf := (if_neg c_1).symm.trans hf
    refine lv_iconst (v := 1) C0.1 C0.2.1 dX10_errorPosition_8 (by decide) ?_
    refine lv_goto (tgt := 13) C0.1 C0.2.1 dX10_errorPosition_9 (by decide) ?_
    refine r_put (C := RX10) (T := TX10) (N9 := 20) (ci := 11) (fs := fM b) (ty := .int) C0 C1 hI iX10 tyX10 tyX10_ok nmX10 rfl 0 0 (Nat.le_of_ble_eq_true rfl) (by decide) (fun _ => rfl) rfl rfl rfl (by decide +kernel) ⟨rfl, rfl⟩ (Nat.le_of_ble_eq_true rfl) w_1691 dX10_errorPosition_13 (fun H locs hI => ?_)
    obtain ⟨M_5, e_6⟩ : ∃ z : Mem, z = up2 M 0 0 1 := ⟨_, rfl⟩
    rw [← e_6] at hI
    have hf := lt_at e_6 hf
    refine lv_aload_n C0.1 C0.2.1 dX10_errorPosition_16 rfl (lv_at hl 0 rfl) ?_
    refine r_get (C := RX10) (T := TX10) (N9 := 20) (ci := 11) C0 C1 hI iX10 rfl 0 0 (Nat.le_of_ble_eq_true rfl) (by decide) ((fun _ => rfl) _) rfl rfl w_1691 dX10_errorPosition_17 ?_
    refine lv_if_ne (tgt := 30) C0.1 C0.2.1 dX10_errorPosition_20 (by decide) (fun c_7 => ?_) (fun c_7 => ?_)
    · have hf := (if_neg c_7).symm.trans hf
      refine lv_iconst (v := 0) C0.1 C0.2.1 dX10_errorPosition_30 (by decide) ?_
      exact ee_im C0 hI hr hlocks hf dX10_errorPosition_31
    · have hf := (if_pos c_7).symm.trans hf
      refine lv_aload_n C0.1 C0.2.1 dX10_errorPosition_23 rfl (lv_at hl 0 rfl) ?_
      refine r_get (C := RX10) (T := TX10) (N9 := 20) (ci := 11) C0 C1 hI iX10 rfl 0 2 (Nat.le_of_ble_eq_true rfl) (by decide) ((fun _ => rfl) _) rfl rfl w_1693 dX10_errorPosition_24 ?_
      refine lv_goto (tgt := 31) C0.1 C0.2.1 dX10_errorPosition_27 (by decide) ?_
      exact ee_im C0 hI hr hlocks hf dX10_errorPosition_31

def F_X10_failedCommand (n : Nat) (M : Mem) : Option (Int32 × Mem) :=
  (if 0 ≤ (M 0 3) then lt' (up2 M 0 0 0) (fun M_2 => (if (M_2 0 0) = 0 then some (M_2 0 3, M_2) else some (0, M_2))) else lt' (up2 M 0 0 1) (fun M_5 => (if (M_5 0 0) = 0 then some (M_5 0 3, M_5) else some (0, M_5))))
theorem hd_X10_failedCommand : yX10_failedCommand.cls ≠ "java/lang/invoke/MethodHandle" ∧ yX10_failedCommand.cls ≠ "java/lang/invoke/VarHandle" ∧ (parseMethodDescriptor yX10_failedCommand.desc).map (fun d => d.parameters.length) = some 0 := ⟨by decide +kernel, by decide +kernel, by decide +kernel⟩
set_option maxHeartbeats 4000000 in
set_option maxRecDepth 100000 in
theorem c_X10_failedCommand (l : Launch) (g : GG) (X : va_W) (b : Nat → Nat) (sz n : Nat) (M : Mem) {r0 : Int32} {M' : Mem} (hf : F_X10_failedCommand n M = some (r0, M')) : Met l yX10_failedCommand (.code yX10_failedCommand cX10_failedCommand 1 (some .int) :: LWg) (rmD 0 0 0) (va_Pc [.ref (b 0)] (PreP g X 10 (shM g b) b sz M)) (Qi g X 10 (shM g b) b sz r0 M') 0 0 (AA X b 10 sz) := by
  refine met_go (by decide +kernel) rfl (Nat.le_of_ble_eq_true rfl) ?_
  intro p e s m below meth c ls H locs C0 C1 hr hlocks hnm hsz hl hI
  subst hsz
  have hl : lv_has ls 1 [(0, .ref (b 0))] := hl
  unfold F_X10_failedCommand at hf
  refine lv_aload_n C0.1 C0.2.1 dX10_failedCommand_0 rfl (lv_at hl 0 rfl) ?_
  refine lv_aload_n C0.1 C0.2.1 dX10_failedCommand_1 rfl (lv_at hl 0 rfl) ?_
  refine r_get (C := RX10) (T := TX10) (N9 := 20) (ci := 11) C0 C1 hI iX10 rfl 0 3 (Nat.le_of_ble_eq_true rfl) (by decide) ((fun _ => rfl) _) rfl rfl w_1694 dX10_failedCommand_2 ?_
  refine lv_if_ge (tgt := 12) C0.1 C0.2.1 dX10_failedCommand_5 (by decide) (fun c_1 => ?_) (fun c_1 => ?_)
  · have hf := (if_pos c_1).symm.trans hf
    refine lv_iconst (v := 0) C0.1 C0.2.1 dX10_failedCommand_12 (by decide) ?_
    refine r_put (C := RX10) (T := TX10) (N9 := 20) (ci := 11) (fs := fM b) (ty := .int) C0 C1 hI iX10 tyX10 tyX10_ok nmX10 rfl 0 0 (Nat.le_of_ble_eq_true rfl) (by decide) (fun _ => rfl) rfl rfl rfl (by decide +kernel) ⟨rfl, rfl⟩ (Nat.le_of_ble_eq_true rfl) w_1691 dX10_failedCommand_13 (fun H locs hI => ?_)
    obtain ⟨M_2, e_3⟩ : ∃ z : Mem, z = up2 M 0 0 0 := ⟨_, rfl⟩
    rw [← e_3] at hI
    have hf := lt_at e_3 hf
    refine lv_aload_n C0.1 C0.2.1 dX10_failedCommand_16 rfl (lv_at hl 0 rfl) ?_
    refine r_get (C := RX10) (T := TX10) (N9 := 20) (ci := 11) C0 C1 hI iX10 rfl 0 0 (Nat.le_of_ble_eq_true rfl) (by decide) ((fun _ => rfl) _) rfl rfl w_1691 dX10_failedCommand_17 ?_
    refine lv_if_ne (tgt := 30) C0.1 C0.2.1 dX10_failedCommand_20 (by decide) (fun c_4 => ?_) (fun c_4 => ?_)
    · have hf := (if_neg c_4).symm.trans hf
      refine lv_iconst (v := 0) C0.1 C0.2.1 dX10_failedCommand_30 (by decide) ?_
      exact ee_im C0 hI hr hlocks hf dX10_failedCommand_31
    · have hf := (if_pos c_4).symm.trans hf
      refine lv_aload_n C0.1 C0.2.1 dX10_failedCommand_23 rfl (lv_at hl 0 rfl) ?_
      refine r_get (C := RX10) (T := TX10) (N9 := 20) (ci := 11) C0 C1 hI iX10 rfl 0 3 (Nat.le_of_ble_eq_true rfl) (by decide) ((fun _ => rfl) _) rfl rfl w_1694 dX10_failedCommand_24 ?_
      refine lv_goto (tgt := 31) C0.1 C0.2.1 dX10_failedCommand_27 (by decide) ?_
      exact ee_im C0 hI hr hlocks hf dX10_failedCommand_31
  · have hf := (if_neg c_1).symm.trans hf
    refine lv_iconst (v := 1) C0.1 C0.2.1 dX10_failedCommand_8 (by decide) ?_
    refine lv_goto (tgt := 13) C0.1 C0.2.1 dX10_failedCommand_9 (by decide) ?_
    refine r_put (C := RX10) (T := TX10) (N9 := 20) (ci := 11) (fs := fM b) (ty := .int) C0 C1 hI iX10 tyX10 tyX10_ok nmX10 rfl 0 0 (Nat.le_of_ble_eq_true rfl) (by decide) (fun _ => rfl) rfl rfl rfl (by decide +kernel) ⟨rfl, rfl⟩ (Nat.le_of_ble_eq_true rfl) w_1691 dX10_failedCommand_13 (fun H locs hI => ?_)
    obtain ⟨M_5, e_6⟩ : ∃ z : Mem, z = up2 M 0 0 1 := ⟨_, rfl⟩
    rw [← e_6] at hI
    have hf := lt_at e_6 hf
    refine lv_aload_n C0.1 C0.2.1 dX10_failedCommand_16 rfl (lv_at hl 0 rfl) ?_
    refine r_get (C := RX10) (T := TX10) (N9 := 20) (ci := 11) C0 C1 hI iX10 rfl 0 0 (Nat.le_of_ble_eq_true rfl) (by decide) ((fun _ => rfl) _) rfl rfl w_1691 dX10_failedCommand_17 ?_
    refine lv_if_ne (tgt := 30) C0.1 C0.2.1 dX10_failedCommand_20 (by decide) (fun c_7 => ?_) (fun c_7 => ?_)
    · have hf := (if_neg c_7).symm.trans hf
      refine lv_iconst (v := 0) C0.1 C0.2.1 dX10_failedCommand_30 (by decide) ?_
      exact ee_im C0 hI hr hlocks hf dX10_failedCommand_31
    · have hf := (if_pos c_7).symm.trans hf
      refine lv_aload_n C0.1 C0.2.1 dX10_failedCommand_23 rfl (lv_at hl 0 rfl) ?_
      refine r_get (C := RX10) (T := TX10) (N9 := 20) (ci := 11) C0 C1 hI iX10 rfl 0 3 (Nat.le_of_ble_eq_true rfl) (by decide) ((fun _ => rfl) _) rfl rfl w_1694 dX10_failedCommand_24 ?_
      refine lv_goto (tgt := 31) C0.1 C0.2.1 dX10_failedCommand_27 (by decide) ?_
      exact ee_im C0 hI hr hlocks hf dX10_failedCommand_31

def F_X10_writes (n : Nat) (x1 : Int32) (M : Mem) : Option Mem :=
  chk (inb (M 0 17) 60) (lt' (up2 M 6 (ix (M 0 17)) x1) (fun M_4 => lt' (up2 M_4 0 17 ((M_4 0 17) + 1)) (fun M_6 => some M_6)))
theorem hd_X10_writes : yX10_writes.cls ≠ "java/lang/invoke/MethodHandle" ∧ yX10_writes.cls ≠ "java/lang/invoke/VarHandle" ∧ (parseMethodDescriptor yX10_writes.desc).map (fun d => d.parameters.length) = some 1 := ⟨by decide +kernel, by decide +kernel, by decide +kernel⟩
set_option maxHeartbeats 4000000 in
set_option maxRecDepth 100000 in
theorem c_X10_writes (l : Launch) (g : GG) (X : va_W) (b : Nat → Nat) (sz n : Nat) (M : Mem) (x1 : Int32)  {M' : Mem} (hf : F_X10_writes n x1 M = some M') : Met l yX10_writes (.code yX10_writes cX10_writes 2 none :: LWg) (rmD 0 0 0) (va_Pc [.ref (b 0), .int x1] (PreP g X 10 (shM g b) b sz M)) (Qv g X 10 (shM g b) b sz M') 0 0 (AA X b 10 sz) := by
  refine met_go (by decide +kernel) rfl (Nat.le_of_ble_eq_true rfl) ?_
  intro p e s m below meth c ls H locs C0 C1 hr hlocks hnm hsz hl hI
  subst hsz
  have hl : lv_has ls 2 [(0, .ref (b 0)), (1, .int x1)] := hl
  unfold F_X10_writes at hf
  refine lv_aload_n C0.1 C0.2.1 dX10_writes_0 rfl (lv_at hl 0 rfl) ?_
  refine r_get (C := RX10) (T := TX10) (N9 := 20) (ci := 11) C0 C1 hI iX10 rfl 0 10 (Nat.le_of_ble_eq_true rfl) (by decide) ((fun _ => rfl) _) rfl rfl w_1701 dX10_writes_1 ?_
  refine lv_aload_n C0.1 C0.2.1 dX10_writes_4 rfl (lv_at hl 0 rfl) ?_
  refine r_get (C := RX10) (T := TX10) (N9 := 20) (ci := 11) C0 C1 hI iX10 rfl 0 17 (Nat.le_of_ble_eq_true rfl) (by decide) ((fun _ => rfl) _) rfl rfl w_1708 dX10_writes_5 ?_
  refine lv_iload_n C0.1 C0.2.1 dX10_writes_8 rfl (lv_at hl 1 rfl) ?_
  obtain ⟨h_1, hf⟩ := chk_some hf
  refine r_iast C0 C1 hI 6 (Nat.le_of_ble_eq_true rfl) (fun _ => rfl) h_1 dX10_writes_9 (fun H locs hI => ?_)
  obtain ⟨M_4, e_5⟩ : ∃ z : Mem, z = up2 M 6 (ix (M 0 17)) x1 := ⟨_, rfl⟩
  rw [← e_5] at hI
  have hf := lt_at e_5 hf
  refine lv_aload_n C0.1 C0.2.1 dX10_writes_10 rfl (lv_at hl 0 rfl) ?_
  refine lv_dup C0.1 C0.2.1 dX10_writes_11 rfl ?_
  refine r_get (C := RX10) (T := TX10) (N9 := 20) (ci := 11) C0 C1 hI iX10 rfl 0 17 (Nat.le_of_ble_eq_true rfl) (by decide) ((fun _ => rfl) _) rfl rfl w_1708 dX10_writes_12 ?_
  refine lv_iconst (v := 1) C0.1 C0.2.1 dX10_writes_15 (by decide) ?_
  refine lv_iadd C0.1 C0.2.1 dX10_writes_16 ?_
  refine r_put (C := RX10) (T := TX10) (N9 := 20) (ci := 11) (fs := fM b) (ty := .int) C0 C1 hI iX10 tyX10 tyX10_ok nmX10 rfl 0 17 (Nat.le_of_ble_eq_true rfl) (by decide) (fun _ => rfl) rfl rfl rfl (by decide +kernel) ⟨rfl, rfl⟩ (Nat.le_of_ble_eq_true rfl) w_1708 dX10_writes_17 (fun H locs hI => ?_)
  obtain ⟨M_6, e_7⟩ : ∃ z : Mem, z = up2 M_4 0 17 ((M_4 0 17) + 1) := ⟨_, rfl⟩
  rw [← e_7] at hI
  have hf := lt_at e_7 hf
  exact ee_vm C0 hI hr hlocks hf dX10_writes_20

def F_X10_writesNumber (n : Nat) (x1 : Int32) (M : Mem) : Option Mem :=
  (if x1 < 10 then ob (F_X10_writes n (48 + (x1 - x1 / 10 * 10)) M) (fun M_3 => some M_3) else ob (F_X10_writes n (48 + (x1 / 10)) M) (fun M_5 => ob (F_X10_writes n (48 + (x1 - x1 / 10 * 10)) M_5) (fun M_7 => some M_7)))
theorem hd_X10_writesNumber : yX10_writesNumber.cls ≠ "java/lang/invoke/MethodHandle" ∧ yX10_writesNumber.cls ≠ "java/lang/invoke/VarHandle" ∧ (parseMethodDescriptor yX10_writesNumber.desc).map (fun d => d.parameters.length) = some 1 := ⟨by decide +kernel, by decide +kernel, by decide +kernel⟩
set_option maxHeartbeats 4000000 in
set_option maxRecDepth 100000 in
theorem c_X10_writesNumber (l : Launch) (g : GG) (X : va_W) (b : Nat → Nat) (sz n : Nat) (M : Mem) (x1 : Int32)  {M' : Mem} (hf : F_X10_writesNumber n x1 M = some M') : Met l yX10_writesNumber (.code yX10_writesNumber cX10_writesNumber 2 none :: LWg) (rmD 1 0 0) (va_Pc [.ref (b 0), .int x1] (PreP g X 10 (shM g b) b sz M)) (Qv g X 10 (shM g b) b sz M') 0 0 (AA X b 10 sz) := by
  refine met_go (by decide +kernel) rfl (Nat.le_of_ble_eq_true rfl) ?_
  intro p e s m below meth c ls H locs C0 C1 hr hlocks hnm hsz hl hI
  subst hsz
  have hl : lv_has ls 2 [(0, .ref (b 0)), (1, .int x1)] := hl
  unfold F_X10_writesNumber at hf
  refine lv_iload_n C0.1 C0.2.1 dX10_writesNumber_0 rfl (lv_at hl 1 rfl) ?_
  refine lv_bipush (v := 10) C0.1 C0.2.1 dX10_writesNumber_1 (by decide) ?_
  refine lv_icmp_lt (tgt := 17) C0.1 C0.2.1 dX10_writesNumber_3 (by decide) (fun c_1 => ?_) (fun c_1 => ?_)
  · have hf := (if_pos c_1).symm.trans hf
    refine lv_aload_n C0.1 C0.2.1 dX10_writesNumber_17 rfl (lv_at hl 0 rfl) ?_
    refine lv_bipush (v := 48) C0.1 C0.2.1 dX10_writesNumber_18 (by decide) ?_
    refine lv_iload_n C0.1 C0.2.1 dX10_writesNumber_20 rfl (lv_at hl 1 rfl) ?_
    refine lv_bipush (v := 10) C0.1 C0.2.1 dX10_writesNumber_21 (by decide) ?_
    refine lv_irem C0.1 C0.2.1 dX10_writesNumber_23 (by decide) ?_
    refine lv_iadd C0.1 C0.2.1 dX10_writesNumber_24 ?_
    obtain ⟨M_3, h_2, hf⟩ := ob_some hf
    refine k_v C1 hI (q_V C0 C1 hI 0 (c_X10_writes l g X b H.size n M (48 + (x1 - x1 / 10 * 10)) h_2) w_2144 w_2146 w_116 w_132 w_2147 ⟨rfl, rfl⟩ hd_X10_writes ⟨Nat.le_of_ble_eq_true rfl, Nat.le_of_ble_eq_true rfl⟩ (Nat.le_of_ble_eq_true rfl) ((fun _ => rfl) _) rfl rfl rfl hl.1 rfl (Nat.le_of_ble_eq_true rfl) dX10_writesNumber_25 ⟨Nat.le_of_ble_eq_true rfl, Nat.le_of_ble_eq_true rfl⟩) (fun H locs hI => ?_)
    exact ee_vm C0 hI hr hlocks hf dX10_writesNumber_28
  · have hf := (if_neg c_1).symm.trans hf
    refine lv_aload_n C0.1 C0.2.1 dX10_writesNumber_6 rfl (lv_at hl 0 rfl) ?_
    refine lv_bipush (v := 48) C0.1 C0.2.1 dX10_writesNumber_7 (by decide) ?_
    refine lv_iload_n C0.1 C0.2.1 dX10_writesNumber_9 rfl (lv_at hl 1 rfl) ?_
    refine lv_bipush (v := 10) C0.1 C0.2.1 dX10_writesNumber_10 (by decide) ?_
    refine lv_idiv C0.1 C0.2.1 dX10_writesNumber_12 (by decide) ?_
    refine lv_iadd C0.1 C0.2.1 dX10_writesNumber_13 ?_
    obtain ⟨M_5, h_4, hf⟩ := ob_some hf
    refine k_v C1 hI (q_V C0 C1 hI 0 (c_X10_writes l g X b H.size n M (48 + (x1 / 10)) h_4) w_2144 w_2146 w_116 w_132 w_2147 ⟨rfl, rfl⟩ hd_X10_writes ⟨Nat.le_of_ble_eq_true rfl, Nat.le_of_ble_eq_true rfl⟩ (Nat.le_of_ble_eq_true rfl) ((fun _ => rfl) _) rfl rfl rfl hl.1 rfl (Nat.le_of_ble_eq_true rfl) dX10_writesNumber_14 ⟨Nat.le_of_ble_eq_true rfl, Nat.le_of_ble_eq_true rfl⟩) (fun H locs hI => ?_)
    refine lv_aload_n C0.1 C0.2.1 dX10_writesNumber_17 rfl (lv_at hl 0 rfl) ?_
    refine lv_bipush (v := 48) C0.1 C0.2.1 dX10_writesNumber_18 (by decide) ?_
    refine lv_iload_n C0.1 C0.2.1 dX10_writesNumber_20 rfl (lv_at hl 1 rfl) ?_
    refine lv_bipush (v := 10) C0.1 C0.2.1 dX10_writesNumber_21 (by decide) ?_
    refine lv_irem C0.1 C0.2.1 dX10_writesNumber_23 (by decide) ?_
    refine lv_iadd C0.1 C0.2.1 dX10_writesNumber_24 ?_
    obtain ⟨M_7, h_6, hf⟩ := ob_some hf
    refine k_v C1 hI (q_V C0 C1 hI 0 (c_X10_writes l g X b H.size n M_5 (48 + (x1 - x1 / 10 * 10)) h_6) w_2144 w_2146 w_116 w_132 w_2147 ⟨rfl, rfl⟩ hd_X10_writes ⟨Nat.le_of_ble_eq_true rfl, Nat.le_of_ble_eq_true rfl⟩ (Nat.le_of_ble_eq_true rfl) ((fun _ => rfl) _) rfl rfl rfl hl.1 rfl (Nat.le_of_ble_eq_true rfl) dX10_writesNumber_25 ⟨Nat.le_of_ble_eq_true rfl, Nat.le_of_ble_eq_true rfl⟩) (fun H locs hI => ?_)
    exact ee_vm C0 hI hr hlocks hf dX10_writesNumber_28

def F_X10_describeList_L33 (n : Nat) : Nat → Int32 → Int32 → Mem → Option (Int32 × Mem)
  | 0, _, _, _ => none
  | k33 + 1, x1_33, x2_33, M =>
    ob (F_X10_of n x1_33 5 M) (fun r_33_2 => chk (inb r_33_2 407) ((if (M 1 (ix r_33_2)) ≤ x2_33 then ob (F_X10_of n x1_33 1 M) (fun r_33_6 => chk (inb r_33_6 407) ((if (M 1 (ix r_33_6)) = 1 then ob (F_X10_writes n 124 M) (fun M_33_10 => some (M_33_10 0 17, M_33_10)) else some (M 0 17, M)))) else ob (F_X10_ranked n x1_33 x2_33 M) (fun r_33_12 => ob (F_X10_listed n x1_33 r_33_12 M) (fun r_33_14 => chk (inb r_33_14 407) (lt' (M 1 (ix r_33_14)) (fun x3_33_16 => (if x2_33 ≤ 0 then ob (F_X10_writesNumber n x3_33_16 M) (fun M_33_20 => ob (F_X10_isOn n x3_33_16 M_33_20) (fun r_33_22 => (if r_33_22 = 0 then ob (F_X10_writes n 126 M_33_20) (fun M_33_27 => lt' (x2_33 + 1) (fun x2_33_28 => F_X10_describeList_L33 n k33 x1_33 x2_33_28 M_33_27)) else lt' (x2_33 + 1) (fun x2_33_24 => F_X10_describeList_L33 n k33 x1_33 x2_33_24 M_33_20)))) else ob (F_X10_writes n 44 M) (fun M_33_31 => ob (F_X10_writesNumber n x3_33_16 M_33_31) (fun M_33_33 => ob (F_X10_isOn n x3_33_16 M_33_33) (fun r_33_35 => (if r_33_35 = 0 then ob (F_X10_writes n 126 M_33_33) (fun M_33_40 => lt' (x2_33 + 1) (fun x2_33_41 => F_X10_describeList_L33 n k33 x1_33 x2_33_41 M_33_40)) else lt' (x2_33 + 1) (fun x2_33_37 => F_X10_describeList_L33 n k33 x1_33 x2_33_37 M_33_33)))))))))))))
def F_X10_describeList (n : Nat) (x1 : Int32) (M : Mem) : Option (Int32 × Mem) :=
  ob (F_X10_isMotion n x1 M) (fun r_2 => (if r_2 = 0 then lt' (up2 M 0 0 1) (fun M_4 => (if (M_4 0 0) = 0 then lt' (up2 M_4 0 17 0) (fun M_7 => F_X10_describeList_L33 n n x1 0 M_7) else some (0, M_4))) else lt' (up2 M 0 0 0) (fun M_9 => (if (M_9 0 0) = 0 then lt' (up2 M_9 0 17 0) (fun M_12 => F_X10_describeList_L33 n n x1 0 M_12) else some (0, M_9)))))
theorem hd_X10_describeList : yX10_describeList.cls ≠ "java/lang/invoke/MethodHandle" ∧ yX10_describeList.cls ≠ "java/lang/invoke/VarHandle" ∧ (parseMethodDescriptor yX10_describeList.desc).map (fun d => d.parameters.length) = some 1 := ⟨by decide +kernel, by decide +kernel, by decide +kernel⟩
set_option maxHeartbeats 4000000 in
set_option maxRecDepth 100000 in
theorem c_X10_describeList (l : Launch) (g : GG) (X : va_W) (b : Nat → Nat) (sz n : Nat) (M : Mem) (x1 : Int32) {r0 : Int32} {M' : Mem} (hf : F_X10_describeList n x1 M = some (r0, M')) : Met l yX10_describeList (.code yX10_describeList cX10_describeList 4 (some .int) :: LWg) (rmD 3 0 0) (va_Pc [.ref (b 0), .int x1] (PreP g X 10 (shM g b) b sz M)) (Qi g X 10 (shM g b) b sz r0 M') 0 0 (AA X b 10 sz) := by
  refine met_go (by decide +kernel) rfl (Nat.le_of_ble_eq_true rfl) ?_
  intro p e s m below meth c ls H locs C0 C1 hr hlocks hnm hsz hl hI
  subst hsz
  have hl : lv_has ls 4 [(0, .ref (b 0)), (1, .int x1)] := hl
  unfold F_X10_describeList at hf
  refine lv_aload_n C0.1 C0.2.1 dX10_describeList_0 rfl (lv_at hl 0 rfl) ?_
  refine lv_aload_n C0.1 C0.2.1 dX10_describeList_1 rfl (lv_at hl 0 rfl) ?_
  refine lv_iload_n C0.1 C0.2.1 dX10_describeList_2 rfl (lv_at hl 1 rfl) ?_
  obtain ⟨r_2, h_1, hf⟩ := ob_some hf
  refine k_i C1 hI (q_V C0 C1 hI 0 (c_X10_isMotion l g X b H.size n M x1 h_1) w_1893 w_1895 w_86 w_132 w_1896 ⟨rfl, rfl⟩ hd_X10_isMotion ⟨Nat.le_of_ble_eq_true rfl, Nat.le_of_ble_eq_true rfl⟩ (Nat.le_of_ble_eq_true rfl) ((fun _ => rfl) _) rfl rfl rfl hl.1 rfl (Nat.le_of_ble_eq_true rfl) dX10_describeList_3 ⟨Nat.le_of_ble_eq_true rfl, Nat.le_of_ble_eq_true rfl⟩) (fun H locs hI => ?_)
  refine lv_if_eq (tgt := 13) C0.1 C0.2.1 dX10_describeList_6 (by decide) (fun c_3 => ?_) (fun c_3 => ?_)
  · have hf := (if_pos c_3).symm.trans hf
    refine lv_iconst (v := 1) C0.1 C0.2.1 dX10_describeList_13 (by decide) ?_
    refine r_put (C := RX10) (T := TX10) (N9 := 20) (ci := 11) (fs := fM b) (ty := .int) C0 C1 hI iX10 tyX10 tyX10_ok nmX10 rfl 0 0 (Nat.le_of_ble_eq_true rfl) (by decide) (fun _ => rfl) rfl rfl rfl (by decide +kernel) ⟨rfl, rfl⟩ (Nat.le_of_ble_eq_true rfl) w_1691 dX10_describeList_14 (fun H locs hI => ?_)
    obtain ⟨M_4, e_5⟩ : ∃ z : Mem, z = up2 M 0 0 1 := ⟨_, rfl⟩
    rw [← e_5] at hI
    have hf := lt_at e_5 hf
    refine lv_aload_n C0.1 C0.2.1 dX10_describeList_17 rfl (lv_at hl 0 rfl) ?_
    refine r_get (C := RX10) (T := TX10) (N9 := 20) (ci := 11) C0 C1 hI iX10 rfl 0 0 (Nat.le_of_ble_eq_true rfl) (by decide) ((fun _ => rfl) _) rfl rfl w_1691 dX10_describeList_18 ?_
    refine lv_if_eq (tgt := 26) C0.1 C0.2.1 dX10_describeList_21 (by decide) (fun c_6 => ?_) (fun c_6 => ?_)
    · have hf := (if_pos c_6).symm.trans hf
      refine lv_aload_n C0.1 C0.2.1 dX10_describeList_26 rfl (lv_at hl 0 rfl) ?_
      refine lv_iconst (v := 0) C0.1 C0.2.1 dX10_describeList_27 (by decide) ?_
      refine r_put (C := RX10) (T := TX10) (N9 := 20) (ci := 11) (fs := fM b) (ty := .int) C0 C1 hI iX10 tyX10 tyX10_ok nmX10 rfl 0 17 (Nat.le_of_ble_eq_true rfl) (by decide) (fun _ => rfl) rfl rfl rfl (by decide +kernel) ⟨rfl, rfl⟩ (Nat.le_of_ble_eq_true rfl) w_1708 dX10_describeList_28 (fun H locs hI => ?_)
      obtain ⟨M_7, e_8⟩ : ∃ z : Mem, z = up2 M_4 0 17 0 := ⟨_, rfl⟩
      rw [← e_8] at hI
      have hf := lt_at e_8 hf
      refine lv_iconst (v := 0) C0.1 C0.2.1 dX10_describeList_31 (by decide) ?_
      refine lv_istore_n (lv' := [(2, .int 0), (0, .ref (b 0)), (1, .int x1)]) C0.1 C0.2.1 dX10_describeList_32 rfl hl (by decide) rfl (fun ls hl => ?_)
      have L33 : ∀ (k33 : Nat) (x1_33 : Int32) (x2_33 : Int32) (M : Mem), F_X10_describeList_L33 n k33 x1_33 x2_33 M = some (r0, M') → ∀ (H : Heap) (locs : List Loc) (ls : Array Slot), PI g X 10 (shM g b) b s M H locs → lv_has ls 4 [(0, .ref (b 0)), (1, .int x1_33), (2, .int x2_33)] → W p l e (rmD 3 0 0) s m ([.ref (b 0), .int x1] : List Value).toArray below meth c H locs 0 0 (MQ below (Qi g X 10 (shM g b) b s.heap.size r0 M') ([.ref (b 0), .int x1] : List Value).toArray s 0 0 (AA X b 10 s.heap.size)) (F0 m 33 ls []) := by
        intro k33
        induction k33 with
        | zero => intro x1_33 x2_33 M hf; exact absurd (show (none : Option (Int32 × Mem)) = some (r0, M') from hf) (fun h => by cases h)
        | succ k33 ih33 =>
          intro x1_33 x2_33 M hf H locs ls hI hl
          unfold F_X10_describeList_L33 at hf
          refine lv_iload_n C0.1 C0.2.1 dX10_describeList_33 rfl (lv_at hl 2 rfl) ?_
          refine lv_aload_n C0.1 C0.2.1 dX10_describeList_34 rfl (lv_at hl 0 rfl) ?_
          refine r_get (C := RX10) (T := TX10) (N9 := 20) (ci := 11) C0 C1 hI iX10 rfl 0 5 (Nat.le_of_ble_eq_true rfl) (by decide) ((fun _ => rfl) _) rfl rfl w_1696 dX10_describeList_35 ?_
          refine lv_iload_n C0.1 C0.2.1 dX10_describeList_38 rfl (lv_at hl 1 rfl) ?_
          refine lv_iconst (v := 5) C0.1 C0.2.1 dX10_describeList_39 (by decide) ?_
          obtain ⟨r_33_2, h_33_1, hf⟩ := ob_some hf
          refine k_i C1 hI (q_S C0 C1 hI (c_X10_of l g X b H.size n M x1_33 5 h_33_1) w_1878 w_1879 w_132 w_1880 ⟨rfl, rfl⟩ hd_X10_of ⟨Nat.le_of_ble_eq_true rfl, Nat.le_of_ble_eq_true rfl⟩ rfl hl.1 rfl (Nat.le_of_ble_eq_true rfl) dX10_describeList_40 ⟨Nat.le_of_ble_eq_true rfl, Nat.le_of_ble_eq_true rfl⟩) (fun H locs hI => ?_)
          obtain ⟨h_33_3, hf⟩ := chk_some hf
          refine r_iald C0 C1 hI 1 (Nat.le_of_ble_eq_true rfl) (fun _ => rfl) h_33_3 dX10_describeList_43 ?_
          refine lv_icmp_ge (tgt := 98) C0.1 C0.2.1 dX10_describeList_44 (by decide) (fun c_33_4 => ?_) (fun c_33_4 => ?_)
          · have hf := (if_pos c_33_4).symm.trans hf
            refine lv_aload_n C0.1 C0.2.1 dX10_describeList_98 rfl (lv_at hl 0 rfl) ?_
            refine r_get (C := RX10) (T := TX10) (N9 := 20) (ci := 11) C0 C1 hI iX10 rfl 0 5 (Nat.le_of_ble_eq_true rfl) (by decide) ((fun _ => rfl) _) rfl rfl w_1696 dX10_describeList_99 ?_
            refine lv_iload_n C0.1 C0.2.1 dX10_describeList_102 rfl (lv_at hl 1 rfl) ?_
            refine lv_iconst (v := 1) C0.1 C0.2.1 dX10_describeList_103 (by decide) ?_
            obtain ⟨r_33_6, h_33_5, hf⟩ := ob_some hf
            refine k_i C1 hI (q_S C0 C1 hI (c_X10_of l g X b H.size n M x1_33 1 h_33_5) w_1878 w_1879 w_132 w_1880 ⟨rfl, rfl⟩ hd_X10_of ⟨Nat.le_of_ble_eq_true rfl, Nat.le_of_ble_eq_true rfl⟩ rfl hl.1 rfl (Nat.le_of_ble_eq_true rfl) dX10_describeList_104 ⟨Nat.le_of_ble_eq_true rfl, Nat.le_of_ble_eq_true rfl⟩) (fun H locs hI => ?_)
            obtain ⟨h_33_7, hf⟩ := chk_some hf
            refine r_iald C0 C1 hI 1 (Nat.le_of_ble_eq_true rfl) (fun _ => rfl) h_33_7 dX10_describeList_107 ?_
            refine lv_iconst (v := 1) C0.1 C0.2.1 dX10_describeList_108 (by decide) ?_
            refine lv_icmp_ne (tgt := 118) C0.1 C0.2.1 dX10_describeList_109 (by decide) (fun c_33_8 => ?_) (fun c_33_8 => ?_)
            · have hf := (if_neg c_33_8).symm.trans hf
              refine lv_aload_n C0.1 C0.2.1 dX10_describeList_118 rfl (lv_at hl 0 rfl) ?_
              refine r_get (C := RX10) (T := TX10) (N9 := 20) (ci := 11) C0 C1 hI iX10 rfl 0 17 (Nat.le_of_ble_eq_true rfl) (by decide) ((fun _ => rfl) _) rfl rfl w_1708 dX10_describeList_119 ?_
              exact ee_im C0 hI hr hlocks hf dX10_describeList_122
            · have hf := (if_pos c_33_8).symm.trans hf
              refine lv_aload_n C0.1 C0.2.1 dX10_describeList_112 rfl (lv_at hl 0 rfl) ?_
              refine lv_bipush (v := 124) C0.1 C0.2.1 dX10_describeList_113 (by decide) ?_
              obtain ⟨M_33_10, h_33_9, hf⟩ := ob_some hf
              refine k_v C1 hI (q_V C0 C1 hI 0 (c_X10_writes l g X b H.size n M 124 h_33_9) w_2144 w_2146 w_116 w_132 w_2147 ⟨rfl, rfl⟩ hd_X10_writes ⟨Nat.le_of_ble_eq_true rfl, Nat.le_of_ble_eq_true rfl⟩ (Nat.le_of_ble_eq_true rfl) ((fun _ => rfl) _) rfl rfl rfl hl.1 rfl (Nat.le_of_ble_eq_true rfl) dX10_describeList_115 ⟨Nat.le_of_ble_eq_true rfl, Nat.le_of_ble_eq_true rfl⟩) (fun H locs hI => ?_)
              refine lv_aload_n C0.1 C0.2.1 dX10_describeList_118 rfl (lv_at hl 0 rfl) ?_
              refine r_get (C := RX10) (T := TX10) (N9 := 20) (ci := 11) C0 C1 hI iX10 rfl 0 17 (Nat.le_of_ble_eq_true rfl) (by decide) ((fun _ => rfl) _) rfl rfl w_1708 dX10_describeList_119 ?_
              exact ee_im C0 hI hr hlocks hf dX10_describeList_122
          · have hf := (if_neg c_33_4).symm.trans hf
            refine lv_aload_n C0.1 C0.2.1 dX10_describeList_47 rfl (lv_at hl 0 rfl) ?_
            refine r_get (C := RX10) (T := TX10) (N9 := 20) (ci := 11) C0 C1 hI iX10 rfl 0 5 (Nat.le_of_ble_eq_true rfl) (by decide) ((fun _ => rfl) _) rfl rfl w_1696 dX10_describeList_48 ?_
            refine lv_iload_n C0.1 C0.2.1 dX10_describeList_51 rfl (lv_at hl 1 rfl) ?_
            refine lv_aload_n C0.1 C0.2.1 dX10_describeList_52 rfl (lv_at hl 0 rfl) ?_
            refine lv_iload_n C0.1 C0.2.1 dX10_describeList_53 rfl (lv_at hl 1 rfl) ?_
            refine lv_iload_n C0.1 C0.2.1 dX10_describeList_54 rfl (lv_at hl 2 rfl) ?_
            obtain ⟨r_33_12, h_33_11, hf⟩ := ob_some hf
            refine k_i C1 hI (q_V C0 C1 hI 0 (c_X10_ranked l g X b H.size n M x1_33 x2_33 h_33_11) w_1940 w_1942 w_94 w_132 w_1943 ⟨rfl, rfl⟩ hd_X10_ranked ⟨Nat.le_of_ble_eq_true rfl, Nat.le_of_ble_eq_true rfl⟩ (Nat.le_of_ble_eq_true rfl) ((fun _ => rfl) _) rfl rfl rfl hl.1 rfl (Nat.le_of_ble_eq_true rfl) dX10_describeList_55 ⟨Nat.le_of_ble_eq_true rfl, Nat.le_of_ble_eq_true rfl⟩) (fun H locs hI => ?_)
            obtain ⟨r_33_14, h_33_13, hf⟩ := ob_some hf
            refine k_i C1 hI (q_S C0 C1 hI (c_X10_listed l g X b H.size n M x1_33 r_33_12 h_33_13) w_1917 w_1918 w_132 w_1919 ⟨rfl, rfl⟩ hd_X10_listed ⟨Nat.le_of_ble_eq_true rfl, Nat.le_of_ble_eq_true rfl⟩ rfl hl.1 rfl (Nat.le_of_ble_eq_true rfl) dX10_describeList_58 ⟨Nat.le_of_ble_eq_true rfl, Nat.le_of_ble_eq_true rfl⟩) (fun H locs hI => ?_)
            obtain ⟨h_33_15, hf⟩ := chk_some hf
            refine r_iald C0 C1 hI 1 (Nat.le_of_ble_eq_true rfl) (fun _ => rfl) h_33_15 dX10_describeList_61 ?_
            refine lv_topi (fun x3_33_16 e_33_17 => ?_)
            have hf := lt_at e_33_17 hf
            refine lv_istore_n (lv' := [(3, .int x3_33_16), (0, .ref (b 0)), (1, .int x1_33), (2, .int x2_33)]) C0.1 C0.2.1 dX10_describeList_62 rfl hl (by decide) rfl (fun ls hl => ?_)
            refine lv_iload_n C0.1 C0.2.1 dX10_describeList_63 rfl (lv_at hl 3 rfl) ?_
            refine lv_if_le (tgt := 73) C0.1 C0.2.1 dX10_describeList_64 (by decide) (fun c_33_18 => ?_) (fun c_33_18 => ?_)
            · have hf := (if_pos c_33_18).symm.trans hf
              refine lv_aload_n C0.1 C0.2.1 dX10_describeList_73 rfl (lv_at hl 1 rfl) ?_
              refine lv_iload_n C0.1 C0.2.1 dX10_describeList_74 rfl (lv_at hl 0 rfl) ?_
              obtain ⟨M_33_20, h_33_19, hf⟩ := ob_some hf
              refine k_v C1 hI (q_V C0 C1 hI 0 (c_X10_writesNumber l g X b H.size n M x3_33_16 h_33_19) w_2148 w_2150 w_117 w_132 w_2151 ⟨rfl, rfl⟩ hd_X10_writesNumber ⟨Nat.le_of_ble_eq_true rfl, Nat.le_of_ble_eq_true rfl⟩ (Nat.le_of_ble_eq_true rfl) ((fun _ => rfl) _) rfl rfl rfl hl.1 rfl (Nat.le_of_ble_eq_true rfl) dX10_describeList_75 ⟨Nat.le_of_ble_eq_true rfl, Nat.le_of_ble_eq_true rfl⟩) (fun H locs hI => ?_)
              refine lv_aload_n C0.1 C0.2.1 dX10_describeList_78 rfl (lv_at hl 1 rfl) ?_
              refine lv_iload_n C0.1 C0.2.1 dX10_describeList_79 rfl (lv_at hl 0 rfl) ?_
              obtain ⟨r_33_22, h_33_21, hf⟩ := ob_some hf
              refine k_i C1 hI (q_V C0 C1 hI 0 (c_X10_isOn l g X b H.size n M_33_20 x3_33_16 h_33_21) w_1818 w_1820 w_80 w_132 w_1821 ⟨rfl, rfl⟩ hd_X10_isOn ⟨Nat.le_of_ble_eq_true rfl, Nat.le_of_ble_eq_true rfl⟩ (Nat.le_of_ble_eq_true rfl) ((fun _ => rfl) _) rfl rfl rfl hl.1 rfl (Nat.le_of_ble_eq_true rfl) dX10_describeList_80 ⟨Nat.le_of_ble_eq_true rfl, Nat.le_of_ble_eq_true rfl⟩) (fun H locs hI => ?_)
              refine lv_if_ne (tgt := 92) C0.1 C0.2.1 dX10_describeList_83 (by decide) (fun c_33_23 => ?_) (fun c_33_23 => ?_)
              · have hf := (if_neg c_33_23).symm.trans hf
                obtain ⟨x2_33_24, e_33_25⟩ : ∃ z : Int32, z = x2_33 + 1 := ⟨_, rfl⟩
                have hf := lt_at e_33_25 hf
                refine lv_iinc (v := x2_33_24) (lv' := [(2, .int x2_33_24), (3, .int x3_33_16), (0, .ref (b 0)), (1, .int x1_33)]) C0.1 C0.2.1 dX10_describeList_92 hl (k := 3) rfl (by rw [e_33_25]; rfl) (by decide) rfl (fun ls hl => ?_)
                refine lv_goto (tgt := 33) C0.1 C0.2.1 dX10_describeList_95 (by decide) ?_
                exact ih33 x1_33 x2_33_24 M_33_20 hf H locs ls hI (lv_sub hl [2, 3, 0] rfl)
              · have hf := (if_pos c_33_23).symm.trans hf
                refine lv_aload_n C0.1 C0.2.1 dX10_describeList_86 rfl (lv_at hl 1 rfl) ?_
                refine lv_bipush (v := 126) C0.1 C0.2.1 dX10_describeList_87 (by decide) ?_
                obtain ⟨M_33_27, h_33_26, hf⟩ := ob_some hf
                refine k_v C1 hI (q_V C0 C1 hI 0 (c_X10_writes l g X b H.size n M_33_20 126 h_33_26) w_2144 w_2146 w_116 w_132 w_2147 ⟨rfl, rfl⟩ hd_X10_writes ⟨Nat.le_of_ble_eq_true rfl, Nat.le_of_ble_eq_true rfl⟩ (Nat.le_of_ble_eq_true rfl) ((fun _ => rfl) _) rfl rfl rfl hl.1 rfl (Nat.le_of_ble_eq_true rfl) dX10_describeList_89 ⟨Nat.le_of_ble_eq_true rfl, Nat.le_of_ble_eq_true rfl⟩) (fun H locs hI => ?_)
                obtain ⟨x2_33_28, e_33_29⟩ : ∃ z : Int32, z = x2_33 + 1 := ⟨_, rfl⟩
                have hf := lt_at e_33_29 hf
                refine lv_iinc (v := x2_33_28) (lv' := [(2, .int x2_33_28), (3, .int x3_33_16), (0, .ref (b 0)), (1, .int x1_33)]) C0.1 C0.2.1 dX10_describeList_92 hl (k := 3) rfl (by rw [e_33_29]; rfl) (by decide) rfl (fun ls hl => ?_)
                refine lv_goto (tgt := 33) C0.1 C0.2.1 dX10_describeList_95 (by decide) ?_
                exact ih33 x1_33 x2_33_28 M_33_27 hf H locs ls hI (lv_sub hl [2, 3, 0] rfl)
            · have hf := (if_neg c_33_18).symm.trans hf
              refine lv_aload_n C0.1 C0.2.1 dX10_describeList_67 rfl (lv_at hl 1 rfl) ?_
              refine lv_bipush (v := 44) C0.1 C0.2.1 dX10_describeList_68 (by decide) ?_
              obtain ⟨M_33_31, h_33_30, hf⟩ := ob_some hf
              refine k_v C1 hI (q_V C0 C1 hI 0 (c_X10_writes l g X b H.size n M 44 h_33_30) w_2144 w_2146 w_116 w_132 w_2147 ⟨rfl, rfl⟩ hd_X10_writes ⟨Nat.le_of_ble_eq_true rfl, Nat.le_of_ble_eq_true rfl⟩ (Nat.le_of_ble_eq_true rfl) ((fun _ => rfl) _) rfl rfl rfl hl.1 rfl (Nat.le_of_ble_eq_true rfl) dX10_describeList_70 ⟨Nat.le_of_ble_eq_true rfl, Nat.le_of_ble_eq_true rfl⟩) (fun H locs hI => ?_)
              refine lv_aload_n C0.1 C0.2.1 dX10_describeList_73 rfl (lv_at hl 1 rfl) ?_
              refine lv_iload_n C0.1 C0.2.1 dX10_describeList_74 rfl (lv_at hl 0 rfl) ?_
              obtain ⟨M_33_33, h_33_32, hf⟩ := ob_some hf
              refine k_v C1 hI (q_V C0 C1 hI 0 (c_X10_writesNumber l g X b H.size n M_33_31 x3_33_16 h_33_32) w_2148 w_2150 w_117 w_132 w_2151 ⟨rfl, rfl⟩ hd_X10_writesNumber ⟨Nat.le_of_ble_eq_true rfl, Nat.le_of_ble_eq_true rfl⟩ (Nat.le_of_ble_eq_true rfl) ((fun _ => rfl) _) rfl rfl rfl hl.1 rfl (Nat.le_of_ble_eq_true rfl) dX10_describeList_75 ⟨Nat.le_of_ble_eq_true rfl, Nat.le_of_ble_eq_true rfl⟩) (fun H locs hI => ?_)
              refine lv_aload_n C0.1 C0.2.1 dX10_describeList_78 rfl (lv_at hl 1 rfl) ?_
              refine lv_iload_n C0.1 C0.2.1 dX10_describeList_79 rfl (lv_at hl 0 rfl) ?_
              obtain ⟨r_33_35, h_33_34, hf⟩ := ob_some hf
              refine k_i C1 hI (q_V C0 C1 hI 0 (c_X10_isOn l g X b H.size n M_33_33 x3_33_16 h_33_34) w_1818 w_1820 w_80 w_132 w_1821 ⟨rfl, rfl⟩ hd_X10_isOn ⟨Nat.le_of_ble_eq_true rfl, Nat.le_of_ble_eq_true rfl⟩ (Nat.le_of_ble_eq_true rfl) ((fun _ => rfl) _) rfl rfl rfl hl.1 rfl (Nat.le_of_ble_eq_true rfl) dX10_describeList_80 ⟨Nat.le_of_ble_eq_true rfl, Nat.le_of_ble_eq_true rfl⟩) (fun H locs hI => ?_)
              refine lv_if_ne (tgt := 92) C0.1 C0.2.1 dX10_describeList_83 (by decide) (fun c_33_36 => ?_) (fun c_33_36 => ?_)
              · have hf := (if_neg c_33_36).symm.trans hf
                obtain ⟨x2_33_37, e_33_38⟩ : ∃ z : Int32, z = x2_33 + 1 := ⟨_, rfl⟩
                have hf := lt_at e_33_38 hf
                refine lv_iinc (v := x2_33_37) (lv' := [(2, .int x2_33_37), (3, .int x3_33_16), (0, .ref (b 0)), (1, .int x1_33)]) C0.1 C0.2.1 dX10_describeList_92 hl (k := 3) rfl (by rw [e_33_38]; rfl) (by decide) rfl (fun ls hl => ?_)
                refine lv_goto (tgt := 33) C0.1 C0.2.1 dX10_describeList_95 (by decide) ?_
                exact ih33 x1_33 x2_33_37 M_33_33 hf H locs ls hI (lv_sub hl [2, 3, 0] rfl)
              · have hf := (if_pos c_33_36).symm.trans hf
                refine lv_aload_n C0.1 C0.2.1 dX10_describeList_86 rfl (lv_at hl 1 rfl) ?_
                refine lv_bipush (v := 126) C0.1 C0.2.1 dX10_describeList_87 (by decide) ?_
                obtain ⟨M_33_40, h_33_39, hf⟩ := ob_some hf
                refine k_v C1 hI (q_V C0 C1 hI 0 (c_X10_writes l g X b H.size n M_33_33 126 h_33_39) w_2144 w_2146 w_116 w_132 w_2147 ⟨rfl, rfl⟩ hd_X10_writes ⟨Nat.le_of_ble_eq_true rfl, Nat.le_of_ble_eq_true rfl⟩ (Nat.le_of_ble_eq_true rfl) ((fun _ => rfl) _) rfl rfl rfl hl.1 rfl (Nat.le_of_ble_eq_true rfl) dX10_describeList_89 ⟨Nat.le_of_ble_eq_true rfl, Nat.le_of_ble_eq_true rfl⟩) (fun H locs hI => ?_)
                obtain ⟨x2_33_41, e_33_42⟩ : ∃ z : Int32, z = x2_33 + 1 := ⟨_, rfl⟩
                have hf := lt_at e_33_42 hf
                refine lv_iinc (v := x2_33_41) (lv' := [(2, .int x2_33_41), (3, .int x3_33_16), (0, .ref (b 0)), (1, .int x1_33)]) C0.1 C0.2.1 dX10_describeList_92 hl (k := 3) rfl (by rw [e_33_42]; rfl) (by decide) rfl (fun ls hl => ?_)
                refine lv_goto (tgt := 33) C0.1 C0.2.1 dX10_describeList_95 (by decide) ?_
                exact ih33 x1_33 x2_33_41 M_33_40 hf H locs ls hI (lv_sub hl [2, 3, 0] rfl)
      exact L33 n x1 0 M_7 hf H locs ls hI (lv_sub hl [1, 2, 0] rfl)
    · have hf := (if_neg c_6).symm.trans hf
      refine lv_iconst (v := 0) C0.1 C0.2.1 dX10_describeList_24 (by decide) ?_
      exact ee_im C0 hI hr hlocks hf dX10_describeList_25
  · have hf := (if_neg c_3).symm.trans hf
    refine lv_iconst (v := 0) C0.1 C0.2.1 dX10_describeList_9 (by decide) ?_
    refine lv_goto (tgt := 14) C0.1 C0.2.1 dX10_describeList_10 (by decide) ?_
    refine r_put (C := RX10) (T := TX10) (N9 := 20) (ci := 11) (fs := fM b) (ty := .int) C0 C1 hI iX10 tyX10 tyX10_ok nmX10 rfl 0 0 (Nat.le_of_ble_eq_true rfl) (by decide) (fun _ => rfl) rfl rfl rfl (by decide +kernel) ⟨rfl, rfl⟩ (Nat.le_of_ble_eq_true rfl) w_1691 dX10_describeList_14 (fun H locs hI => ?_)
    obtain ⟨M_9, e_10⟩ : ∃ z : Mem, z = up2 M 0 0 0 := ⟨_, rfl⟩
    rw [← e_10] at hI
    have hf := lt_at e_10 hf
    refine lv_aload_n C0.1 C0.2.1 dX10_describeList_17 rfl (lv_at hl 0 rfl) ?_
    refine r_get (C := RX10) (T := TX10) (N9 := 20) (ci := 11) C0 C1 hI iX10 rfl 0 0 (Nat.le_of_ble_eq_true rfl) (by decide) ((fun _ => rfl) _) rfl rfl w_1691 dX10_describeList_18 ?_
    refine lv_if_eq (tgt := 26) C0.1 C0.2.1 dX10_describeList_21 (by decide) (fun c_11 => ?_) (fun c_11 => ?_)
    · have hf := (if_pos c_11).symm.trans hf
      refine lv_aload_n C0.1 C0.2.1 dX10_describeList_26 rfl (lv_at hl 0 rfl) ?_
      refine lv_iconst (v := 0) C0.1 C0.2.1 dX10_describeList_27 (by decide) ?_
      refine r_put (C := RX10) (T := TX10) (N9 := 20) (ci := 11) (fs := fM b) (ty := .int) C0 C1 hI iX10 tyX10 tyX10_ok nmX10 rfl 0 17 (Nat.le_of_ble_eq_true rfl) (by decide) (fun _ => rfl) rfl rfl rfl (by decide +kernel) ⟨rfl, rfl⟩ (Nat.le_of_ble_eq_true rfl) w_1708 dX10_describeList_28 (fun H locs hI => ?_)
      obtain ⟨M_12, e_13⟩ : ∃ z : Mem, z = up2 M_9 0 17 0 := ⟨_, rfl⟩
      rw [← e_13] at hI
      have hf := lt_at e_13 hf
      refine lv_iconst (v := 0) C0.1 C0.2.1 dX10_describeList_31 (by decide) ?_
      refine lv_istore_n (lv' := [(2, .int 0), (0, .ref (b 0)), (1, .int x1)]) C0.1 C0.2.1 dX10_describeList_32 rfl hl (by decide) rfl (fun ls hl => ?_)
      have L33 : ∀ (k33 : Nat) (x1_33 : Int32) (x2_33 : Int32) (M : Mem), F_X10_describeList_L33 n k33 x1_33 x2_33 M = some (r0, M') → ∀ (H : Heap) (locs : List Loc) (ls : Array Slot), PI g X 10 (shM g b) b s M H locs → lv_has ls 4 [(0, .ref (b 0)), (1, .int x1_33), (2, .int x2_33)] → W p l e (rmD 3 0 0) s m ([.ref (b 0), .int x1] : List Value).toArray below meth c H locs 0 0 (MQ below (Qi g X 10 (shM g b) b s.heap.size r0 M') ([.ref (b 0), .int x1] : List Value).toArray s 0 0 (AA X b 10 s.heap.size)) (F0 m 33 ls []) := by
        intro k33
        induction k33 with
        | zero => intro x1_33 x2_33 M hf; exact absurd (show (none : Option (Int32 × Mem)) = some (r0, M') from hf) (fun h => by cases h)
        | succ k33 ih33 =>
          intro x1_33 x2_33 M hf H locs ls hI hl
          unfold F_X10_describeList_L33 at hf
          refine lv_iload_n C0.1 C0.2.1 dX10_describeList_33 rfl (lv_at hl 2 rfl) ?_
          refine lv_aload_n C0.1 C0.2.1 dX10_describeList_34 rfl (lv_at hl 0 rfl) ?_
          refine r_get (C := RX10) (T := TX10) (N9 := 20) (ci := 11) C0 C1 hI iX10 rfl 0 5 (Nat.le_of_ble_eq_true rfl) (by decide) ((fun _ => rfl) _) rfl rfl w_1696 dX10_describeList_35 ?_
          refine lv_iload_n C0.1 C0.2.1 dX10_describeList_38 rfl (lv_at hl 1 rfl) ?_
          refine lv_iconst (v := 5) C0.1 C0.2.1 dX10_describeList_39 (by decide) ?_
          obtain ⟨r_33_2, h_33_1, hf⟩ := ob_some hf
          refine k_i C1 hI (q_S C0 C1 hI (c_X10_of l g X b H.size n M x1_33 5 h_33_1) w_1878 w_1879 w_132 w_1880 ⟨rfl, rfl⟩ hd_X10_of ⟨Nat.le_of_ble_eq_true rfl, Nat.le_of_ble_eq_true rfl⟩ rfl hl.1 rfl (Nat.le_of_ble_eq_true rfl) dX10_describeList_40 ⟨Nat.le_of_ble_eq_true rfl, Nat.le_of_ble_eq_true rfl⟩) (fun H locs hI => ?_)
          obtain ⟨h_33_3, hf⟩ := chk_some hf
          refine r_iald C0 C1 hI 1 (Nat.le_of_ble_eq_true rfl) (fun _ => rfl) h_33_3 dX10_describeList_43 ?_
          refine lv_icmp_ge (tgt := 98) C0.1 C0.2.1 dX10_describeList_44 (by decide) (fun c_33_4 => ?_) (fun c_33_4 => ?_)
          · have hf := (if_pos c_33_4).symm.trans hf
            refine lv_aload_n C0.1 C0.2.1 dX10_describeList_98 rfl (lv_at hl 0 rfl) ?_
            refine r_get (C := RX10) (T := TX10) (N9 := 20) (ci := 11) C0 C1 hI iX10 rfl 0 5 (Nat.le_of_ble_eq_true rfl) (by decide) ((fun _ => rfl) _) rfl rfl w_1696 dX10_describeList_99 ?_
            refine lv_iload_n C0.1 C0.2.1 dX10_describeList_102 rfl (lv_at hl 1 rfl) ?_
            refine lv_iconst (v := 1) C0.1 C0.2.1 dX10_describeList_103 (by decide) ?_
            obtain ⟨r_33_6, h_33_5, hf⟩ := ob_some hf
            refine k_i C1 hI (q_S C0 C1 hI (c_X10_of l g X b H.size n M x1_33 1 h_33_5) w_1878 w_1879 w_132 w_1880 ⟨rfl, rfl⟩ hd_X10_of ⟨Nat.le_of_ble_eq_true rfl, Nat.le_of_ble_eq_true rfl⟩ rfl hl.1 rfl (Nat.le_of_ble_eq_true rfl) dX10_describeList_104 ⟨Nat.le_of_ble_eq_true rfl, Nat.le_of_ble_eq_true rfl⟩) (fun H locs hI => ?_)
            obtain ⟨h_33_7, hf⟩ := chk_some hf
            refine r_iald C0 C1 hI 1 (Nat.le_of_ble_eq_true rfl) (fun _ => rfl) h_33_7 dX10_describeList_107 ?_
            refine lv_iconst (v := 1) C0.1 C0.2.1 dX10_describeList_108 (by decide) ?_
            refine lv_icmp_ne (tgt := 118) C0.1 C0.2.1 dX10_describeList_109 (by decide) (fun c_33_8 => ?_) (fun c_33_8 => ?_)
            · have hf := (if_neg c_33_8).symm.trans hf
              refine lv_aload_n C0.1 C0.2.1 dX10_describeList_118 rfl (lv_at hl 0 rfl) ?_
              refine r_get (C := RX10) (T := TX10) (N9 := 20) (ci := 11) C0 C1 hI iX10 rfl 0 17 (Nat.le_of_ble_eq_true rfl) (by decide) ((fun _ => rfl) _) rfl rfl w_1708 dX10_describeList_119 ?_
              exact ee_im C0 hI hr hlocks hf dX10_describeList_122
            · have hf := (if_pos c_33_8).symm.trans hf
              refine lv_aload_n C0.1 C0.2.1 dX10_describeList_112 rfl (lv_at hl 0 rfl) ?_
              refine lv_bipush (v := 124) C0.1 C0.2.1 dX10_describeList_113 (by decide) ?_
              obtain ⟨M_33_10, h_33_9, hf⟩ := ob_some hf
              refine k_v C1 hI (q_V C0 C1 hI 0 (c_X10_writes l g X b H.size n M 124 h_33_9) w_2144 w_2146 w_116 w_132 w_2147 ⟨rfl, rfl⟩ hd_X10_writes ⟨Nat.le_of_ble_eq_true rfl, Nat.le_of_ble_eq_true rfl⟩ (Nat.le_of_ble_eq_true rfl) ((fun _ => rfl) _) rfl rfl rfl hl.1 rfl (Nat.le_of_ble_eq_true rfl) dX10_describeList_115 ⟨Nat.le_of_ble_eq_true rfl, Nat.le_of_ble_eq_true rfl⟩) (fun H locs hI => ?_)
              refine lv_aload_n C0.1 C0.2.1 dX10_describeList_118 rfl (lv_at hl 0 rfl) ?_
              refine r_get (C := RX10) (T := TX10) (N9 := 20) (ci := 11) C0 C1 hI iX10 rfl 0 17 (Nat.le_of_ble_eq_true rfl) (by decide) ((fun _ => rfl) _) rfl rfl w_1708 dX10_describeList_119 ?_
              exact ee_im C0 hI hr hlocks hf dX10_describeList_122
          · have hf := (if_neg c_33_4).symm.trans hf
            refine lv_aload_n C0.1 C0.2.1 dX10_describeList_47 rfl (lv_at hl 0 rfl) ?_
            refine r_get (C := RX10) (T := TX10) (N9 := 20) (ci := 11) C0 C1 hI iX10 rfl 0 5 (Nat.le_of_ble_eq_true rfl) (by decide) ((fun _ => rfl) _) rfl rfl w_1696 dX10_describeList_48 ?_
            refine lv_iload_n C0.1 C0.2.1 dX10_describeList_51 rfl (lv_at hl 1 rfl) ?_
            refine lv_aload_n C0.1 C0.2.1 dX10_describeList_52 rfl (lv_at hl 0 rfl) ?_
            refine lv_iload_n C0.1 C0.2.1 dX10_describeList_53 rfl (lv_at hl 1 rfl) ?_
            refine lv_iload_n C0.1 C0.2.1 dX10_describeList_54 rfl (lv_at hl 2 rfl) ?_
            obtain ⟨r_33_12, h_33_11, hf⟩ := ob_some hf
            refine k_i C1 hI (q_V C0 C1 hI 0 (c_X10_ranked l g X b H.size n M x1_33 x2_33 h_33_11) w_1940 w_1942 w_94 w_132 w_1943 ⟨rfl, rfl⟩ hd_X10_ranked ⟨Nat.le_of_ble_eq_true rfl, Nat.le_of_ble_eq_true rfl⟩ (Nat.le_of_ble_eq_true rfl) ((fun _ => rfl) _) rfl rfl rfl hl.1 rfl (Nat.le_of_ble_eq_true rfl) dX10_describeList_55 ⟨Nat.le_of_ble_eq_true rfl, Nat.le_of_ble_eq_true rfl⟩) (fun H locs hI => ?_)
            obtain ⟨r_33_14, h_33_13, hf⟩ := ob_some hf
            refine k_i C1 hI (q_S C0 C1 hI (c_X10_listed l g X b H.size n M x1_33 r_33_12 h_33_13) w_1917 w_1918 w_132 w_1919 ⟨rfl, rfl⟩ hd_X10_listed ⟨Nat.le_of_ble_eq_true rfl, Nat.le_of_ble_eq_true rfl⟩ rfl hl.1 rfl (Nat.le_of_ble_eq_true rfl) dX10_describeList_58 ⟨Nat.le_of_ble_eq_true rfl, Nat.le_of_ble_eq_true rfl⟩) (fun H locs hI => ?_)
            obtain ⟨h_33_15, hf⟩ := chk_some hf
            refine r_iald C0 C1 hI 1 (Nat.le_of_ble_eq_true rfl) (fun _ => rfl) h_33_15 dX10_describeList_61 ?_
            refine lv_topi (fun x3_33_16 e_33_17 => ?_)
            have hf := lt_at e_33_17 hf
            refine lv_istore_n (lv' := [(3, .int x3_33_16), (0, .ref (b 0)), (1, .int x1_33), (2, .int x2_33)]) C0.1 C0.2.1 dX10_describeList_62 rfl hl (by decide) rfl (fun ls hl => ?_)
            refine lv_iload_n C0.1 C0.2.1 dX10_describeList_63 rfl (lv_at hl 3 rfl) ?_
            refine lv_if_le (tgt := 73) C0.1 C0.2.1 dX10_describeList_64 (by decide) (fun c_33_18 => ?_) (fun c_33_18 => ?_)
            · have hf := (if_pos c_33_18).symm.trans hf
              refine lv_aload_n C0.1 C0.2.1 dX10_describeList_73 rfl (lv_at hl 1 rfl) ?_
              refine lv_iload_n C0.1 C0.2.1 dX10_describeList_74 rfl (lv_at hl 0 rfl) ?_
              obtain ⟨M_33_20, h_33_19, hf⟩ := ob_some hf
              refine k_v C1 hI (q_V C0 C1 hI 0 (c_X10_writesNumber l g X b H.size n M x3_33_16 h_33_19) w_2148 w_2150 w_117 w_132 w_2151 ⟨rfl, rfl⟩ hd_X10_writesNumber ⟨Nat.le_of_ble_eq_true rfl, Nat.le_of_ble_eq_true rfl⟩ (Nat.le_of_ble_eq_true rfl) ((fun _ => rfl) _) rfl rfl rfl hl.1 rfl (Nat.le_of_ble_eq_true rfl) dX10_describeList_75 ⟨Nat.le_of_ble_eq_true rfl, Nat.le_of_ble_eq_true rfl⟩) (fun H locs hI => ?_)
              refine lv_aload_n C0.1 C0.2.1 dX10_describeList_78 rfl (lv_at hl 1 rfl) ?_
              refine lv_iload_n C0.1 C0.2.1 dX10_describeList_79 rfl (lv_at hl 0 rfl) ?_
              obtain ⟨r_33_22, h_33_21, hf⟩ := ob_some hf
              refine k_i C1 hI (q_V C0 C1 hI 0 (c_X10_isOn l g X b H.size n M_33_20 x3_33_16 h_33_21) w_1818 w_1820 w_80 w_132 w_1821 ⟨rfl, rfl⟩ hd_X10_isOn ⟨Nat.le_of_ble_eq_true rfl, Nat.le_of_ble_eq_true rfl⟩ (Nat.le_of_ble_eq_true rfl) ((fun _ => rfl) _) rfl rfl rfl hl.1 rfl (Nat.le_of_ble_eq_true rfl) dX10_describeList_80 ⟨Nat.le_of_ble_eq_true rfl, Nat.le_of_ble_eq_true rfl⟩) (fun H locs hI => ?_)
              refine lv_if_ne (tgt := 92) C0.1 C0.2.1 dX10_describeList_83 (by decide) (fun c_33_23 => ?_) (fun c_33_23 => ?_)
              · have hf := (if_neg c_33_23).symm.trans hf
                obtain ⟨x2_33_24, e_33_25⟩ : ∃ z : Int32, z = x2_33 + 1 := ⟨_, rfl⟩
                have hf := lt_at e_33_25 hf
                refine lv_iinc (v := x2_33_24) (lv' := [(2, .int x2_33_24), (3, .int x3_33_16), (0, .ref (b 0)), (1, .int x1_33)]) C0.1 C0.2.1 dX10_describeList_92 hl (k := 3) rfl (by rw [e_33_25]; rfl) (by decide) rfl (fun ls hl => ?_)
                refine lv_goto (tgt := 33) C0.1 C0.2.1 dX10_describeList_95 (by decide) ?_
                exact ih33 x1_33 x2_33_24 M_33_20 hf H locs ls hI (lv_sub hl [2, 3, 0] rfl)
              · have hf := (if_pos c_33_23).symm.trans hf
                refine lv_aload_n C0.1 C0.2.1 dX10_describeList_86 rfl (lv_at hl 1 rfl) ?_
                refine lv_bipush (v := 126) C0.1 C0.2.1 dX10_describeList_87 (by decide) ?_
                obtain ⟨M_33_27, h_33_26, hf⟩ := ob_some hf
                refine k_v C1 hI (q_V C0 C1 hI 0 (c_X10_writes l g X b H.size n M_33_20 126 h_33_26) w_2144 w_2146 w_116 w_132 w_2147 ⟨rfl, rfl⟩ hd_X10_writes ⟨Nat.le_of_ble_eq_true rfl, Nat.le_of_ble_eq_true rfl⟩ (Nat.le_of_ble_eq_true rfl) ((fun _ => rfl) _) rfl rfl rfl hl.1 rfl (Nat.le_of_ble_eq_true rfl) dX10_describeList_89 ⟨Nat.le_of_ble_eq_true rfl, Nat.le_of_ble_eq_true rfl⟩) (fun H locs hI => ?_)
                obtain ⟨x2_33_28, e_33_29⟩ : ∃ z : Int32, z = x2_33 + 1 := ⟨_, rfl⟩
                have hf := lt_at e_33_29 hf
                refine lv_iinc (v := x2_33_28) (lv' := [(2, .int x2_33_28), (3, .int x3_33_16), (0, .ref (b 0)), (1, .int x1_33)]) C0.1 C0.2.1 dX10_describeList_92 hl (k := 3) rfl (by rw [e_33_29]; rfl) (by decide) rfl (fun ls hl => ?_)
                refine lv_goto (tgt := 33) C0.1 C0.2.1 dX10_describeList_95 (by decide) ?_
                exact ih33 x1_33 x2_33_28 M_33_27 hf H locs ls hI (lv_sub hl [2, 3, 0] rfl)
            · have hf := (if_neg c_33_18).symm.trans hf
              refine lv_aload_n C0.1 C0.2.1 dX10_describeList_67 rfl (lv_at hl 1 rfl) ?_
              refine lv_bipush (v := 44) C0.1 C0.2.1 dX10_describeList_68 (by decide) ?_
              obtain ⟨M_33_31, h_33_30, hf⟩ := ob_some hf
              refine k_v C1 hI (q_V C0 C1 hI 0 (c_X10_writes l g X b H.size n M 44 h_33_30) w_2144 w_2146 w_116 w_132 w_2147 ⟨rfl, rfl⟩ hd_X10_writes ⟨Nat.le_of_ble_eq_true rfl, Nat.le_of_ble_eq_true rfl⟩ (Nat.le_of_ble_eq_true rfl) ((fun _ => rfl) _) rfl rfl rfl hl.1 rfl (Nat.le_of_ble_eq_true rfl) dX10_describeList_70 ⟨Nat.le_of_ble_eq_true rfl, Nat.le_of_ble_eq_true rfl⟩) (fun H locs hI => ?_)
              refine lv_aload_n C0.1 C0.2.1 dX10_describeList_73 rfl (lv_at hl 1 rfl) ?_
              refine lv_iload_n C0.1 C0.2.1 dX10_describeList_74 rfl (lv_at hl 0 rfl) ?_
              obtain ⟨M_33_33, h_33_32, hf⟩ := ob_some hf
              refine k_v C1 hI (q_V C0 C1 hI 0 (c_X10_writesNumber l g X b H.size n M_33_31 x3_33_16 h_33_32) w_2148 w_2150 w_117 w_132 w_2151 ⟨rfl, rfl⟩ hd_X10_writesNumber ⟨Nat.le_of_ble_eq_true rfl, Nat.le_of_ble_eq_true rfl⟩ (Nat.le_of_ble_eq_true rfl) ((fun _ => rfl) _) rfl rfl rfl hl.1 rfl (Nat.le_of_ble_eq_true rfl) dX10_describeList_75 ⟨Nat.le_of_ble_eq_true rfl, Nat.le_of_ble_eq_true rfl⟩) (fun H locs hI => ?_)
              refine lv_aload_n C0.1 C0.2.1 dX10_describeList_78 rfl (lv_at hl 1 rfl) ?_
              refine lv_iload_n C0.1 C0.2.1 dX10_describeList_79 rfl (lv_at hl 0 rfl) ?_
              obtain ⟨r_33_35, h_33_34, hf⟩ := ob_some hf
              refine k_i C1 hI (q_V C0 C1 hI 0 (c_X10_isOn l g X b H.size n M_33_33 x3_33_16 h_33_34) w_1818 w_1820 w_80 w_132 w_1821 ⟨rfl, rfl⟩ hd_X10_isOn ⟨Nat.le_of_ble_eq_true rfl, Nat.le_of_ble_eq_true rfl⟩ (Nat.le_of_ble_eq_true rfl) ((fun _ => rfl) _) rfl rfl rfl hl.1 rfl (Nat.le_of_ble_eq_true rfl) dX10_describeList_80 ⟨Nat.le_of_ble_eq_true rfl, Nat.le_of_ble_eq_true rfl⟩) (fun H locs hI => ?_)
              refine lv_if_ne (tgt := 92) C0.1 C0.2.1 dX10_describeList_83 (by decide) (fun c_33_36 => ?_) (fun c_33_36 => ?_)
              · have hf := (if_neg c_33_36).symm.trans hf
                obtain ⟨x2_33_37, e_33_38⟩ : ∃ z : Int32, z = x2_33 + 1 := ⟨_, rfl⟩
                have hf := lt_at e_33_38 hf
                refine lv_iinc (v := x2_33_37) (lv' := [(2, .int x2_33_37), (3, .int x3_33_16), (0, .ref (b 0)), (1, .int x1_33)]) C0.1 C0.2.1 dX10_describeList_92 hl (k := 3) rfl (by rw [e_33_38]; rfl) (by decide) rfl (fun ls hl => ?_)
                refine lv_goto (tgt := 33) C0.1 C0.2.1 dX10_describeList_95 (by decide) ?_
                exact ih33 x1_33 x2_33_37 M_33_33 hf H locs ls hI (lv_sub hl [2, 3, 0] rfl)
              · have hf := (if_pos c_33_36).symm.trans hf
                refine lv_aload_n C0.1 C0.2.1 dX10_describeList_86 rfl (lv_at hl 1 rfl) ?_
                refine lv_bipush (v := 126) C0.1 C0.2.1 dX10_describeList_87 (by decide) ?_
                obtain ⟨M_33_40, h_33_39, hf⟩ := ob_some hf
                refine k_v C1 hI (q_V C0 C1 hI 0 (c_X10_writes l g X b H.size n M_33_33 126 h_33_39) w_2144 w_2146 w_116 w_132 w_2147 ⟨rfl, rfl⟩ hd_X10_writes ⟨Nat.le_of_ble_eq_true rfl, Nat.le_of_ble_eq_true rfl⟩ (Nat.le_of_ble_eq_true rfl) ((fun _ => rfl) _) rfl rfl rfl hl.1 rfl (Nat.le_of_ble_eq_true rfl) dX10_describeList_89 ⟨Nat.le_of_ble_eq_true rfl, Nat.le_of_ble_eq_true rfl⟩) (fun H locs hI => ?_)
                obtain ⟨x2_33_41, e_33_42⟩ : ∃ z : Int32, z = x2_33 + 1 := ⟨_, rfl⟩
                have hf := lt_at e_33_42 hf
                refine lv_iinc (v := x2_33_41) (lv' := [(2, .int x2_33_41), (3, .int x3_33_16), (0, .ref (b 0)), (1, .int x1_33)]) C0.1 C0.2.1 dX10_describeList_92 hl (k := 3) rfl (by rw [e_33_42]; rfl) (by decide) rfl (fun ls hl => ?_)
                refine lv_goto (tgt := 33) C0.1 C0.2.1 dX10_describeList_95 (by decide) ?_
                exact ih33 x1_33 x2_33_41 M_33_40 hf H locs ls hI (lv_sub hl [2, 3, 0] rfl)
      exact L33 n x1 0 M_12 hf H locs ls hI (lv_sub hl [1, 2, 0] rfl)
    · have hf := (if_neg c_11).symm.trans hf
      refine lv_iconst (v := 0) C0.1 C0.2.1 dX10_describeList_24 (by decide) ?_
      exact ee_im C0 hI hr hlocks hf dX10_describeList_25

def F_X10_lineAt (n : Nat) (x1 : Int32) (M : Mem) : Option (Int32 × Mem) :=
  ob (F_X10_isIn n x1 0 ((M 0 17) - 1) M) (fun r_2 => (if r_2 = 0 then lt' (up2 M 0 0 1) (fun M_4 => (if (M_4 0 0) = 0 then chk (inb x1 60) (some (((M_4 6 (ix x1)).toUInt32 % 65536).toInt32, M_4)) else some (97, M_4))) else lt' (up2 M 0 0 0) (fun M_8 => (if (M_8 0 0) = 0 then chk (inb x1 60) (some (((M_8 6 (ix x1)).toUInt32 % 65536).toInt32, M_8)) else some (97, M_8)))))
theorem hd_X10_lineAt : yX10_lineAt.cls ≠ "java/lang/invoke/MethodHandle" ∧ yX10_lineAt.cls ≠ "java/lang/invoke/VarHandle" ∧ (parseMethodDescriptor yX10_lineAt.desc).map (fun d => d.parameters.length) = some 1 := ⟨by decide +kernel, by decide +kernel, by decide +kernel⟩
set_option maxHeartbeats 4000000 in
set_option maxRecDepth 100000 in
theorem c_X10_lineAt (l : Launch) (g : GG) (X : va_W) (b : Nat → Nat) (sz n : Nat) (M : Mem) (x1 : Int32) {r0 : Int32} {M' : Mem} (hf : F_X10_lineAt n x1 M = some (r0, M')) : Met l yX10_lineAt (.code yX10_lineAt cX10_lineAt 2 (some .char) :: LWg) (rmD 1 0 0) (va_Pc [.ref (b 0), .int x1] (PreP g X 10 (shM g b) b sz M)) (Qi g X 10 (shM g b) b sz r0 M') 0 0 (AA X b 10 sz) := by
  refine met_go (by decide +kernel) rfl (Nat.le_of_ble_eq_true rfl) ?_
  intro p e s m below meth c ls H locs C0 C1 hr hlocks hnm hsz hl hI
  subst hsz
  have hl : lv_has ls 2 [(0, .ref (b 0)), (1, .int x1)] := hl
  unfold F_X10_lineAt at hf
  refine lv_aload_n C0.1 C0.2.1 dX10_lineAt_0 rfl (lv_at hl 0 rfl) ?_
  refine lv_iload_n C0.1 C0.2.1 dX10_lineAt_1 rfl (lv_at hl 1 rfl) ?_
  refine lv_iconst (v := 0) C0.1 C0.2.1 dX10_lineAt_2 (by decide) ?_
  refine lv_aload_n C0.1 C0.2.1 dX10_lineAt_3 rfl (lv_at hl 0 rfl) ?_
  refine r_get (C := RX10) (T := TX10) (N9 := 20) (ci := 11) C0 C1 hI iX10 rfl 0 17 (Nat.le_of_ble_eq_true rfl) (by decide) ((fun _ => rfl) _) rfl rfl w_1708 dX10_lineAt_4 ?_
  refine lv_iconst (v := 1) C0.1 C0.2.1 dX10_lineAt_7 (by decide) ?_
  refine lv_isub C0.1 C0.2.1 dX10_lineAt_8 ?_
  obtain ⟨r_2, h_1, hf⟩ := ob_some hf
  refine k_i C1 hI (q_S C0 C1 hI (c_X10_isIn l g X b H.size n M x1 0 ((M 0 17) - 1) h_1) w_1771 w_1772 w_132 w_1773 ⟨rfl, rfl⟩ hd_X10_isIn ⟨Nat.le_of_ble_eq_true rfl, Nat.le_of_ble_eq_true rfl⟩ rfl hl.1 rfl (Nat.le_of_ble_eq_true rfl) dX10_lineAt_9 ⟨Nat.le_of_ble_eq_true rfl, Nat.le_of_ble_eq_true rfl⟩) (fun H locs hI => ?_)
  refine lv_if_eq (tgt := 19) C0.1 C0.2.1 dX10_lineAt_12 (by decide) (fun c_3 => ?_) (fun c_3 => ?_)
  · have hf := (if_pos c_3).symm.trans hf
    refine lv_iconst (v := 1) C0.1 C0.2.1 dX10_lineAt_19 (by decide) ?_
    refine r_put (C := RX10) (T := TX10) (N9 := 20) (ci := 11) (fs := fM b) (ty := .int) C0 C1 hI iX10 tyX10 tyX10_ok nmX10 rfl 0 0 (Nat.le_of_ble_eq_true rfl) (by decide) (fun _ => rfl) rfl rfl rfl (by decide +kernel) ⟨rfl, rfl⟩ (Nat.le_of_ble_eq_true rfl) w_1691 dX10_lineAt_20 (fun H locs hI => ?_)
    obtain ⟨M_4, e_5⟩ : ∃ z : Mem, z = up2 M 0 0 1 := ⟨_, rfl⟩
    rw [← e_5] at hI
    have hf := lt_at e_5 hf
    refine lv_aload_n C0.1 C0.2.1 dX10_lineAt_23 rfl (lv_at hl 0 rfl) ?_
    refine r_get (C := RX10) (T := TX10) (N9 := 20) (ci := 11) C0 C1 hI iX10 rfl 0 0 (Nat.le_of_ble_eq_true rfl) (by decide) ((fun _ => rfl) _) rfl rfl w_1691 dX10_lineAt_24 ?_
    refine lv_if_ne (tgt := 40) C0.1 C0.2.1 dX10_lineAt_27 (by decide) (fun c_6 => ?_) (fun c_6 => ?_)
    · have hf := (if_neg c_6).symm.trans hf
      refine lv_bipush (v := 97) C0.1 C0.2.1 dX10_lineAt_40 (by decide) ?_
      exact ee_zm C0 hI hr hlocks rfl hf dX10_lineAt_42
    · have hf := (if_pos c_6).symm.trans hf
      refine lv_aload_n C0.1 C0.2.1 dX10_lineAt_30 rfl (lv_at hl 0 rfl) ?_
      refine r_get (C := RX10) (T := TX10) (N9 := 20) (ci := 11) C0 C1 hI iX10 rfl 0 10 (Nat.le_of_ble_eq_true rfl) (by decide) ((fun _ => rfl) _) rfl rfl w_1701 dX10_lineAt_31 ?_
      refine lv_iload_n C0.1 C0.2.1 dX10_lineAt_34 rfl (lv_at hl 1 rfl) ?_
      obtain ⟨h_7, hf⟩ := chk_some hf
      refine r_iald C0 C1 hI 6 (Nat.le_of_ble_eq_true rfl) (fun _ => rfl) h_7 dX10_lineAt_35 ?_
      refine lv_i2c C0.1 C0.2.1 dX10_lineAt_36 rfl ?_
      refine lv_goto (tgt := 42) C0.1 C0.2.1 dX10_lineAt_37 (by decide) ?_
      exact ee_zm C0 hI hr hlocks (pk_nc _) hf dX10_lineAt_42
  · have hf := (if_neg c_3).symm.trans hf
    refine lv_iconst (v := 0) C0.1 C0.2.1 dX10_lineAt_15 (by decide) ?_
    refine lv_goto (tgt := 20) C0.1 C0.2.1 dX10_lineAt_16 (by decide) ?_
    refine r_put (C := RX10) (T := TX10) (N9 := 20) (ci := 11) (fs := fM b) (ty := .int) C0 C1 hI iX10 tyX10 tyX10_ok nmX10 rfl 0 0 (Nat.le_of_ble_eq_true rfl) (by decide) (fun _ => rfl) rfl rfl rfl (by decide +kernel) ⟨rfl, rfl⟩ (Nat.le_of_ble_eq_true rfl) w_1691 dX10_lineAt_20 (fun H locs hI => ?_)
    obtain ⟨M_8, e_9⟩ : ∃ z : Mem, z = up2 M 0 0 0 := ⟨_, rfl⟩
    rw [← e_9] at hI
    have hf := lt_at e_9 hf
    refine lv_aload_n C0.1 C0.2.1 dX10_lineAt_23 rfl (lv_at hl 0 rfl) ?_
    refine r_get (C := RX10) (T := TX10) (N9 := 20) (ci := 11) C0 C1 hI iX10 rfl 0 0 (Nat.le_of_ble_eq_true rfl) (by decide) ((fun _ => rfl) _) rfl rfl w_1691 dX10_lineAt_24 ?_
    refine lv_if_ne (tgt := 40) C0.1 C0.2.1 dX10_lineAt_27 (by decide) (fun c_10 => ?_) (fun c_10 => ?_)
    · have hf := (if_neg c_10).symm.trans hf
      refine lv_bipush (v := 97) C0.1 C0.2.1 dX10_lineAt_40 (by decide) ?_
      exact ee_zm C0 hI hr hlocks rfl hf dX10_lineAt_42
    · have hf := (if_pos c_10).symm.trans hf
      refine lv_aload_n C0.1 C0.2.1 dX10_lineAt_30 rfl (lv_at hl 0 rfl) ?_
      refine r_get (C := RX10) (T := TX10) (N9 := 20) (ci := 11) C0 C1 hI iX10 rfl 0 10 (Nat.le_of_ble_eq_true rfl) (by decide) ((fun _ => rfl) _) rfl rfl w_1701 dX10_lineAt_31 ?_
      refine lv_iload_n C0.1 C0.2.1 dX10_lineAt_34 rfl (lv_at hl 1 rfl) ?_
      obtain ⟨h_11, hf⟩ := chk_some hf
      refine r_iald C0 C1 hI 6 (Nat.le_of_ble_eq_true rfl) (fun _ => rfl) h_11 dX10_lineAt_35 ?_
      refine lv_i2c C0.1 C0.2.1 dX10_lineAt_36 rfl ?_
      refine lv_goto (tgt := 42) C0.1 C0.2.1 dX10_lineAt_37 (by decide) ?_
      exact ee_zm C0 hI hr hlocks (pk_nc _) hf dX10_lineAt_42

def F_X10_isConsistent_L9 (n : Nat) : Nat → Int32 → Int32 → Mem → Option (Int32 × Mem)
  | 0, _, _, _ => none
  | k9 + 1, x1_9, x2_9, M =>
    chk (inb 2 407) ((if (M 1 (ix 2)) ≤ x2_9 then chk (inb 3 407) ((if x1_9 = (M 1 (ix 3)) then some (1, M) else some (0, M))) else ob (F_X10_of n x2_9 6 M) (fun r_9_6 => chk (inb r_9_6 407) (lt' (x1_9 + (M 1 (ix r_9_6))) (fun x1_9_8 => lt' (x2_9 + 1) (fun x2_9_10 => F_X10_isConsistent_L9 n k9 x1_9_8 x2_9_10 M))))))
def F_X10_isConsistent (n : Nat) (M : Mem) : Option (Int32 × Mem) :=
  lt' (up2 M 0 0 0) (fun M_1 => F_X10_isConsistent_L9 n n 0 0 M_1)
theorem hd_X10_isConsistent : yX10_isConsistent.cls ≠ "java/lang/invoke/MethodHandle" ∧ yX10_isConsistent.cls ≠ "java/lang/invoke/VarHandle" ∧ (parseMethodDescriptor yX10_isConsistent.desc).map (fun d => d.parameters.length) = some 0 := ⟨by decide +kernel, by decide +kernel, by decide +kernel⟩
set_option maxHeartbeats 4000000 in
set_option maxRecDepth 100000 in
theorem c_X10_isConsistent (l : Launch) (g : GG) (X : va_W) (b : Nat → Nat) (sz n : Nat) (M : Mem) {r0 : Int32} {M' : Mem} (hf : F_X10_isConsistent n M = some (r0, M')) : Met l yX10_isConsistent (.code yX10_isConsistent cX10_isConsistent 3 (some .boolean) :: LWg) (rmD 1 0 0) (va_Pc [.ref (b 0)] (PreP g X 10 (shM g b) b sz M)) (Qi g X 10 (shM g b) b sz r0 M') 0 0 (AA X b 10 sz) := by
  refine met_go (by decide +kernel) rfl (Nat.le_of_ble_eq_true rfl) ?_
  intro p e s m below meth c ls H locs C0 C1 hr hlocks hnm hsz hl hI
  subst hsz
  have hl : lv_has ls 3 [(0, .ref (b 0))] := hl
  unfold F_X10_isConsistent at hf
  refine lv_aload_n C0.1 C0.2.1 dX10_isConsistent_0 rfl (lv_at hl 0 rfl) ?_
  refine lv_iconst (v := 0) C0.1 C0.2.1 dX10_isConsistent_1 (by decide) ?_
  refine r_put (C := RX10) (T := TX10) (N9 := 20) (ci := 11) (fs := fM b) (ty := .int) C0 C1 hI iX10 tyX10 tyX10_ok nmX10 rfl 0 0 (Nat.le_of_ble_eq_true rfl) (by decide) (fun _ => rfl) rfl rfl rfl (by decide +kernel) ⟨rfl, rfl⟩ (Nat.le_of_ble_eq_true rfl) w_1691 dX10_isConsistent_2 (fun H locs hI => ?_)
  obtain ⟨M_1, e_2⟩ : ∃ z : Mem, z = up2 M 0 0 0 := ⟨_, rfl⟩
  rw [← e_2] at hI
  have hf := lt_at e_2 hf
  refine lv_iconst (v := 0) C0.1 C0.2.1 dX10_isConsistent_5 (by decide) ?_
  refine lv_istore_n (lv' := [(1, .int 0), (0, .ref (b 0))]) C0.1 C0.2.1 dX10_isConsistent_6 rfl hl (by decide) rfl (fun ls hl => ?_)
  refine lv_iconst (v := 0) C0.1 C0.2.1 dX10_isConsistent_7 (by decide) ?_
  refine lv_istore_n (lv' := [(2, .int 0), (1, .int 0), (0, .ref (b 0))]) C0.1 C0.2.1 dX10_isConsistent_8 rfl hl (by decide) rfl (fun ls hl => ?_)
  have L9 : ∀ (k9 : Nat) (x1_9 : Int32) (x2_9 : Int32) (M : Mem), F_X10_isConsistent_L9 n k9 x1_9 x2_9 M = some (r0, M') → ∀ (H : Heap) (locs : List Loc) (ls : Array Slot), PI g X 10 (shM g b) b s M H locs → lv_has ls 3 [(0, .ref (b 0)), (1, .int x1_9), (2, .int x2_9)] → W p l e (rmD 1 0 0) s m ([.ref (b 0)] : List Value).toArray below meth c H locs 0 0 (MQ below (Qi g X 10 (shM g b) b s.heap.size r0 M') ([.ref (b 0)] : List Value).toArray s 0 0 (AA X b 10 s.heap.size)) (F0 m 9 ls []) := by
    intro k9
    induction k9 with
    | zero => intro x1_9 x2_9 M hf; exact absurd (show (none : Option (Int32 × Mem)) = some (r0, M') from hf) (fun h => by cases h)
    | succ k9 ih9 =>
      intro x1_9 x2_9 M hf H locs ls hI hl
      unfold F_X10_isConsistent_L9 at hf
      refine lv_iload_n C0.1 C0.2.1 dX10_isConsistent_9 rfl (lv_at hl 2 rfl) ?_
      refine lv_aload_n C0.1 C0.2.1 dX10_isConsistent_10 rfl (lv_at hl 0 rfl) ?_
      refine r_get (C := RX10) (T := TX10) (N9 := 20) (ci := 11) C0 C1 hI iX10 rfl 0 5 (Nat.le_of_ble_eq_true rfl) (by decide) ((fun _ => rfl) _) rfl rfl w_1696 dX10_isConsistent_11 ?_
      refine lv_iconst (v := 2) C0.1 C0.2.1 dX10_isConsistent_14 (by decide) ?_
      obtain ⟨h_9_1, hf⟩ := chk_some hf
      refine r_iald C0 C1 hI 1 (Nat.le_of_ble_eq_true rfl) (fun _ => rfl) h_9_1 dX10_isConsistent_15 ?_
      refine lv_icmp_ge (tgt := 39) C0.1 C0.2.1 dX10_isConsistent_16 (by decide) (fun c_9_2 => ?_) (fun c_9_2 => ?_)
      · have hf := (if_pos c_9_2).symm.trans hf
        refine lv_iload_n C0.1 C0.2.1 dX10_isConsistent_39 rfl (lv_at hl 1 rfl) ?_
        refine lv_aload_n C0.1 C0.2.1 dX10_isConsistent_40 rfl (lv_at hl 0 rfl) ?_
        refine r_get (C := RX10) (T := TX10) (N9 := 20) (ci := 11) C0 C1 hI iX10 rfl 0 5 (Nat.le_of_ble_eq_true rfl) (by decide) ((fun _ => rfl) _) rfl rfl w_1696 dX10_isConsistent_41 ?_
        refine lv_iconst (v := 3) C0.1 C0.2.1 dX10_isConsistent_44 (by decide) ?_
        obtain ⟨h_9_3, hf⟩ := chk_some hf
        refine r_iald C0 C1 hI 1 (Nat.le_of_ble_eq_true rfl) (fun _ => rfl) h_9_3 dX10_isConsistent_45 ?_
        refine lv_icmp_ne (tgt := 53) C0.1 C0.2.1 dX10_isConsistent_46 (by decide) (fun c_9_4 => ?_) (fun c_9_4 => ?_)
        · have hf := (if_neg c_9_4).symm.trans hf
          refine lv_iconst (v := 0) C0.1 C0.2.1 dX10_isConsistent_53 (by decide) ?_
          exact ee_zm C0 hI hr hlocks rfl hf dX10_isConsistent_54
        · have hf := (if_pos c_9_4).symm.trans hf
          refine lv_iconst (v := 1) C0.1 C0.2.1 dX10_isConsistent_49 (by decide) ?_
          refine lv_goto (tgt := 54) C0.1 C0.2.1 dX10_isConsistent_50 (by decide) ?_
          exact ee_zm C0 hI hr hlocks rfl hf dX10_isConsistent_54
      · have hf := (if_neg c_9_2).symm.trans hf
        refine lv_iload_n C0.1 C0.2.1 dX10_isConsistent_19 rfl (lv_at hl 1 rfl) ?_
        refine lv_aload_n C0.1 C0.2.1 dX10_isConsistent_20 rfl (lv_at hl 0 rfl) ?_
        refine r_get (C := RX10) (T := TX10) (N9 := 20) (ci := 11) C0 C1 hI iX10 rfl 0 5 (Nat.le_of_ble_eq_true rfl) (by decide) ((fun _ => rfl) _) rfl rfl w_1696 dX10_isConsistent_21 ?_
        refine lv_iload_n C0.1 C0.2.1 dX10_isConsistent_24 rfl (lv_at hl 2 rfl) ?_
        refine lv_bipush (v := 6) C0.1 C0.2.1 dX10_isConsistent_25 (by decide) ?_
        obtain ⟨r_9_6, h_9_5, hf⟩ := ob_some hf
        refine k_i C1 hI (q_S C0 C1 hI (c_X10_of l g X b H.size n M x2_9 6 h_9_5) w_1878 w_1879 w_132 w_1880 ⟨rfl, rfl⟩ hd_X10_of ⟨Nat.le_of_ble_eq_true rfl, Nat.le_of_ble_eq_true rfl⟩ rfl hl.1 rfl (Nat.le_of_ble_eq_true rfl) dX10_isConsistent_27 ⟨Nat.le_of_ble_eq_true rfl, Nat.le_of_ble_eq_true rfl⟩) (fun H locs hI => ?_)
        obtain ⟨h_9_7, hf⟩ := chk_some hf
        refine r_iald C0 C1 hI 1 (Nat.le_of_ble_eq_true rfl) (fun _ => rfl) h_9_7 dX10_isConsistent_30 ?_
        refine lv_iadd C0.1 C0.2.1 dX10_isConsistent_31 ?_
        refine lv_topi (fun x1_9_8 e_9_9 => ?_)
        have hf := lt_at e_9_9 hf
        refine lv_istore_n (lv' := [(1, .int x1_9_8), (0, .ref (b 0)), (2, .int x2_9)]) C0.1 C0.2.1 dX10_isConsistent_32 rfl hl (by decide) rfl (fun ls hl => ?_)
        obtain ⟨x2_9_10, e_9_11⟩ : ∃ z : Int32, z = x2_9 + 1 := ⟨_, rfl⟩
        have hf := lt_at e_9_11 hf
        refine lv_iinc (v := x2_9_10) (lv' := [(2, .int x2_9_10), (1, .int x1_9_8), (0, .ref (b 0))]) C0.1 C0.2.1 dX10_isConsistent_33 hl (k := 2) rfl (by rw [e_9_11]; rfl) (by decide) rfl (fun ls hl => ?_)
        refine lv_goto (tgt := 9) C0.1 C0.2.1 dX10_isConsistent_36 (by decide) ?_
        exact ih9 x1_9_8 x2_9_10 M hf H locs ls hI (lv_sub hl [2, 1, 0] rfl)
  exact L9 n 0 0 M_1 hf H locs ls hI (lv_sub hl [2, 1, 0] rfl)

def F_X10_undo_L37 (n : Nat) : Nat → Int32 → Mem → Option (Int32 × Mem)
  | 0, _, _ => none
  | k37 + 1, x1_37, M =>
    (if 407 ≤ x1_37 then some (M 0 1, M) else chk (inb (((M 0 1) * 407) + x1_37) 3256) (chk (inb x1_37 407) (lt' (up2 M 1 (ix x1_37) (M 4 (ix (((M 0 1) * 407) + x1_37)))) (fun M_37_6 => lt' (x1_37 + 1) (fun x1_37_8 => F_X10_undo_L37 n k37 x1_37_8 M_37_6)))))
def F_X10_undo (n : Nat) (M : Mem) : Option (Int32 × Mem) :=
  (if (M 0 1) = 0 then lt' (up2 M 0 0 1) (fun M_7 => (if (M_7 0 0) = 0 then lt' (up2 M_7 0 1 ((M_7 0 1) - 1)) (fun M_10 => F_X10_undo_L37 n n 0 M_10) else some (0, M_7))) else lt' (up2 M 0 0 0) (fun M_2 => (if (M_2 0 0) = 0 then lt' (up2 M_2 0 1 ((M_2 0 1) - 1)) (fun M_5 => F_X10_undo_L37 n n 0 M_5) else some (0, M_2))))
theorem hd_X10_undo : yX10_undo.cls ≠ "java/lang/invoke/MethodHandle" ∧ yX10_undo.cls ≠ "java/lang/invoke/VarHandle" ∧ (parseMethodDescriptor yX10_undo.desc).map (fun d => d.parameters.length) = some 0 := ⟨by decide +kernel, by decide +kernel, by decide +kernel⟩
set_option maxHeartbeats 4000000 in
set_option maxRecDepth 100000 in
theorem c_X10_undo (l : Launch) (g : GG) (X : va_W) (b : Nat → Nat) (sz n : Nat) (M : Mem) {r0 : Int32} {M' : Mem} (hf : F_X10_undo n M = some (r0, M')) : Met l yX10_undo (.code yX10_undo cX10_undo 2 (some .int) :: LWg) (rmD 0 0 0) (va_Pc [.ref (b 0)] (PreP g X 10 (shM g b) b sz M)) (Qi g X 10 (shM g b) b sz r0 M') 0 0 (AA X b 10 sz) := by
  refine met_go (by decide +kernel) rfl (Nat.le_of_ble_eq_true rfl) ?_
  intro p e s m below meth c ls H locs C0 C1 hr hlocks hnm hsz hl hI
  subst hsz
  have hl : lv_has ls 2 [(0, .ref (b 0))] := hl
  unfold F_X10_undo at hf
  refine lv_aload_n C0.1 C0.2.1 dX10_undo_0 rfl (lv_at hl 0 rfl) ?_
  refine lv_aload_n C0.1 C0.2.1 dX10_undo_1 rfl (lv_at hl 0 rfl) ?_
  refine r_get (C := RX10) (T := TX10) (N9 := 20) (ci := 11) C0 C1 hI iX10 rfl 0 1 (Nat.le_of_ble_eq_true rfl) (by decide) ((fun _ => rfl) _) rfl rfl w_1692 dX10_undo_2 ?_
  refine lv_if_ne (tgt := 12) C0.1 C0.2.1 dX10_undo_5 (by decide) (fun c_1 => ?_) (fun c_1 => ?_)
  · have hf := (if_neg c_1).symm.trans hf
    refine lv_iconst (v := 0) C0.1 C0.2.1 dX10_undo_12 (by decide) ?_
    refine r_put (C := RX10) (T := TX10) (N9 := 20) (ci := 11) (fs := fM b) (ty := .int) C0 C1 hI iX10 tyX10 tyX10_ok nmX10 rfl 0 0 (Nat.le_of_ble_eq_true rfl) (by decide) (fun _ => rfl) rfl rfl rfl (by decide +kernel) ⟨rfl, rfl⟩ (Nat.le_of_ble_eq_true rfl) w_1691 dX10_undo_13 (fun H locs hI => ?_)
    obtain ⟨M_2, e_3⟩ : ∃ z : Mem, z = up2 M 0 0 0 := ⟨_, rfl⟩
    rw [← e_3] at hI
    have hf := lt_at e_3 hf
    refine lv_aload_n C0.1 C0.2.1 dX10_undo_16 rfl (lv_at hl 0 rfl) ?_
    refine r_get (C := RX10) (T := TX10) (N9 := 20) (ci := 11) C0 C1 hI iX10 rfl 0 0 (Nat.le_of_ble_eq_true rfl) (by decide) ((fun _ => rfl) _) rfl rfl w_1691 dX10_undo_17 ?_
    refine lv_if_eq (tgt := 25) C0.1 C0.2.1 dX10_undo_20 (by decide) (fun c_4 => ?_) (fun c_4 => ?_)
    · have hf := (if_pos c_4).symm.trans hf
      refine lv_aload_n C0.1 C0.2.1 dX10_undo_25 rfl (lv_at hl 0 rfl) ?_
      refine lv_dup C0.1 C0.2.1 dX10_undo_26 rfl ?_
      refine r_get (C := RX10) (T := TX10) (N9 := 20) (ci := 11) C0 C1 hI iX10 rfl 0 1 (Nat.le_of_ble_eq_true rfl) (by decide) ((fun _ => rfl) _) rfl rfl w_1692 dX10_undo_27 ?_
      refine lv_iconst (v := 1) C0.1 C0.2.1 dX10_undo_30 (by decide) ?_
      refine lv_isub C0.1 C0.2.1 dX10_undo_31 ?_
      refine r_put (C := RX10) (T := TX10) (N9 := 20) (ci := 11) (fs := fM b) (ty := .int) C0 C1 hI iX10 tyX10 tyX10_ok nmX10 rfl 0 1 (Nat.le_of_ble_eq_true rfl) (by decide) (fun _ => rfl) rfl rfl rfl (by decide +kernel) ⟨rfl, rfl⟩ (Nat.le_of_ble_eq_true rfl) w_1692 dX10_undo_32 (fun H locs hI => ?_)
      obtain ⟨M_5, e_6⟩ : ∃ z : Mem, z = up2 M_2 0 1 ((M_2 0 1) - 1) := ⟨_, rfl⟩
      rw [← e_6] at hI
      have hf := lt_at e_6 hf
      refine lv_iconst (v := 0) C0.1 C0.2.1 dX10_undo_35 (by decide) ?_
      refine lv_istore_n (lv' := [(1, .int 0), (0, .ref (b 0))]) C0.1 C0.2.1 dX10_undo_36 rfl hl (by decide) rfl (fun ls hl => ?_)
      have L37 : ∀ (k37 : Nat) (x1_37 : Int32) (M : Mem), F_X10_undo_L37 n k37 x1_37 M = some (r0, M') → ∀ (H : Heap) (locs : List Loc) (ls : Array Slot), PI g X 10 (shM g b) b s M H locs → lv_has ls 2 [(0, .ref (b 0)), (1, .int x1_37)] → W p l e (rmD 0 0 0) s m ([.ref (b 0)] : List Value).toArray below meth c H locs 0 0 (MQ below (Qi g X 10 (shM g b) b s.heap.size r0 M') ([.ref (b 0)] : List Value).toArray s 0 0 (AA X b 10 s.heap.size)) (F0 m 37 ls []) := by
        intro k37
        induction k37 with
        | zero => intro x1_37 M hf; exact absurd (show (none : Option (Int32 × Mem)) = some (r0, M') from hf) (fun h => by cases h)
        | succ k37 ih37 =>
          intro x1_37 M hf H locs ls hI hl
          unfold F_X10_undo_L37 at hf
          refine lv_iload_n C0.1 C0.2.1 dX10_undo_37 rfl (lv_at hl 1 rfl) ?_
          refine lv_sipush (v := 407) C0.1 C0.2.1 dX10_undo_38 (by decide) ?_
          refine lv_icmp_ge (tgt := 71) C0.1 C0.2.1 dX10_undo_41 (by decide) (fun c_37_1 => ?_) (fun c_37_1 => ?_)
          · have hf := (if_pos c_37_1).symm.trans hf
            refine lv_aload_n C0.1 C0.2.1 dX10_undo_71 rfl (lv_at hl 0 rfl) ?_
            refine r_get (C := RX10) (T := TX10) (N9 := 20) (ci := 11) C0 C1 hI iX10 rfl 0 1 (Nat.le_of_ble_eq_true rfl) (by decide) ((fun _ => rfl) _) rfl rfl w_1692 dX10_undo_72 ?_
            exact ee_im C0 hI hr hlocks hf dX10_undo_75
          · have hf := (if_neg c_37_1).symm.trans hf
            refine lv_aload_n C0.1 C0.2.1 dX10_undo_44 rfl (lv_at hl 0 rfl) ?_
            refine r_get (C := RX10) (T := TX10) (N9 := 20) (ci := 11) C0 C1 hI iX10 rfl 0 5 (Nat.le_of_ble_eq_true rfl) (by decide) ((fun _ => rfl) _) rfl rfl w_1696 dX10_undo_45 ?_
            refine lv_iload_n C0.1 C0.2.1 dX10_undo_48 rfl (lv_at hl 1 rfl) ?_
            refine lv_aload_n C0.1 C0.2.1 dX10_undo_49 rfl (lv_at hl 0 rfl) ?_
            refine r_get (C := RX10) (T := TX10) (N9 := 20) (ci := 11) C0 C1 hI iX10 rfl 0 8 (Nat.le_of_ble_eq_true rfl) (by decide) ((fun _ => rfl) _) rfl rfl w_1699 dX10_undo_50 ?_
            refine lv_aload_n C0.1 C0.2.1 dX10_undo_53 rfl (lv_at hl 0 rfl) ?_
            refine r_get (C := RX10) (T := TX10) (N9 := 20) (ci := 11) C0 C1 hI iX10 rfl 0 1 (Nat.le_of_ble_eq_true rfl) (by decide) ((fun _ => rfl) _) rfl rfl w_1692 dX10_undo_54 ?_
            refine lv_sipush (v := 407) C0.1 C0.2.1 dX10_undo_57 (by decide) ?_
            refine lv_imul C0.1 C0.2.1 dX10_undo_60 ?_
            refine lv_iload_n C0.1 C0.2.1 dX10_undo_61 rfl (lv_at hl 1 rfl) ?_
            refine lv_iadd C0.1 C0.2.1 dX10_undo_62 ?_
            obtain ⟨h_37_2, hf⟩ := chk_some hf
            refine r_iald C0 C1 hI 4 (Nat.le_of_ble_eq_true rfl) (fun _ => rfl) h_37_2 dX10_undo_63 ?_
            obtain ⟨h_37_3, hf⟩ := chk_some hf
            refine r_iast C0 C1 hI 1 (Nat.le_of_ble_eq_true rfl) (fun _ => rfl) h_37_3 dX10_undo_64 (fun H locs hI => ?_)
            obtain ⟨M_37_6, e_37_7⟩ : ∃ z : Mem, z = up2 M 1 (ix x1_37) (M 4 (ix (((M 0 1) * 407) + x1_37))) := ⟨_, rfl⟩
            rw [← e_37_7] at hI
            have hf := lt_at e_37_7 hf
            obtain ⟨x1_37_8, e_37_9⟩ : ∃ z : Int32, z = x1_37 + 1 := ⟨_, rfl⟩
            have hf := lt_at e_37_9 hf
            refine lv_iinc (v := x1_37_8) (lv' := [(1, .int x1_37_8), (0, .ref (b 0))]) C0.1 C0.2.1 dX10_undo_65 hl (k := 1) rfl (by rw [e_37_9]; rfl) (by decide) rfl (fun ls hl => ?_)
            refine lv_goto (tgt := 37) C0.1 C0.2.1 dX10_undo_68 (by decide) ?_
            exact ih37 x1_37_8 M_37_6 hf H locs ls hI (lv_sub hl [1, 0] rfl)
      exact L37 n 0 M_5 hf H locs ls hI (lv_sub hl [1, 0] rfl)
    · have hf := (if_neg c_4).symm.trans hf
      refine lv_iconst (v := 0) C0.1 C0.2.1 dX10_undo_23 (by decide) ?_
      exact ee_im C0 hI hr hlocks hf dX10_undo_24
  · have hf := (if_pos c_1).symm.trans hf
    refine lv_iconst (v := 1) C0.1 C0.2.1 dX10_undo_8 (by decide) ?_
    refine lv_goto (tgt := 13) C0.1 C0.2.1 dX10_undo_9 (by decide) ?_
    refine r_put (C := RX10) (T := TX10) (N9 := 20) (ci := 11) (fs := fM b) (ty := .int) C0 C1 hI iX10 tyX10 tyX10_ok nmX10 rfl 0 0 (Nat.le_of_ble_eq_true rfl) (by decide) (fun _ => rfl) rfl rfl rfl (by decide +kernel) ⟨rfl, rfl⟩ (Nat.le_of_ble_eq_true rfl) w_1691 dX10_undo_13 (fun H locs hI => ?_)
    obtain ⟨M_7, e_8⟩ : ∃ z : Mem, z = up2 M 0 0 1 := ⟨_, rfl⟩
    rw [← e_8] at hI
    have hf := lt_at e_8 hf
    refine lv_aload_n C0.1 C0.2.1 dX10_undo_16 rfl (lv_at hl 0 rfl) ?_
    refine r_get (C := RX10) (T := TX10) (N9 := 20) (ci := 11) C0 C1 hI iX10 rfl 0 0 (Nat.le_of_ble_eq_true rfl) (by decide) ((fun _ => rfl) _) rfl rfl w_1691 dX10_undo_17 ?_
    refine lv_if_eq (tgt := 25) C0.1 C0.2.1 dX10_undo_20 (by decide) (fun c_9 => ?_) (fun c_9 => ?_)
    · have hf := (if_pos c_9).symm.trans hf
      refine lv_aload_n C0.1 C0.2.1 dX10_undo_25 rfl (lv_at hl 0 rfl) ?_
      refine lv_dup C0.1 C0.2.1 dX10_undo_26 rfl ?_
      refine r_get (C := RX10) (T := TX10) (N9 := 20) (ci := 11) C0 C1 hI iX10 rfl 0 1 (Nat.le_of_ble_eq_true rfl) (by decide) ((fun _ => rfl) _) rfl rfl w_1692 dX10_undo_27 ?_
      refine lv_iconst (v := 1) C0.1 C0.2.1 dX10_undo_30 (by decide) ?_
      refine lv_isub C0.1 C0.2.1 dX10_undo_31 ?_
      refine r_put (C := RX10) (T := TX10) (N9 := 20) (ci := 11) (fs := fM b) (ty := .int) C0 C1 hI iX10 tyX10 tyX10_ok nmX10 rfl 0 1 (Nat.le_of_ble_eq_true rfl) (by decide) (fun _ => rfl) rfl rfl rfl (by decide +kernel) ⟨rfl, rfl⟩ (Nat.le_of_ble_eq_true rfl) w_1692 dX10_undo_32 (fun H locs hI => ?_)
      obtain ⟨M_10, e_11⟩ : ∃ z : Mem, z = up2 M_7 0 1 ((M_7 0 1) - 1) := ⟨_, rfl⟩
      rw [← e_11] at hI
      have hf := lt_at e_11 hf
      refine lv_iconst (v := 0) C0.1 C0.2.1 dX10_undo_35 (by decide) ?_
      refine lv_istore_n (lv' := [(1, .int 0), (0, .ref (b 0))]) C0.1 C0.2.1 dX10_undo_36 rfl hl (by decide) rfl (fun ls hl => ?_)
      have L37 : ∀ (k37 : Nat) (x1_37 : Int32) (M : Mem), F_X10_undo_L37 n k37 x1_37 M = some (r0, M') → ∀ (H : Heap) (locs : List Loc) (ls : Array Slot), PI g X 10 (shM g b) b s M H locs → lv_has ls 2 [(0, .ref (b 0)), (1, .int x1_37)] → W p l e (rmD 0 0 0) s m ([.ref (b 0)] : List Value).toArray below meth c H locs 0 0 (MQ below (Qi g X 10 (shM g b) b s.heap.size r0 M') ([.ref (b 0)] : List Value).toArray s 0 0 (AA X b 10 s.heap.size)) (F0 m 37 ls []) := by
        intro k37
        induction k37 with
        | zero => intro x1_37 M hf; exact absurd (show (none : Option (Int32 × Mem)) = some (r0, M') from hf) (fun h => by cases h)
        | succ k37 ih37 =>
          intro x1_37 M hf H locs ls hI hl
          unfold F_X10_undo_L37 at hf
          refine lv_iload_n C0.1 C0.2.1 dX10_undo_37 rfl (lv_at hl 1 rfl) ?_
          refine lv_sipush (v := 407) C0.1 C0.2.1 dX10_undo_38 (by decide) ?_
          refine lv_icmp_ge (tgt := 71) C0.1 C0.2.1 dX10_undo_41 (by decide) (fun c_37_1 => ?_) (fun c_37_1 => ?_)
          · have hf := (if_pos c_37_1).symm.trans hf
            refine lv_aload_n C0.1 C0.2.1 dX10_undo_71 rfl (lv_at hl 0 rfl) ?_
            refine r_get (C := RX10) (T := TX10) (N9 := 20) (ci := 11) C0 C1 hI iX10 rfl 0 1 (Nat.le_of_ble_eq_true rfl) (by decide) ((fun _ => rfl) _) rfl rfl w_1692 dX10_undo_72 ?_
            exact ee_im C0 hI hr hlocks hf dX10_undo_75
          · have hf := (if_neg c_37_1).symm.trans hf
            refine lv_aload_n C0.1 C0.2.1 dX10_undo_44 rfl (lv_at hl 0 rfl) ?_
            refine r_get (C := RX10) (T := TX10) (N9 := 20) (ci := 11) C0 C1 hI iX10 rfl 0 5 (Nat.le_of_ble_eq_true rfl) (by decide) ((fun _ => rfl) _) rfl rfl w_1696 dX10_undo_45 ?_
            refine lv_iload_n C0.1 C0.2.1 dX10_undo_48 rfl (lv_at hl 1 rfl) ?_
            refine lv_aload_n C0.1 C0.2.1 dX10_undo_49 rfl (lv_at hl 0 rfl) ?_
            refine r_get (C := RX10) (T := TX10) (N9 := 20) (ci := 11) C0 C1 hI iX10 rfl 0 8 (Nat.le_of_ble_eq_true rfl) (by decide) ((fun _ => rfl) _) rfl rfl w_1699 dX10_undo_50 ?_
            refine lv_aload_n C0.1 C0.2.1 dX10_undo_53 rfl (lv_at hl 0 rfl) ?_
            refine r_get (C := RX10) (T := TX10) (N9 := 20) (ci := 11) C0 C1 hI iX10 rfl 0 1 (Nat.le_of_ble_eq_true rfl) (by decide) ((fun _ => rfl) _) rfl rfl w_1692 dX10_undo_54 ?_
            refine lv_sipush (v := 407) C0.1 C0.2.1 dX10_undo_57 (by decide) ?_
            refine lv_imul C0.1 C0.2.1 dX10_undo_60 ?_
            refine lv_iload_n C0.1 C0.2.1 dX10_undo_61 rfl (lv_at hl 1 rfl) ?_
            refine lv_iadd C0.1 C0.2.1 dX10_undo_62 ?_
            obtain ⟨h_37_2, hf⟩ := chk_some hf
            refine r_iald C0 C1 hI 4 (Nat.le_of_ble_eq_true rfl) (fun _ => rfl) h_37_2 dX10_undo_63 ?_
            obtain ⟨h_37_3, hf⟩ := chk_some hf
            refine r_iast C0 C1 hI 1 (Nat.le_of_ble_eq_true rfl) (fun _ => rfl) h_37_3 dX10_undo_64 (fun H locs hI => ?_)
            obtain ⟨M_37_6, e_37_7⟩ : ∃ z : Mem, z = up2 M 1 (ix x1_37) (M 4 (ix (((M 0 1) * 407) + x1_37))) := ⟨_, rfl⟩
            rw [← e_37_7] at hI
            have hf := lt_at e_37_7 hf
            obtain ⟨x1_37_8, e_37_9⟩ : ∃ z : Int32, z = x1_37 + 1 := ⟨_, rfl⟩
            have hf := lt_at e_37_9 hf
            refine lv_iinc (v := x1_37_8) (lv' := [(1, .int x1_37_8), (0, .ref (b 0))]) C0.1 C0.2.1 dX10_undo_65 hl (k := 1) rfl (by rw [e_37_9]; rfl) (by decide) rfl (fun ls hl => ?_)
            refine lv_goto (tgt := 37) C0.1 C0.2.1 dX10_undo_68 (by decide) ?_
            exact ih37 x1_37_8 M_37_6 hf H locs ls hI (lv_sub hl [1, 0] rfl)
      exact L37 n 0 M_10 hf H locs ls hI (lv_sub hl [1, 0] rfl)
    · have hf := (if_neg c_9).symm.trans hf
      refine lv_iconst (v := 0) C0.1 C0.2.1 dX10_undo_23 (by decide) ?_
      exact ee_im C0 hI hr hlocks hf dX10_undo_24

def F_X10_save (n : Nat) (M : Mem) : Option (Int32 × Mem) :=
  lt' (up2 M 0 0 0) (fun M_1 => ob (F_X10_lays n 3 1 M_1) (fun M_4 => lt' (up2 M_4 0 4 1) (fun M_5 => chk (inb 2 407) (some (M_5 1 (ix 2), M_5)))))
theorem hd_X10_save : yX10_save.cls ≠ "java/lang/invoke/MethodHandle" ∧ yX10_save.cls ≠ "java/lang/invoke/VarHandle" ∧ (parseMethodDescriptor yX10_save.desc).map (fun d => d.parameters.length) = some 0 := ⟨by decide +kernel, by decide +kernel, by decide +kernel⟩
set_option maxHeartbeats 4000000 in
set_option maxRecDepth 100000 in
theorem c_X10_save (l : Launch) (g : GG) (X : va_W) (b : Nat → Nat) (sz n : Nat) (M : Mem) {r0 : Int32} {M' : Mem} (hf : F_X10_save n M = some (r0, M')) : Met l yX10_save (.code yX10_save cX10_save 1 (some .int) :: LWg) (rmD 1 0 0) (va_Pc [.ref (b 0)] (PreP g X 10 (shM g b) b sz M)) (Qi g X 10 (shM g b) b sz r0 M') 0 0 (AA X b 10 sz) := by
  refine met_go (by decide +kernel) rfl (Nat.le_of_ble_eq_true rfl) ?_
  intro p e s m below meth c ls H locs C0 C1 hr hlocks hnm hsz hl hI
  subst hsz
  have hl : lv_has ls 1 [(0, .ref (b 0))] := hl
  unfold F_X10_save at hf
  refine lv_aload_n C0.1 C0.2.1 dX10_save_0 rfl (lv_at hl 0 rfl) ?_
  refine lv_iconst (v := 0) C0.1 C0.2.1 dX10_save_1 (by decide) ?_
  refine r_put (C := RX10) (T := TX10) (N9 := 20) (ci := 11) (fs := fM b) (ty := .int) C0 C1 hI iX10 tyX10 tyX10_ok nmX10 rfl 0 0 (Nat.le_of_ble_eq_true rfl) (by decide) (fun _ => rfl) rfl rfl rfl (by decide +kernel) ⟨rfl, rfl⟩ (Nat.le_of_ble_eq_true rfl) w_1691 dX10_save_2 (fun H locs hI => ?_)
  obtain ⟨M_1, e_2⟩ : ∃ z : Mem, z = up2 M 0 0 0 := ⟨_, rfl⟩
  rw [← e_2] at hI
  have hf := lt_at e_2 hf
  refine lv_aload_n C0.1 C0.2.1 dX10_save_5 rfl (lv_at hl 0 rfl) ?_
  refine r_get (C := RX10) (T := TX10) (N9 := 20) (ci := 11) C0 C1 hI iX10 rfl 0 7 (Nat.le_of_ble_eq_true rfl) (by decide) ((fun _ => rfl) _) rfl rfl w_1698 dX10_save_6 ?_
  refine lv_aload_n C0.1 C0.2.1 dX10_save_9 rfl (lv_at hl 0 rfl) ?_
  refine r_get (C := RX10) (T := TX10) (N9 := 20) (ci := 11) C0 C1 hI iX10 rfl 0 5 (Nat.le_of_ble_eq_true rfl) (by decide) ((fun _ => rfl) _) rfl rfl w_1696 dX10_save_10 ?_
  obtain ⟨M_4, h_3, hf⟩ := ob_some hf
  refine k_v C1 hI (q_S C0 C1 hI (c_X10_lays l g X b H.size n M_1 3 (by decide) 1 (by decide) h_3) w_1764 w_1765 w_132 w_1766 ⟨rfl, rfl⟩ hd_X10_lays ⟨Nat.le_of_ble_eq_true rfl, Nat.le_of_ble_eq_true rfl⟩ rfl hl.1 rfl (Nat.le_of_ble_eq_true rfl) dX10_save_13 ⟨Nat.le_of_ble_eq_true rfl, Nat.le_of_ble_eq_true rfl⟩) (fun H locs hI => ?_)
  refine lv_aload_n C0.1 C0.2.1 dX10_save_16 rfl (lv_at hl 0 rfl) ?_
  refine lv_iconst (v := 1) C0.1 C0.2.1 dX10_save_17 (by decide) ?_
  refine r_put (C := RX10) (T := TX10) (N9 := 20) (ci := 11) (fs := fM b) (ty := .boolean) C0 C1 hI iX10 tyX10 tyX10_ok nmX10 rfl 0 4 (Nat.le_of_ble_eq_true rfl) (by decide) (fun _ => rfl) rfl rfl rfl (by decide +kernel) ⟨rfl, rfl⟩ (Nat.le_of_ble_eq_true rfl) w_1695 dX10_save_18 (fun H locs hI => ?_)
  obtain ⟨M_5, e_6⟩ : ∃ z : Mem, z = up2 M_4 0 4 1 := ⟨_, rfl⟩
  rw [← e_6] at hI
  have hf := lt_at e_6 hf
  refine lv_aload_n C0.1 C0.2.1 dX10_save_21 rfl (lv_at hl 0 rfl) ?_
  refine r_get (C := RX10) (T := TX10) (N9 := 20) (ci := 11) C0 C1 hI iX10 rfl 0 5 (Nat.le_of_ble_eq_true rfl) (by decide) ((fun _ => rfl) _) rfl rfl w_1696 dX10_save_22 ?_
  refine lv_iconst (v := 2) C0.1 C0.2.1 dX10_save_25 (by decide) ?_
  obtain ⟨h_7, hf⟩ := chk_some hf
  refine r_iald C0 C1 hI 1 (Nat.le_of_ble_eq_true rfl) (fun _ => rfl) h_7 dX10_save_26 ?_
  exact ee_im C0 hI hr hlocks hf dX10_save_27

def F_X10_restore (n : Nat) (M : Mem) : Option (Int32 × Mem) :=
  (if (M 0 4) = 0 then lt' (up2 M 0 0 1) (fun M_2 => (if (M_2 0 0) = 0 then ob (F_X10_lays n 1 3 M_2) (fun M_6 => lt' (up2 M_6 0 1 0) (fun M_7 => chk (inb 2 407) (some (M_7 1 (ix 2), M_7)))) else some (0, M_2))) else lt' (up2 M 0 0 0) (fun M_10 => (if (M_10 0 0) = 0 then ob (F_X10_lays n 1 3 M_10) (fun M_14 => lt' (up2 M_14 0 1 0) (fun M_15 => chk (inb 2 407) (some (M_15 1 (ix 2), M_15)))) else some (0, M_10))))
theorem hd_X10_restore : yX10_restore.cls ≠ "java/lang/invoke/MethodHandle" ∧ yX10_restore.cls ≠ "java/lang/invoke/VarHandle" ∧ (parseMethodDescriptor yX10_restore.desc).map (fun d => d.parameters.length) = some 0 := ⟨by decide +kernel, by decide +kernel, by decide +kernel⟩
set_option maxHeartbeats 4000000 in
set_option maxRecDepth 100000 in
theorem c_X10_restore (l : Launch) (g : GG) (X : va_W) (b : Nat → Nat) (sz n : Nat) (M : Mem) {r0 : Int32} {M' : Mem} (hf : F_X10_restore n M = some (r0, M')) : Met l yX10_restore (.code yX10_restore cX10_restore 1 (some .int) :: LWg) (rmD 1 0 0) (va_Pc [.ref (b 0)] (PreP g X 10 (shM g b) b sz M)) (Qi g X 10 (shM g b) b sz r0 M') 0 0 (AA X b 10 sz) := by
  refine met_go (by decide +kernel) rfl (Nat.le_of_ble_eq_true rfl) ?_
  intro p e s m below meth c ls H locs C0 C1 hr hlocks hnm hsz hl hI
  subst hsz
  have hl : lv_has ls 1 [(0, .ref (b 0))] := hl
  unfold F_X10_restore at hf
  refine lv_aload_n C0.1 C0.2.1 dX10_restore_0 rfl (lv_at hl 0 rfl) ?_
  refine lv_aload_n C0.1 C0.2.1 dX10_restore_1 rfl (lv_at hl 0 rfl) ?_
  refine r_get (C := RX10) (T := TX10) (N9 := 20) (ci := 11) C0 C1 hI iX10 rfl 0 4 (Nat.le_of_ble_eq_true rfl) (by decide) ((fun _ => rfl) _) rfl rfl w_1695 dX10_restore_2 ?_
  refine lv_if_eq (tgt := 12) C0.1 C0.2.1 dX10_restore_5 (by decide) (fun c_1 => ?_) (fun c_1 => ?_)
  · have hf := (if_pos c_1).symm.trans hf
    refine lv_iconst (v := 1) C0.1 C0.2.1 dX10_restore_12 (by decide) ?_
    refine r_put (C := RX10) (T := TX10) (N9 := 20) (ci := 11) (fs := fM b) (ty := .int) C0 C1 hI iX10 tyX10 tyX10_ok nmX10 rfl 0 0 (Nat.le_of_ble_eq_true rfl) (by decide) (fun _ => rfl) rfl rfl rfl (by decide +kernel) ⟨rfl, rfl⟩ (Nat.le_of_ble_eq_true rfl) w_1691 dX10_restore_13 (fun H locs hI => ?_)
    obtain ⟨M_2, e_3⟩ : ∃ z : Mem, z = up2 M 0 0 1 := ⟨_, rfl⟩
    rw [← e_3] at hI
    have hf := lt_at e_3 hf
    refine lv_aload_n C0.1 C0.2.1 dX10_restore_16 rfl (lv_at hl 0 rfl) ?_
    refine r_get (C := RX10) (T := TX10) (N9 := 20) (ci := 11) C0 C1 hI iX10 rfl 0 0 (Nat.le_of_ble_eq_true rfl) (by decide) ((fun _ => rfl) _) rfl rfl w_1691 dX10_restore_17 ?_
    refine lv_if_eq (tgt := 25) C0.1 C0.2.1 dX10_restore_20 (by decide) (fun c_4 => ?_) (fun c_4 => ?_)
    · have hf := (if_pos c_4).symm.trans hf
      refine lv_aload_n C0.1 C0.2.1 dX10_restore_25 rfl (lv_at hl 0 rfl) ?_
      refine r_get (C := RX10) (T := TX10) (N9 := 20) (ci := 11) C0 C1 hI iX10 rfl 0 5 (Nat.le_of_ble_eq_true rfl) (by decide) ((fun _ => rfl) _) rfl rfl w_1696 dX10_restore_26 ?_
      refine lv_aload_n C0.1 C0.2.1 dX10_restore_29 rfl (lv_at hl 0 rfl) ?_
      refine r_get (C := RX10) (T := TX10) (N9 := 20) (ci := 11) C0 C1 hI iX10 rfl 0 7 (Nat.le_of_ble_eq_true rfl) (by decide) ((fun _ => rfl) _) rfl rfl w_1698 dX10_restore_30 ?_
      obtain ⟨M_6, h_5, hf⟩ := ob_some hf
      refine k_v C1 hI (q_S C0 C1 hI (c_X10_lays l g X b H.size n M_2 1 (by decide) 3 (by decide) h_5) w_1764 w_1765 w_132 w_1766 ⟨rfl, rfl⟩ hd_X10_lays ⟨Nat.le_of_ble_eq_true rfl, Nat.le_of_ble_eq_true rfl⟩ rfl hl.1 rfl (Nat.le_of_ble_eq_true rfl) dX10_restore_33 ⟨Nat.le_of_ble_eq_true rfl, Nat.le_of_ble_eq_true rfl⟩) (fun H locs hI => ?_)
      refine lv_aload_n C0.1 C0.2.1 dX10_restore_36 rfl (lv_at hl 0 rfl) ?_
      refine lv_iconst (v := 0) C0.1 C0.2.1 dX10_restore_37 (by decide) ?_
      refine r_put (C := RX10) (T := TX10) (N9 := 20) (ci := 11) (fs := fM b) (ty := .int) C0 C1 hI iX10 tyX10 tyX10_ok nmX10 rfl 0 1 (Nat.le_of_ble_eq_true rfl) (by decide) (fun _ => rfl) rfl rfl rfl (by decide +kernel) ⟨rfl, rfl⟩ (Nat.le_of_ble_eq_true rfl) w_1692 dX10_restore_38 (fun H locs hI => ?_)
      obtain ⟨M_7, e_8⟩ : ∃ z : Mem, z = up2 M_6 0 1 0 := ⟨_, rfl⟩
      rw [← e_8] at hI
      have hf := lt_at e_8 hf
      refine lv_aload_n C0.1 C0.2.1 dX10_restore_41 rfl (lv_at hl 0 rfl) ?_
      refine r_get (C := RX10) (T := TX10) (N9 := 20) (ci := 11) C0 C1 hI iX10 rfl 0 5 (Nat.le_of_ble_eq_true rfl) (by decide) ((fun _ => rfl) _) rfl rfl w_1696 dX10_restore_42 ?_
      refine lv_iconst (v := 2) C0.1 C0.2.1 dX10_restore_45 (by decide) ?_
      obtain ⟨h_9, hf⟩ := chk_some hf
      refine r_iald C0 C1 hI 1 (Nat.le_of_ble_eq_true rfl) (fun _ => rfl) h_9 dX10_restore_46 ?_
      exact ee_im C0 hI hr hlocks hf dX10_restore_47
    · have hf := (if_neg c_4).symm.trans hf
      refine lv_iconst (v := 0) C0.1 C0.2.1 dX10_restore_23 (by decide) ?_
      exact ee_im C0 hI hr hlocks hf dX10_restore_24
  · have hf := (if_neg c_1).symm.trans hf
    refine lv_iconst (v := 0) C0.1 C0.2.1 dX10_restore_8 (by decide) ?_
    refine lv_goto (tgt := 13) C0.1 C0.2.1 dX10_restore_9 (by decide) ?_
    refine r_put (C := RX10) (T := TX10) (N9 := 20) (ci := 11) (fs := fM b) (ty := .int) C0 C1 hI iX10 tyX10 tyX10_ok nmX10 rfl 0 0 (Nat.le_of_ble_eq_true rfl) (by decide) (fun _ => rfl) rfl rfl rfl (by decide +kernel) ⟨rfl, rfl⟩ (Nat.le_of_ble_eq_true rfl) w_1691 dX10_restore_13 (fun H locs hI => ?_)
    obtain ⟨M_10, e_11⟩ : ∃ z : Mem, z = up2 M 0 0 0 := ⟨_, rfl⟩
    rw [← e_11] at hI
    have hf := lt_at e_11 hf
    refine lv_aload_n C0.1 C0.2.1 dX10_restore_16 rfl (lv_at hl 0 rfl) ?_
    refine r_get (C := RX10) (T := TX10) (N9 := 20) (ci := 11) C0 C1 hI iX10 rfl 0 0 (Nat.le_of_ble_eq_true rfl) (by decide) ((fun _ => rfl) _) rfl rfl w_1691 dX10_restore_17 ?_
    refine lv_if_eq (tgt := 25) C0.1 C0.2.1 dX10_restore_20 (by decide) (fun c_12 => ?_) (fun c_12 => ?_)
    · have hf := (if_pos c_12).symm.trans hf
      refine lv_aload_n C0.1 C0.2.1 dX10_restore_25 rfl (lv_at hl 0 rfl) ?_
      refine r_get (C := RX10) (T := TX10) (N9 := 20) (ci := 11) C0 C1 hI iX10 rfl 0 5 (Nat.le_of_ble_eq_true rfl) (by decide) ((fun _ => rfl) _) rfl rfl w_1696 dX10_restore_26 ?_
      refine lv_aload_n C0.1 C0.2.1 dX10_restore_29 rfl (lv_at hl 0 rfl) ?_
      refine r_get (C := RX10) (T := TX10) (N9 := 20) (ci := 11) C0 C1 hI iX10 rfl 0 7 (Nat.le_of_ble_eq_true rfl) (by decide) ((fun _ => rfl) _) rfl rfl w_1698 dX10_restore_30 ?_
      obtain ⟨M_14, h_13, hf⟩ := ob_some hf
      refine k_v C1 hI (q_S C0 C1 hI (c_X10_lays l g X b H.size n M_10 1 (by decide) 3 (by decide) h_13) w_1764 w_1765 w_132 w_1766 ⟨rfl, rfl⟩ hd_X10_lays ⟨Nat.le_of_ble_eq_true rfl, Nat.le_of_ble_eq_true rfl⟩ rfl hl.1 rfl (Nat.le_of_ble_eq_true rfl) dX10_restore_33 ⟨Nat.le_of_ble_eq_true rfl, Nat.le_of_ble_eq_true rfl⟩) (fun H locs hI => ?_)
      refine lv_aload_n C0.1 C0.2.1 dX10_restore_36 rfl (lv_at hl 0 rfl) ?_
      refine lv_iconst (v := 0) C0.1 C0.2.1 dX10_restore_37 (by decide) ?_
      refine r_put (C := RX10) (T := TX10) (N9 := 20) (ci := 11) (fs := fM b) (ty := .int) C0 C1 hI iX10 tyX10 tyX10_ok nmX10 rfl 0 1 (Nat.le_of_ble_eq_true rfl) (by decide) (fun _ => rfl) rfl rfl rfl (by decide +kernel) ⟨rfl, rfl⟩ (Nat.le_of_ble_eq_true rfl) w_1692 dX10_restore_38 (fun H locs hI => ?_)
      obtain ⟨M_15, e_16⟩ : ∃ z : Mem, z = up2 M_14 0 1 0 := ⟨_, rfl⟩
      rw [← e_16] at hI
      have hf := lt_at e_16 hf
      refine lv_aload_n C0.1 C0.2.1 dX10_restore_41 rfl (lv_at hl 0 rfl) ?_
      refine r_get (C := RX10) (T := TX10) (N9 := 20) (ci := 11) C0 C1 hI iX10 rfl 0 5 (Nat.le_of_ble_eq_true rfl) (by decide) ((fun _ => rfl) _) rfl rfl w_1696 dX10_restore_42 ?_
      refine lv_iconst (v := 2) C0.1 C0.2.1 dX10_restore_45 (by decide) ?_
      obtain ⟨h_17, hf⟩ := chk_some hf
      refine r_iald C0 C1 hI 1 (Nat.le_of_ble_eq_true rfl) (fun _ => rfl) h_17 dX10_restore_46 ?_
      exact ee_im C0 hI hr hlocks hf dX10_restore_47
    · have hf := (if_neg c_12).symm.trans hf
      refine lv_iconst (v := 0) C0.1 C0.2.1 dX10_restore_23 (by decide) ?_
      exact ee_im C0 hI hr hlocks hf dX10_restore_24
