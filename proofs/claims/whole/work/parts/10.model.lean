def F_X10_fail (n : Nat) (x1 : Int32) (M : Mem) : Option (Int32 × Mem) :=
  lt' (up2 M 0 0 x1) (fun M_1 => some (0, M_1))
theorem hd_X10_fail : yX10_fail.cls ≠ "java/lang/invoke/MethodHandle" ∧ yX10_fail.cls ≠ "java/lang/invoke/VarHandle" ∧ (parseMethodDescriptor yX10_fail.desc).map (fun d => d.parameters.length) = some 1 := ⟨by decide +kernel, by decide +kernel, by decide +kernel⟩
set_option maxHeartbeats 4000000 in
set_option maxRecDepth 100000 in
theorem c_X10_fail (l : Launch) (g : GG) (X : va_W) (b sz n : Nat) (M : Mem) (x1 : Int32) {r0 : Int32} {M' : Mem} (hf : F_X10_fail n x1 M = some (r0, M')) : Met l yX10_fail (.code yX10_fail cX10_fail 2 (some .int) :: LWg) (rmD 0 0 0) (va_Pc [.ref (b + 0), .int x1] (PreP g X 10 (shM g b) b sz M)) (Qi g X 10 (shM g b) b sz r0 M') 0 0 (AA X b 10 sz) := by
  refine met_go (by decide +kernel) rfl (Nat.le_of_ble_eq_true rfl) ?_
  intro p e s m below meth c ls H locs C0 C1 hr hlocks hnm hsz hl hI
  subst hsz
  have hl : lv_has ls 2 [(0, .ref (b + 0)), (1, .int x1)] := hl
  unfold F_X10_fail at hf
  refine lv_aload_n C0.1 C0.2.1 dX10_fail_0 rfl (lv_at hl 0 rfl) ?_
  refine lv_iload_n C0.1 C0.2.1 dX10_fail_1 rfl (lv_at hl 1 rfl) ?_
  refine r_put (C := RX10) (T := TX10) (N9 := 20) (ci := 11) (fs := fM b) (ty := .int) C0 C1 hI iX10 tyX10 tyX10_ok nmX10 rfl 0 0 (Nat.le_of_ble_eq_true rfl) (by decide) (fun _ => rfl) rfl rfl rfl (by decide +kernel) ⟨rfl, rfl⟩ (Nat.le_of_ble_eq_true rfl) w_1682 dX10_fail_2 (fun H locs hI => ?_)
  obtain ⟨M_1, e_2⟩ : ∃ z : Mem, z = up2 M 0 0 x1 := ⟨_, rfl⟩
  rw [← e_2] at hI
  have hf := lt_at e_2 hf
  refine lv_iconst (v := 0) C0.1 C0.2.1 dX10_fail_5 (by decide) ?_
  exact ee_im C0 hI hr hlocks hf dX10_fail_6

def F_X10_isIn (n : Nat) (x0 : Int32) (x1 : Int32) (x2 : Int32) (M : Mem) : Option Int32 :=
  (if x0 < x1 then some 0 else (if x2 < x0 then some 0 else some 1))
theorem hd_X10_isIn : yX10_isIn.cls ≠ "java/lang/invoke/MethodHandle" ∧ yX10_isIn.cls ≠ "java/lang/invoke/VarHandle" ∧ (parseMethodDescriptor yX10_isIn.desc).map (fun d => d.parameters.length) = some 3 := ⟨by decide +kernel, by decide +kernel, by decide +kernel⟩
set_option maxHeartbeats 4000000 in
set_option maxRecDepth 100000 in
theorem c_X10_isIn (l : Launch) (g : GG) (X : va_W) (b sz n : Nat) (M : Mem) (x0 : Int32) (x1 : Int32) (x2 : Int32) {r0 : Int32} (hf : F_X10_isIn n x0 x1 x2 M = some r0) : Met l yX10_isIn (.code yX10_isIn cX10_isIn 3 (some .boolean) :: LWg) (rmD 0 0 0) (va_Pc [.int x0, .int x1, .int x2] (PreP g X 10 (shM g b) b sz M)) (Qi g X 10 (shM g b) b sz r0 M) 0 0 (AA X b 10 sz) := by
  refine met_go (by decide +kernel) rfl (Nat.le_of_ble_eq_true rfl) ?_
  intro p e s m below meth c ls H locs C0 C1 hr hlocks hnm hsz hl hI
  subst hsz
  have hl : lv_has ls 3 [(0, .int x0), (1, .int x1), (2, .int x2)] := hl
  unfold F_X10_isIn at hf
  refine lv_iload_n C0.1 C0.2.1 dX10_isIn_0 rfl (lv_at hl 0 rfl) ?_
  refine lv_iload_n C0.1 C0.2.1 dX10_isIn_1 rfl (lv_at hl 1 rfl) ?_
  refine lv_icmp_lt (tgt := 14) C0.1 C0.2.1 dX10_isIn_2 (by decide) (fun c_1 => ?_) (fun c_1 => ?_)
  · have hf := (if_pos c_1).symm.trans hf
    refine lv_iconst (v := 0) C0.1 C0.2.1 dX10_isIn_14 (by decide) ?_
    exact ee_z C0 hI hr hlocks rfl hf dX10_isIn_15
  · have hf := (if_neg c_1).symm.trans hf
    refine lv_iload_n C0.1 C0.2.1 dX10_isIn_5 rfl (lv_at hl 0 rfl) ?_
    refine lv_iload_n C0.1 C0.2.1 dX10_isIn_6 rfl (lv_at hl 2 rfl) ?_
    refine lv_icmp_gt (tgt := 14) C0.1 C0.2.1 dX10_isIn_7 (by decide) (fun c_2 => ?_) (fun c_2 => ?_)
    · have hf := (if_pos c_2).symm.trans hf
      refine lv_iconst (v := 0) C0.1 C0.2.1 dX10_isIn_14 (by decide) ?_
      exact ee_z C0 hI hr hlocks rfl hf dX10_isIn_15
    · have hf := (if_neg c_2).symm.trans hf
      refine lv_iconst (v := 1) C0.1 C0.2.1 dX10_isIn_10 (by decide) ?_
      refine lv_goto (tgt := 15) C0.1 C0.2.1 dX10_isIn_11 (by decide) ?_
      exact ee_z C0 hI hr hlocks rfl hf dX10_isIn_15

def F_X10_lays_L2 (n : Nat) (o0 : Nat) (o1 : Nat) : Nat → Int32 → Mem → Option Mem
  | 0, _, _ => none
  | k2 + 1, x2_2, M =>
    (if 407 ≤ x2_2 then some M else chk (inb x2_2 407) (chk (inb x2_2 407) (lt' (up2 M o0 (ix x2_2) (M o1 (ix x2_2))) (fun M_2_6 => lt' (x2_2 + 1) (fun x2_2_8 => F_X10_lays_L2 n o0 o1 k2 x2_2_8 M_2_6)))))
def F_X10_lays (n : Nat) (o0 : Nat) (o1 : Nat) (M : Mem) : Option Mem :=
  F_X10_lays_L2 n o0 o1 n 0 M
theorem hd_X10_lays : yX10_lays.cls ≠ "java/lang/invoke/MethodHandle" ∧ yX10_lays.cls ≠ "java/lang/invoke/VarHandle" ∧ (parseMethodDescriptor yX10_lays.desc).map (fun d => d.parameters.length) = some 2 := ⟨by decide +kernel, by decide +kernel, by decide +kernel⟩
set_option maxHeartbeats 4000000 in
set_option maxRecDepth 100000 in
theorem c_X10_lays (l : Launch) (g : GG) (X : va_W) (b sz n : Nat) (M : Mem) (o0 : Nat) (ho0 : 0 < o0 ∧ o0 ≤ 3) (o1 : Nat) (ho1 : 0 < o1 ∧ o1 ≤ 3)  {M' : Mem} (hf : F_X10_lays n o0 o1 M = some M') : Met l yX10_lays (.code yX10_lays cX10_lays 3 none :: LWg) (rmD 0 0 0) (va_Pc [.ref (b + o0), .ref (b + o1)] (PreP g X 10 (shM g b) b sz M)) (Qv g X 10 (shM g b) b sz M') 0 0 (AA X b 10 sz) := by
  refine met_go (by decide +kernel) rfl (Nat.le_of_ble_eq_true rfl) ?_
  intro p e s m below meth c ls H locs C0 C1 hr hlocks hnm hsz hl hI
  subst hsz
  have hl : lv_has ls 3 [(0, .ref (b + o0)), (1, .ref (b + o1))] := hl
  unfold F_X10_lays at hf
  refine lv_iconst (v := 0) C0.1 C0.2.1 dX10_lays_0 (by decide) ?_
  refine lv_istore_n (lv' := [(2, .int 0), (0, .ref (b + o0)), (1, .ref (b + o1))]) C0.1 C0.2.1 dX10_lays_1 rfl hl (by decide) rfl (fun ls hl => ?_)
  have L2 : ∀ (k2 : Nat) (x2_2 : Int32) (M : Mem), F_X10_lays_L2 n o0 o1 k2 x2_2 M = some M' → ∀ (H : Heap) (locs : List Loc) (ls : Array Slot), PI g X 10 (shM g b) b s M H locs → lv_has ls 3 [(0, .ref (b + o0)), (1, .ref (b + o1)), (2, .int x2_2)] → W p l e (rmD 0 0 0) s m ([.ref (b + o0), .ref (b + o1)] : List Value).toArray below meth c H locs 0 0 (MQ below (Qv g X 10 (shM g b) b s.heap.size M') ([.ref (b + o0), .ref (b + o1)] : List Value).toArray s 0 0 (AA X b 10 s.heap.size)) (F0 m 2 ls []) := by
    intro k2
    induction k2 with
    | zero => intro x2_2 M hf; exact absurd (show none = some M' from hf) (fun h => by cases h)
    | succ k2 ih2 =>
      intro x2_2 M hf H locs ls hI hl
      unfold F_X10_lays_L2 at hf
      refine lv_iload_n C0.1 C0.2.1 dX10_lays_2 rfl (lv_at hl 2 rfl) ?_
      refine lv_sipush (v := 407) C0.1 C0.2.1 dX10_lays_3 (by decide) ?_
      refine lv_icmp_ge (tgt := 21) C0.1 C0.2.1 dX10_lays_6 (by decide) (fun c_2_1 => ?_) (fun c_2_1 => ?_)
      · have hf := (if_pos c_2_1).symm.trans hf
        exact ee_vm C0 hI hr hlocks hf dX10_lays_21
      · have hf := (if_neg c_2_1).symm.trans hf
        refine lv_aload_n C0.1 C0.2.1 dX10_lays_9 rfl (lv_at hl 0 rfl) ?_
        refine lv_iload_n C0.1 C0.2.1 dX10_lays_10 rfl (lv_at hl 2 rfl) ?_
        refine lv_aload_n C0.1 C0.2.1 dX10_lays_11 rfl (lv_at hl 1 rfl) ?_
        refine lv_iload_n C0.1 C0.2.1 dX10_lays_12 rfl (lv_at hl 2 rfl) ?_
        obtain ⟨h_2_2, hf⟩ := chk_some hf
        refine r_iald C0 C1 hI o1 (shM_k ho1) (shM_s ho1) h_2_2 dX10_lays_13 ?_
        obtain ⟨h_2_3, hf⟩ := chk_some hf
        refine r_iast C0 C1 hI o0 (shM_k ho0) (shM_s ho0) h_2_3 dX10_lays_14 (fun H locs hI => ?_)
        obtain ⟨M_2_6, e_2_7⟩ : ∃ z : Mem, z = up2 M o0 (ix x2_2) (M o1 (ix x2_2)) := ⟨_, rfl⟩
        rw [← e_2_7] at hI
        have hf := lt_at e_2_7 hf
        obtain ⟨x2_2_8, e_2_9⟩ : ∃ z : Int32, z = x2_2 + 1 := ⟨_, rfl⟩
        have hf := lt_at e_2_9 hf
        refine lv_iinc (v := x2_2_8) (lv' := [(2, .int x2_2_8), (0, .ref (b + o0)), (1, .ref (b + o1))]) C0.1 C0.2.1 dX10_lays_15 hl (k := 2) rfl (by rw [e_2_9]; rfl) (by decide) rfl (fun ls hl => ?_)
        refine lv_goto (tgt := 2) C0.1 C0.2.1 dX10_lays_18 (by decide) ?_
        exact ih2 x2_2_8 M_2_6 hf H locs ls hI (lv_sub hl [1, 2, 0] rfl)
  exact L2 n 0 M hf H locs ls hI (lv_sub hl [1, 2, 0] rfl)

def F_X10_begins (n : Nat) (M : Mem) : Option Mem :=
  lt' (up2 M 0 0 0) (fun M_1 => ob (F_X10_lays n 2 1 M_1) (fun M_4 => some M_4))
theorem hd_X10_begins : yX10_begins.cls ≠ "java/lang/invoke/MethodHandle" ∧ yX10_begins.cls ≠ "java/lang/invoke/VarHandle" ∧ (parseMethodDescriptor yX10_begins.desc).map (fun d => d.parameters.length) = some 0 := ⟨by decide +kernel, by decide +kernel, by decide +kernel⟩
set_option maxHeartbeats 4000000 in
set_option maxRecDepth 100000 in
theorem c_X10_begins (l : Launch) (g : GG) (X : va_W) (b sz n : Nat) (M : Mem)  {M' : Mem} (hf : F_X10_begins n M = some M') : Met l yX10_begins (.code yX10_begins cX10_begins 1 none :: LWg) (rmD 1 0 0) (va_Pc [.ref (b + 0)] (PreP g X 10 (shM g b) b sz M)) (Qv g X 10 (shM g b) b sz M') 0 0 (AA X b 10 sz) := by
  refine met_go (by decide +kernel) rfl (Nat.le_of_ble_eq_true rfl) ?_
  intro p e s m below meth c ls H locs C0 C1 hr hlocks hnm hsz hl hI
  subst hsz
  have hl : lv_has ls 1 [(0, .ref (b + 0))] := hl
  unfold F_X10_begins at hf
  refine lv_aload_n C0.1 C0.2.1 dX10_begins_0 rfl (lv_at hl 0 rfl) ?_
  refine lv_iconst (v := 0) C0.1 C0.2.1 dX10_begins_1 (by decide) ?_
  refine r_put (C := RX10) (T := TX10) (N9 := 20) (ci := 11) (fs := fM b) (ty := .int) C0 C1 hI iX10 tyX10 tyX10_ok nmX10 rfl 0 0 (Nat.le_of_ble_eq_true rfl) (by decide) (fun _ => rfl) rfl rfl rfl (by decide +kernel) ⟨rfl, rfl⟩ (Nat.le_of_ble_eq_true rfl) w_1682 dX10_begins_2 (fun H locs hI => ?_)
  obtain ⟨M_1, e_2⟩ : ∃ z : Mem, z = up2 M 0 0 0 := ⟨_, rfl⟩
  rw [← e_2] at hI
  have hf := lt_at e_2 hf
  refine lv_aload_n C0.1 C0.2.1 dX10_begins_5 rfl (lv_at hl 0 rfl) ?_
  refine r_get (C := RX10) (T := TX10) (N9 := 20) (ci := 11) C0 C1 hI iX10 rfl 0 6 (Nat.le_of_ble_eq_true rfl) (by decide) ((fun _ => rfl) _) rfl rfl w_1688 dX10_begins_6 ?_
  refine lv_aload_n C0.1 C0.2.1 dX10_begins_9 rfl (lv_at hl 0 rfl) ?_
  refine r_get (C := RX10) (T := TX10) (N9 := 20) (ci := 11) C0 C1 hI iX10 rfl 0 5 (Nat.le_of_ble_eq_true rfl) (by decide) ((fun _ => rfl) _) rfl rfl w_1687 dX10_begins_10 ?_
  obtain ⟨M_4, h_3, hf⟩ := ob_some hf
  refine k_v C1 hI (q_S C0 C1 hI (c_X10_lays l g X b H.size n M_1 2 (by decide) 1 (by decide) h_3) w_1755 w_1756 w_130 w_1757 ⟨rfl, rfl⟩ hd_X10_lays ⟨Nat.le_of_ble_eq_true rfl, Nat.le_of_ble_eq_true rfl⟩ rfl hl.1 rfl (Nat.le_of_ble_eq_true rfl) dX10_begins_13 ⟨Nat.le_of_ble_eq_true rfl, Nat.le_of_ble_eq_true rfl⟩) (fun H locs hI => ?_)
  exact ee_vm C0 hI hr hlocks hf dX10_begins_16

def F_X10_isFrog (n : Nat) (x1 : Int32) (M : Mem) : Option Int32 :=
  chk (inb 0 407) (ob (F_X10_isIn n x1 0 ((M 1 (ix 0)) - 1) M) (fun r_3 => chk (isB r_3) (some r_3)))
theorem hd_X10_isFrog : yX10_isFrog.cls ≠ "java/lang/invoke/MethodHandle" ∧ yX10_isFrog.cls ≠ "java/lang/invoke/VarHandle" ∧ (parseMethodDescriptor yX10_isFrog.desc).map (fun d => d.parameters.length) = some 1 := ⟨by decide +kernel, by decide +kernel, by decide +kernel⟩
set_option maxHeartbeats 4000000 in
set_option maxRecDepth 100000 in
theorem c_X10_isFrog (l : Launch) (g : GG) (X : va_W) (b sz n : Nat) (M : Mem) (x1 : Int32) {r0 : Int32} (hf : F_X10_isFrog n x1 M = some r0) : Met l yX10_isFrog (.code yX10_isFrog cX10_isFrog 2 (some .boolean) :: LWg) (rmD 1 0 0) (va_Pc [.ref (b + 0), .int x1] (PreP g X 10 (shM g b) b sz M)) (Qi g X 10 (shM g b) b sz r0 M) 0 0 (AA X b 10 sz) := by
  refine met_go (by decide +kernel) rfl (Nat.le_of_ble_eq_true rfl) ?_
  intro p e s m below meth c ls H locs C0 C1 hr hlocks hnm hsz hl hI
  subst hsz
  have hl : lv_has ls 2 [(0, .ref (b + 0)), (1, .int x1)] := hl
  unfold F_X10_isFrog at hf
  refine lv_iload_n C0.1 C0.2.1 dX10_isFrog_0 rfl (lv_at hl 1 rfl) ?_
  refine lv_iconst (v := 0) C0.1 C0.2.1 dX10_isFrog_1 (by decide) ?_
  refine lv_aload_n C0.1 C0.2.1 dX10_isFrog_2 rfl (lv_at hl 0 rfl) ?_
  refine r_get (C := RX10) (T := TX10) (N9 := 20) (ci := 11) C0 C1 hI iX10 rfl 0 5 (Nat.le_of_ble_eq_true rfl) (by decide) ((fun _ => rfl) _) rfl rfl w_1687 dX10_isFrog_3 ?_
  refine lv_iconst (v := 0) C0.1 C0.2.1 dX10_isFrog_6 (by decide) ?_
  obtain ⟨h_1, hf⟩ := chk_some hf
  refine r_iald C0 C1 hI 1 (Nat.le_of_ble_eq_true rfl) (fun _ => rfl) h_1 dX10_isFrog_7 ?_
  refine lv_iconst (v := 1) C0.1 C0.2.1 dX10_isFrog_8 (by decide) ?_
  refine lv_isub C0.1 C0.2.1 dX10_isFrog_9 ?_
  obtain ⟨r_3, h_2, hf⟩ := ob_some hf
  refine k_i C1 hI (q_S C0 C1 hI (c_X10_isIn l g X b H.size n M x1 0 ((M 1 (ix 0)) - 1) h_2) w_1762 w_1763 w_130 w_1764 ⟨rfl, rfl⟩ hd_X10_isIn ⟨Nat.le_of_ble_eq_true rfl, Nat.le_of_ble_eq_true rfl⟩ rfl hl.1 rfl (Nat.le_of_ble_eq_true rfl) dX10_isFrog_10 ⟨Nat.le_of_ble_eq_true rfl, Nat.le_of_ble_eq_true rfl⟩) (fun H locs hI => ?_)
  obtain ⟨h_4, hf⟩ := chk_some hf
  exact ee_z C0 hI hr hlocks (isB_n h_4).1 hf dX10_isFrog_13

def F_X10_isPad (n : Nat) (x1 : Int32) (M : Mem) : Option Int32 :=
  chk (inb 1 407) (ob (F_X10_isIn n x1 0 ((M 1 (ix 1)) - 1) M) (fun r_3 => chk (isB r_3) (some r_3)))
theorem hd_X10_isPad : yX10_isPad.cls ≠ "java/lang/invoke/MethodHandle" ∧ yX10_isPad.cls ≠ "java/lang/invoke/VarHandle" ∧ (parseMethodDescriptor yX10_isPad.desc).map (fun d => d.parameters.length) = some 1 := ⟨by decide +kernel, by decide +kernel, by decide +kernel⟩
set_option maxHeartbeats 4000000 in
set_option maxRecDepth 100000 in
theorem c_X10_isPad (l : Launch) (g : GG) (X : va_W) (b sz n : Nat) (M : Mem) (x1 : Int32) {r0 : Int32} (hf : F_X10_isPad n x1 M = some r0) : Met l yX10_isPad (.code yX10_isPad cX10_isPad 2 (some .boolean) :: LWg) (rmD 1 0 0) (va_Pc [.ref (b + 0), .int x1] (PreP g X 10 (shM g b) b sz M)) (Qi g X 10 (shM g b) b sz r0 M) 0 0 (AA X b 10 sz) := by
  refine met_go (by decide +kernel) rfl (Nat.le_of_ble_eq_true rfl) ?_
  intro p e s m below meth c ls H locs C0 C1 hr hlocks hnm hsz hl hI
  subst hsz
  have hl : lv_has ls 2 [(0, .ref (b + 0)), (1, .int x1)] := hl
  unfold F_X10_isPad at hf
  refine lv_iload_n C0.1 C0.2.1 dX10_isPad_0 rfl (lv_at hl 1 rfl) ?_
  refine lv_iconst (v := 0) C0.1 C0.2.1 dX10_isPad_1 (by decide) ?_
  refine lv_aload_n C0.1 C0.2.1 dX10_isPad_2 rfl (lv_at hl 0 rfl) ?_
  refine r_get (C := RX10) (T := TX10) (N9 := 20) (ci := 11) C0 C1 hI iX10 rfl 0 5 (Nat.le_of_ble_eq_true rfl) (by decide) ((fun _ => rfl) _) rfl rfl w_1687 dX10_isPad_3 ?_
  refine lv_iconst (v := 1) C0.1 C0.2.1 dX10_isPad_6 (by decide) ?_
  obtain ⟨h_1, hf⟩ := chk_some hf
  refine r_iald C0 C1 hI 1 (Nat.le_of_ble_eq_true rfl) (fun _ => rfl) h_1 dX10_isPad_7 ?_
  refine lv_iconst (v := 1) C0.1 C0.2.1 dX10_isPad_8 (by decide) ?_
  refine lv_isub C0.1 C0.2.1 dX10_isPad_9 ?_
  obtain ⟨r_3, h_2, hf⟩ := ob_some hf
  refine k_i C1 hI (q_S C0 C1 hI (c_X10_isIn l g X b H.size n M x1 0 ((M 1 (ix 1)) - 1) h_2) w_1762 w_1763 w_130 w_1764 ⟨rfl, rfl⟩ hd_X10_isIn ⟨Nat.le_of_ble_eq_true rfl, Nat.le_of_ble_eq_true rfl⟩ rfl hl.1 rfl (Nat.le_of_ble_eq_true rfl) dX10_isPad_10 ⟨Nat.le_of_ble_eq_true rfl, Nat.le_of_ble_eq_true rfl⟩) (fun H locs hI => ?_)
  obtain ⟨h_4, hf⟩ := chk_some hf
  exact ee_z C0 hI hr hlocks (isB_n h_4).1 hf dX10_isPad_13

def F_X10_isMotion (n : Nat) (x1 : Int32) (M : Mem) : Option Int32 :=
  chk (inb 2 407) (ob (F_X10_isIn n x1 0 ((M 1 (ix 2)) - 1) M) (fun r_3 => chk (isB r_3) (some r_3)))
theorem hd_X10_isMotion : yX10_isMotion.cls ≠ "java/lang/invoke/MethodHandle" ∧ yX10_isMotion.cls ≠ "java/lang/invoke/VarHandle" ∧ (parseMethodDescriptor yX10_isMotion.desc).map (fun d => d.parameters.length) = some 1 := ⟨by decide +kernel, by decide +kernel, by decide +kernel⟩
set_option maxHeartbeats 4000000 in
set_option maxRecDepth 100000 in
theorem c_X10_isMotion (l : Launch) (g : GG) (X : va_W) (b sz n : Nat) (M : Mem) (x1 : Int32) {r0 : Int32} (hf : F_X10_isMotion n x1 M = some r0) : Met l yX10_isMotion (.code yX10_isMotion cX10_isMotion 2 (some .boolean) :: LWg) (rmD 1 0 0) (va_Pc [.ref (b + 0), .int x1] (PreP g X 10 (shM g b) b sz M)) (Qi g X 10 (shM g b) b sz r0 M) 0 0 (AA X b 10 sz) := by
  refine met_go (by decide +kernel) rfl (Nat.le_of_ble_eq_true rfl) ?_
  intro p e s m below meth c ls H locs C0 C1 hr hlocks hnm hsz hl hI
  subst hsz
  have hl : lv_has ls 2 [(0, .ref (b + 0)), (1, .int x1)] := hl
  unfold F_X10_isMotion at hf
  refine lv_iload_n C0.1 C0.2.1 dX10_isMotion_0 rfl (lv_at hl 1 rfl) ?_
  refine lv_iconst (v := 0) C0.1 C0.2.1 dX10_isMotion_1 (by decide) ?_
  refine lv_aload_n C0.1 C0.2.1 dX10_isMotion_2 rfl (lv_at hl 0 rfl) ?_
  refine r_get (C := RX10) (T := TX10) (N9 := 20) (ci := 11) C0 C1 hI iX10 rfl 0 5 (Nat.le_of_ble_eq_true rfl) (by decide) ((fun _ => rfl) _) rfl rfl w_1687 dX10_isMotion_3 ?_
  refine lv_iconst (v := 2) C0.1 C0.2.1 dX10_isMotion_6 (by decide) ?_
  obtain ⟨h_1, hf⟩ := chk_some hf
  refine r_iald C0 C1 hI 1 (Nat.le_of_ble_eq_true rfl) (fun _ => rfl) h_1 dX10_isMotion_7 ?_
  refine lv_iconst (v := 1) C0.1 C0.2.1 dX10_isMotion_8 (by decide) ?_
  refine lv_isub C0.1 C0.2.1 dX10_isMotion_9 ?_
  obtain ⟨r_3, h_2, hf⟩ := ob_some hf
  refine k_i C1 hI (q_S C0 C1 hI (c_X10_isIn l g X b H.size n M x1 0 ((M 1 (ix 2)) - 1) h_2) w_1762 w_1763 w_130 w_1764 ⟨rfl, rfl⟩ hd_X10_isIn ⟨Nat.le_of_ble_eq_true rfl, Nat.le_of_ble_eq_true rfl⟩ rfl hl.1 rfl (Nat.le_of_ble_eq_true rfl) dX10_isMotion_10 ⟨Nat.le_of_ble_eq_true rfl, Nat.le_of_ble_eq_true rfl⟩) (fun H locs hI => ?_)
  obtain ⟨h_4, hf⟩ := chk_some hf
  exact ee_z C0 hI hr hlocks (isB_n h_4).1 hf dX10_isMotion_13

def F_X10_areThere (n : Nat) (x1 : Int32) (x2 : Int32) (M : Mem) : Option Int32 :=
  ob (F_X10_isMotion n x1 M) (fun r_2 => (if r_2 = 0 then some 0 else ob (F_X10_isFrog n x2 M) (fun r_5 => (if r_5 = 0 then some 0 else some 1))))
theorem hd_X10_areThere : yX10_areThere.cls ≠ "java/lang/invoke/MethodHandle" ∧ yX10_areThere.cls ≠ "java/lang/invoke/VarHandle" ∧ (parseMethodDescriptor yX10_areThere.desc).map (fun d => d.parameters.length) = some 2 := ⟨by decide +kernel, by decide +kernel, by decide +kernel⟩
set_option maxHeartbeats 4000000 in
set_option maxRecDepth 100000 in
theorem c_X10_areThere (l : Launch) (g : GG) (X : va_W) (b sz n : Nat) (M : Mem) (x1 : Int32) (x2 : Int32) {r0 : Int32} (hf : F_X10_areThere n x1 x2 M = some r0) : Met l yX10_areThere (.code yX10_areThere cX10_areThere 3 (some .boolean) :: LWg) (rmD 2 0 0) (va_Pc [.ref (b + 0), .int x1, .int x2] (PreP g X 10 (shM g b) b sz M)) (Qi g X 10 (shM g b) b sz r0 M) 0 0 (AA X b 10 sz) := by
  refine met_go (by decide +kernel) rfl (Nat.le_of_ble_eq_true rfl) ?_
  intro p e s m below meth c ls H locs C0 C1 hr hlocks hnm hsz hl hI
  subst hsz
  have hl : lv_has ls 3 [(0, .ref (b + 0)), (1, .int x1), (2, .int x2)] := hl
  unfold F_X10_areThere at hf
  refine lv_aload_n C0.1 C0.2.1 dX10_areThere_0 rfl (lv_at hl 0 rfl) ?_
  refine lv_iload_n C0.1 C0.2.1 dX10_areThere_1 rfl (lv_at hl 1 rfl) ?_
  obtain ⟨r_2, h_1, hf⟩ := ob_some hf
  refine k_i C1 hI (q_V C0 C1 hI 0 (c_X10_isMotion l g X b H.size n M x1 h_1) w_1884 w_1886 w_84 w_130 w_1887 ⟨rfl, rfl⟩ hd_X10_isMotion ⟨Nat.le_of_ble_eq_true rfl, Nat.le_of_ble_eq_true rfl⟩ (Nat.le_of_ble_eq_true rfl) ((fun _ => rfl) _) rfl rfl rfl hl.1 rfl (Nat.le_of_ble_eq_true rfl) dX10_areThere_2 ⟨Nat.le_of_ble_eq_true rfl, Nat.le_of_ble_eq_true rfl⟩) (fun H locs hI => ?_)
  refine lv_if_eq (tgt := 20) C0.1 C0.2.1 dX10_areThere_5 (by decide) (fun c_3 => ?_) (fun c_3 => ?_)
  · have hf := (if_pos c_3).symm.trans hf
    refine lv_iconst (v := 0) C0.1 C0.2.1 dX10_areThere_20 (by decide) ?_
    exact ee_z C0 hI hr hlocks rfl hf dX10_areThere_21
  · have hf := (if_neg c_3).symm.trans hf
    refine lv_aload_n C0.1 C0.2.1 dX10_areThere_8 rfl (lv_at hl 0 rfl) ?_
    refine lv_iload_n C0.1 C0.2.1 dX10_areThere_9 rfl (lv_at hl 2 rfl) ?_
    obtain ⟨r_5, h_4, hf⟩ := ob_some hf
    refine k_i C1 hI (q_V C0 C1 hI 0 (c_X10_isFrog l g X b H.size n M x2 h_4) w_1789 w_1791 w_74 w_130 w_1792 ⟨rfl, rfl⟩ hd_X10_isFrog ⟨Nat.le_of_ble_eq_true rfl, Nat.le_of_ble_eq_true rfl⟩ (Nat.le_of_ble_eq_true rfl) ((fun _ => rfl) _) rfl rfl rfl hl.1 rfl (Nat.le_of_ble_eq_true rfl) dX10_areThere_10 ⟨Nat.le_of_ble_eq_true rfl, Nat.le_of_ble_eq_true rfl⟩) (fun H locs hI => ?_)
    refine lv_if_eq (tgt := 20) C0.1 C0.2.1 dX10_areThere_13 (by decide) (fun c_6 => ?_) (fun c_6 => ?_)
    · have hf := (if_pos c_6).symm.trans hf
      refine lv_iconst (v := 0) C0.1 C0.2.1 dX10_areThere_20 (by decide) ?_
      exact ee_z C0 hI hr hlocks rfl hf dX10_areThere_21
    · have hf := (if_neg c_6).symm.trans hf
      refine lv_iconst (v := 1) C0.1 C0.2.1 dX10_areThere_16 (by decide) ?_
      refine lv_goto (tgt := 21) C0.1 C0.2.1 dX10_areThere_17 (by decide) ?_
      exact ee_z C0 hI hr hlocks rfl hf dX10_areThere_21

def F_X10_of (n : Nat) (x0 : Int32) (x1 : Int32) (M : Mem) : Option Int32 :=
  some ((59 + (10 * x0)) + x1)
theorem hd_X10_of : yX10_of.cls ≠ "java/lang/invoke/MethodHandle" ∧ yX10_of.cls ≠ "java/lang/invoke/VarHandle" ∧ (parseMethodDescriptor yX10_of.desc).map (fun d => d.parameters.length) = some 2 := ⟨by decide +kernel, by decide +kernel, by decide +kernel⟩
set_option maxHeartbeats 4000000 in
set_option maxRecDepth 100000 in
theorem c_X10_of (l : Launch) (g : GG) (X : va_W) (b sz n : Nat) (M : Mem) (x0 : Int32) (x1 : Int32) {r0 : Int32} (hf : F_X10_of n x0 x1 M = some r0) : Met l yX10_of (.code yX10_of cX10_of 2 (some .int) :: LWg) (rmD 0 0 0) (va_Pc [.int x0, .int x1] (PreP g X 10 (shM g b) b sz M)) (Qi g X 10 (shM g b) b sz r0 M) 0 0 (AA X b 10 sz) := by
  refine met_go (by decide +kernel) rfl (Nat.le_of_ble_eq_true rfl) ?_
  intro p e s m below meth c ls H locs C0 C1 hr hlocks hnm hsz hl hI
  subst hsz
  have hl : lv_has ls 2 [(0, .int x0), (1, .int x1)] := hl
  unfold F_X10_of at hf
  refine lv_bipush (v := 59) C0.1 C0.2.1 dX10_of_0 (by decide) ?_
  refine lv_bipush (v := 10) C0.1 C0.2.1 dX10_of_2 (by decide) ?_
  refine lv_iload_n C0.1 C0.2.1 dX10_of_4 rfl (lv_at hl 0 rfl) ?_
  refine lv_imul C0.1 C0.2.1 dX10_of_5 ?_
  refine lv_iadd C0.1 C0.2.1 dX10_of_6 ?_
  refine lv_iload_n C0.1 C0.2.1 dX10_of_7 rfl (lv_at hl 1 rfl) ?_
  refine lv_iadd C0.1 C0.2.1 dX10_of_8 ?_
  exact ee_i C0 hI hr hlocks hf dX10_of_9

def F_X10_listed (n : Nat) (x0 : Int32) (x1 : Int32) (M : Mem) : Option Int32 :=
  some ((119 + (12 * x0)) + x1)
theorem hd_X10_listed : yX10_listed.cls ≠ "java/lang/invoke/MethodHandle" ∧ yX10_listed.cls ≠ "java/lang/invoke/VarHandle" ∧ (parseMethodDescriptor yX10_listed.desc).map (fun d => d.parameters.length) = some 2 := ⟨by decide +kernel, by decide +kernel, by decide +kernel⟩
set_option maxHeartbeats 4000000 in
set_option maxRecDepth 100000 in
theorem c_X10_listed (l : Launch) (g : GG) (X : va_W) (b sz n : Nat) (M : Mem) (x0 : Int32) (x1 : Int32) {r0 : Int32} (hf : F_X10_listed n x0 x1 M = some r0) : Met l yX10_listed (.code yX10_listed cX10_listed 2 (some .int) :: LWg) (rmD 0 0 0) (va_Pc [.int x0, .int x1] (PreP g X 10 (shM g b) b sz M)) (Qi g X 10 (shM g b) b sz r0 M) 0 0 (AA X b 10 sz) := by
  refine met_go (by decide +kernel) rfl (Nat.le_of_ble_eq_true rfl) ?_
  intro p e s m below meth c ls H locs C0 C1 hr hlocks hnm hsz hl hI
  subst hsz
  have hl : lv_has ls 2 [(0, .int x0), (1, .int x1)] := hl
  unfold F_X10_listed at hf
  refine lv_bipush (v := 119) C0.1 C0.2.1 dX10_listed_0 (by decide) ?_
  refine lv_bipush (v := 12) C0.1 C0.2.1 dX10_listed_2 (by decide) ?_
  refine lv_iload_n C0.1 C0.2.1 dX10_listed_4 rfl (lv_at hl 0 rfl) ?_
  refine lv_imul C0.1 C0.2.1 dX10_listed_5 ?_
  refine lv_iadd C0.1 C0.2.1 dX10_listed_6 ?_
  refine lv_iload_n C0.1 C0.2.1 dX10_listed_7 rfl (lv_at hl 1 rfl) ?_
  refine lv_iadd C0.1 C0.2.1 dX10_listed_8 ?_
  exact ee_i C0 hI hr hlocks hf dX10_listed_9

def F_X10_isOn (n : Nat) (x1 : Int32) (M : Mem) : Option Int32 :=
  chk (inb (29 + x1) 407) ((if (M 1 (ix (29 + x1))) ≤ 0 then some 0 else some 1))
theorem hd_X10_isOn : yX10_isOn.cls ≠ "java/lang/invoke/MethodHandle" ∧ yX10_isOn.cls ≠ "java/lang/invoke/VarHandle" ∧ (parseMethodDescriptor yX10_isOn.desc).map (fun d => d.parameters.length) = some 1 := ⟨by decide +kernel, by decide +kernel, by decide +kernel⟩
set_option maxHeartbeats 4000000 in
set_option maxRecDepth 100000 in
theorem c_X10_isOn (l : Launch) (g : GG) (X : va_W) (b sz n : Nat) (M : Mem) (x1 : Int32) {r0 : Int32} (hf : F_X10_isOn n x1 M = some r0) : Met l yX10_isOn (.code yX10_isOn cX10_isOn 2 (some .boolean) :: LWg) (rmD 0 0 0) (va_Pc [.ref (b + 0), .int x1] (PreP g X 10 (shM g b) b sz M)) (Qi g X 10 (shM g b) b sz r0 M) 0 0 (AA X b 10 sz) := by
  refine met_go (by decide +kernel) rfl (Nat.le_of_ble_eq_true rfl) ?_
  intro p e s m below meth c ls H locs C0 C1 hr hlocks hnm hsz hl hI
  subst hsz
  have hl : lv_has ls 2 [(0, .ref (b + 0)), (1, .int x1)] := hl
  unfold F_X10_isOn at hf
  refine lv_aload_n C0.1 C0.2.1 dX10_isOn_0 rfl (lv_at hl 0 rfl) ?_
  refine r_get (C := RX10) (T := TX10) (N9 := 20) (ci := 11) C0 C1 hI iX10 rfl 0 5 (Nat.le_of_ble_eq_true rfl) (by decide) ((fun _ => rfl) _) rfl rfl w_1687 dX10_isOn_1 ?_
  refine lv_bipush (v := 29) C0.1 C0.2.1 dX10_isOn_4 (by decide) ?_
  refine lv_iload_n C0.1 C0.2.1 dX10_isOn_6 rfl (lv_at hl 1 rfl) ?_
  refine lv_iadd C0.1 C0.2.1 dX10_isOn_7 ?_
  obtain ⟨h_1, hf⟩ := chk_some hf
  refine r_iald C0 C1 hI 1 (Nat.le_of_ble_eq_true rfl) (fun _ => rfl) h_1 dX10_isOn_8 ?_
  refine lv_if_le (tgt := 16) C0.1 C0.2.1 dX10_isOn_9 (by decide) (fun c_2 => ?_) (fun c_2 => ?_)
  · have hf := (if_pos c_2).symm.trans hf
    refine lv_iconst (v := 0) C0.1 C0.2.1 dX10_isOn_16 (by decide) ?_
    exact ee_z C0 hI hr hlocks rfl hf dX10_isOn_17
  · have hf := (if_neg c_2).symm.trans hf
    refine lv_iconst (v := 1) C0.1 C0.2.1 dX10_isOn_12 (by decide) ?_
    refine lv_goto (tgt := 17) C0.1 C0.2.1 dX10_isOn_13 (by decide) ?_
    exact ee_z C0 hI hr hlocks rfl hf dX10_isOn_17

def F_X10_on_L4 (n : Nat) (M : Mem) : Nat → Int32 → Int32 → Int32 → Option Int32
  | 0, _, _, _ => none
  | k4 + 1, x1_4, x2_4, x3_4 =>
    chk (inb 0 407) ((if (M 1 (ix 0)) ≤ x3_4 then some x2_4 else chk (inb (29 + x3_4) 407) ((if (M 1 (ix (29 + x3_4))) = (x1_4 + 1) then lt' (x2_4 + 1) (fun x2_4_9 => lt' (x3_4 + 1) (fun x3_4_11 => F_X10_on_L4 n M k4 x1_4 x2_4_9 x3_4_11)) else lt' (x2_4 + 0) (fun x2_4_5 => lt' (x3_4 + 1) (fun x3_4_7 => F_X10_on_L4 n M k4 x1_4 x2_4_5 x3_4_7))))))
def F_X10_on (n : Nat) (x1 : Int32) (M : Mem) : Option Int32 :=
  F_X10_on_L4 n M n x1 0 0
theorem hd_X10_on : yX10_on.cls ≠ "java/lang/invoke/MethodHandle" ∧ yX10_on.cls ≠ "java/lang/invoke/VarHandle" ∧ (parseMethodDescriptor yX10_on.desc).map (fun d => d.parameters.length) = some 1 := ⟨by decide +kernel, by decide +kernel, by decide +kernel⟩
set_option maxHeartbeats 4000000 in
set_option maxRecDepth 100000 in
theorem c_X10_on (l : Launch) (g : GG) (X : va_W) (b sz n : Nat) (M : Mem) (x1 : Int32) {r0 : Int32} (hf : F_X10_on n x1 M = some r0) : Met l yX10_on (.code yX10_on cX10_on 4 (some .int) :: LWg) (rmD 0 0 0) (va_Pc [.ref (b + 0), .int x1] (PreP g X 10 (shM g b) b sz M)) (Qi g X 10 (shM g b) b sz r0 M) 0 0 (AA X b 10 sz) := by
  refine met_go (by decide +kernel) rfl (Nat.le_of_ble_eq_true rfl) ?_
  intro p e s m below meth c ls H locs C0 C1 hr hlocks hnm hsz hl hI
  subst hsz
  have hl : lv_has ls 4 [(0, .ref (b + 0)), (1, .int x1)] := hl
  unfold F_X10_on at hf
  refine lv_iconst (v := 0) C0.1 C0.2.1 dX10_on_0 (by decide) ?_
  refine lv_istore_n (lv' := [(2, .int 0), (0, .ref (b + 0)), (1, .int x1)]) C0.1 C0.2.1 dX10_on_1 rfl hl (by decide) rfl (fun ls hl => ?_)
  refine lv_iconst (v := 0) C0.1 C0.2.1 dX10_on_2 (by decide) ?_
  refine lv_istore_n (lv' := [(3, .int 0), (2, .int 0), (0, .ref (b + 0)), (1, .int x1)]) C0.1 C0.2.1 dX10_on_3 rfl hl (by decide) rfl (fun ls hl => ?_)
  have L4 : ∀ (k4 : Nat) (x1_4 : Int32) (x2_4 : Int32) (x3_4 : Int32), F_X10_on_L4 n M k4 x1_4 x2_4 x3_4 = some r0 → ∀ (H : Heap) (locs : List Loc) (ls : Array Slot), PI g X 10 (shM g b) b s M H locs → lv_has ls 4 [(0, .ref (b + 0)), (1, .int x1_4), (2, .int x2_4), (3, .int x3_4)] → W p l e (rmD 0 0 0) s m ([.ref (b + 0), .int x1] : List Value).toArray below meth c H locs 0 0 (MQ below (Qi g X 10 (shM g b) b s.heap.size r0 M) ([.ref (b + 0), .int x1] : List Value).toArray s 0 0 (AA X b 10 s.heap.size)) (F0 m 4 ls []) := by
    intro k4
    induction k4 with
    | zero => intro x1_4 x2_4 x3_4 hf; exact absurd (show none = some r0 from hf) (fun h => by cases h)
    | succ k4 ih4 =>
      intro x1_4 x2_4 x3_4 hf H locs ls hI hl
      unfold F_X10_on_L4 at hf
      refine lv_iload_n C0.1 C0.2.1 dX10_on_4 rfl (lv_at hl 3 rfl) ?_
      refine lv_aload_n C0.1 C0.2.1 dX10_on_5 rfl (lv_at hl 0 rfl) ?_
      refine r_get (C := RX10) (T := TX10) (N9 := 20) (ci := 11) C0 C1 hI iX10 rfl 0 5 (Nat.le_of_ble_eq_true rfl) (by decide) ((fun _ => rfl) _) rfl rfl w_1687 dX10_on_6 ?_
      refine lv_iconst (v := 0) C0.1 C0.2.1 dX10_on_9 (by decide) ?_
      obtain ⟨h_4_1, hf⟩ := chk_some hf
      refine r_iald C0 C1 hI 1 (Nat.le_of_ble_eq_true rfl) (fun _ => rfl) h_4_1 dX10_on_10 ?_
      refine lv_icmp_ge (tgt := 43) C0.1 C0.2.1 dX10_on_11 (by decide) (fun c_4_2 => ?_) (fun c_4_2 => ?_)
      · have hf := (if_pos c_4_2).symm.trans hf
        refine lv_iload_n C0.1 C0.2.1 dX10_on_43 rfl (lv_at hl 2 rfl) ?_
        exact ee_i C0 hI hr hlocks hf dX10_on_44
      · have hf := (if_neg c_4_2).symm.trans hf
        refine lv_iload_n C0.1 C0.2.1 dX10_on_14 rfl (lv_at hl 2 rfl) ?_
        refine lv_aload_n C0.1 C0.2.1 dX10_on_15 rfl (lv_at hl 0 rfl) ?_
        refine r_get (C := RX10) (T := TX10) (N9 := 20) (ci := 11) C0 C1 hI iX10 rfl 0 5 (Nat.le_of_ble_eq_true rfl) (by decide) ((fun _ => rfl) _) rfl rfl w_1687 dX10_on_16 ?_
        refine lv_bipush (v := 29) C0.1 C0.2.1 dX10_on_19 (by decide) ?_
        refine lv_iload_n C0.1 C0.2.1 dX10_on_21 rfl (lv_at hl 3 rfl) ?_
        refine lv_iadd C0.1 C0.2.1 dX10_on_22 ?_
        obtain ⟨h_4_3, hf⟩ := chk_some hf
        refine r_iald C0 C1 hI 1 (Nat.le_of_ble_eq_true rfl) (fun _ => rfl) h_4_3 dX10_on_23 ?_
        refine lv_iload_n C0.1 C0.2.1 dX10_on_24 rfl (lv_at hl 1 rfl) ?_
        refine lv_iconst (v := 1) C0.1 C0.2.1 dX10_on_25 (by decide) ?_
        refine lv_iadd C0.1 C0.2.1 dX10_on_26 ?_
        refine lv_icmp_ne (tgt := 34) C0.1 C0.2.1 dX10_on_27 (by decide) (fun c_4_4 => ?_) (fun c_4_4 => ?_)
        · have hf := (if_neg c_4_4).symm.trans hf
          refine lv_iconst (v := 0) C0.1 C0.2.1 dX10_on_34 (by decide) ?_
          refine lv_iadd C0.1 C0.2.1 dX10_on_35 ?_
          refine lv_topi (fun x2_4_5 e_4_6 => ?_)
          have hf := lt_at e_4_6 hf
          refine lv_istore_n (lv' := [(2, .int x2_4_5), (0, .ref (b + 0)), (1, .int x1_4), (3, .int x3_4)]) C0.1 C0.2.1 dX10_on_36 rfl hl (by decide) rfl (fun ls hl => ?_)
          obtain ⟨x3_4_7, e_4_8⟩ : ∃ z : Int32, z = x3_4 + 1 := ⟨_, rfl⟩
          have hf := lt_at e_4_8 hf
          refine lv_iinc (v := x3_4_7) (lv' := [(3, .int x3_4_7), (2, .int x2_4_5), (0, .ref (b + 0)), (1, .int x1_4)]) C0.1 C0.2.1 dX10_on_37 hl (k := 3) rfl (by rw [e_4_8]; rfl) (by decide) rfl (fun ls hl => ?_)
          refine lv_goto (tgt := 4) C0.1 C0.2.1 dX10_on_40 (by decide) ?_
          exact ih4 x1_4 x2_4_5 x3_4_7 hf H locs ls hI (lv_sub hl [2, 3, 1, 0] rfl)
        · have hf := (if_pos c_4_4).symm.trans hf
          refine lv_iconst (v := 1) C0.1 C0.2.1 dX10_on_30 (by decide) ?_
          refine lv_goto (tgt := 35) C0.1 C0.2.1 dX10_on_31 (by decide) ?_
          refine lv_iadd C0.1 C0.2.1 dX10_on_35 ?_
          refine lv_topi (fun x2_4_9 e_4_10 => ?_)
          have hf := lt_at e_4_10 hf
          refine lv_istore_n (lv' := [(2, .int x2_4_9), (0, .ref (b + 0)), (1, .int x1_4), (3, .int x3_4)]) C0.1 C0.2.1 dX10_on_36 rfl hl (by decide) rfl (fun ls hl => ?_)
          obtain ⟨x3_4_11, e_4_12⟩ : ∃ z : Int32, z = x3_4 + 1 := ⟨_, rfl⟩
          have hf := lt_at e_4_12 hf
          refine lv_iinc (v := x3_4_11) (lv' := [(3, .int x3_4_11), (2, .int x2_4_9), (0, .ref (b + 0)), (1, .int x1_4)]) C0.1 C0.2.1 dX10_on_37 hl (k := 3) rfl (by rw [e_4_12]; rfl) (by decide) rfl (fun ls hl => ?_)
          refine lv_goto (tgt := 4) C0.1 C0.2.1 dX10_on_40 (by decide) ?_
          exact ih4 x1_4 x2_4_9 x3_4_11 hf H locs ls hI (lv_sub hl [2, 3, 1, 0] rfl)
  exact L4 n x1 0 0 hf H locs ls hI (lv_sub hl [2, 3, 1, 0] rfl)

def F_X10_isFor (n : Nat) (x1 : Int32) (x2 : Int32) (M : Mem) : Option Int32 :=
  ob (F_X10_of n x1 0 M) (fun r_2 => chk (inb r_2 407) (chk (inb (5 + x2) 407) ((if (((M 1 (ix r_2)) >>> ((M 1 (ix (5 + x2))) &&& 31)) &&& 1) = 1 then some 1 else some 0))))
theorem hd_X10_isFor : yX10_isFor.cls ≠ "java/lang/invoke/MethodHandle" ∧ yX10_isFor.cls ≠ "java/lang/invoke/VarHandle" ∧ (parseMethodDescriptor yX10_isFor.desc).map (fun d => d.parameters.length) = some 2 := ⟨by decide +kernel, by decide +kernel, by decide +kernel⟩
set_option maxHeartbeats 4000000 in
set_option maxRecDepth 100000 in
theorem c_X10_isFor (l : Launch) (g : GG) (X : va_W) (b sz n : Nat) (M : Mem) (x1 : Int32) (x2 : Int32) {r0 : Int32} (hf : F_X10_isFor n x1 x2 M = some r0) : Met l yX10_isFor (.code yX10_isFor cX10_isFor 3 (some .boolean) :: LWg) (rmD 1 0 0) (va_Pc [.ref (b + 0), .int x1, .int x2] (PreP g X 10 (shM g b) b sz M)) (Qi g X 10 (shM g b) b sz r0 M) 0 0 (AA X b 10 sz) := by
  refine met_go (by decide +kernel) rfl (Nat.le_of_ble_eq_true rfl) ?_
  intro p e s m below meth c ls H locs C0 C1 hr hlocks hnm hsz hl hI
  subst hsz
  have hl : lv_has ls 3 [(0, .ref (b + 0)), (1, .int x1), (2, .int x2)] := hl
  unfold F_X10_isFor at hf
  refine lv_aload_n C0.1 C0.2.1 dX10_isFor_0 rfl (lv_at hl 0 rfl) ?_
  refine r_get (C := RX10) (T := TX10) (N9 := 20) (ci := 11) C0 C1 hI iX10 rfl 0 5 (Nat.le_of_ble_eq_true rfl) (by decide) ((fun _ => rfl) _) rfl rfl w_1687 dX10_isFor_1 ?_
  refine lv_iload_n C0.1 C0.2.1 dX10_isFor_4 rfl (lv_at hl 1 rfl) ?_
  refine lv_iconst (v := 0) C0.1 C0.2.1 dX10_isFor_5 (by decide) ?_
  obtain ⟨r_2, h_1, hf⟩ := ob_some hf
  refine k_i C1 hI (q_S C0 C1 hI (c_X10_of l g X b H.size n M x1 0 h_1) w_1869 w_1870 w_130 w_1871 ⟨rfl, rfl⟩ hd_X10_of ⟨Nat.le_of_ble_eq_true rfl, Nat.le_of_ble_eq_true rfl⟩ rfl hl.1 rfl (Nat.le_of_ble_eq_true rfl) dX10_isFor_6 ⟨Nat.le_of_ble_eq_true rfl, Nat.le_of_ble_eq_true rfl⟩) (fun H locs hI => ?_)
  obtain ⟨h_3, hf⟩ := chk_some hf
  refine r_iald C0 C1 hI 1 (Nat.le_of_ble_eq_true rfl) (fun _ => rfl) h_3 dX10_isFor_9 ?_
  refine lv_aload_n C0.1 C0.2.1 dX10_isFor_10 rfl (lv_at hl 0 rfl) ?_
  refine r_get (C := RX10) (T := TX10) (N9 := 20) (ci := 11) C0 C1 hI iX10 rfl 0 5 (Nat.le_of_ble_eq_true rfl) (by decide) ((fun _ => rfl) _) rfl rfl w_1687 dX10_isFor_11 ?_
  refine lv_iconst (v := 5) C0.1 C0.2.1 dX10_isFor_14 (by decide) ?_
  refine lv_iload_n C0.1 C0.2.1 dX10_isFor_15 rfl (lv_at hl 2 rfl) ?_
  refine lv_iadd C0.1 C0.2.1 dX10_isFor_16 ?_
  obtain ⟨h_4, hf⟩ := chk_some hf
  refine r_iald C0 C1 hI 1 (Nat.le_of_ble_eq_true rfl) (fun _ => rfl) h_4 dX10_isFor_17 ?_
  refine lv_ishr C0.1 C0.2.1 dX10_isFor_18 ?_
  refine lv_iconst (v := 1) C0.1 C0.2.1 dX10_isFor_19 (by decide) ?_
  refine lv_iand C0.1 C0.2.1 dX10_isFor_20 ?_
  refine lv_iconst (v := 1) C0.1 C0.2.1 dX10_isFor_21 (by decide) ?_
  refine lv_icmp_ne (tgt := 29) C0.1 C0.2.1 dX10_isFor_22 (by decide) (fun c_5 => ?_) (fun c_5 => ?_)
  · have hf := (if_neg c_5).symm.trans hf
    refine lv_iconst (v := 0) C0.1 C0.2.1 dX10_isFor_29 (by decide) ?_
    exact ee_z C0 hI hr hlocks rfl hf dX10_isFor_30
  · have hf := (if_pos c_5).symm.trans hf
    refine lv_iconst (v := 1) C0.1 C0.2.1 dX10_isFor_25 (by decide) ?_
    refine lv_goto (tgt := 30) C0.1 C0.2.1 dX10_isFor_26 (by decide) ?_
    exact ee_z C0 hI hr hlocks rfl hf dX10_isFor_30

def F_X10_place_L2 (n : Nat) (M : Mem) : Nat → Int32 → Int32 → Int32 → Option Int32
  | 0, _, _, _ => none
  | k2 + 1, x1_2, x2_2, x3_2 =>
    ob (F_X10_of n x1_2 5 M) (fun r_2_2 => chk (inb r_2_2 407) ((if (M 1 (ix r_2_2)) ≤ x3_2 then some (-1) else ob (F_X10_listed n x1_2 x3_2 M) (fun r_2_6 => chk (inb r_2_6 407) ((if (M 1 (ix r_2_6)) = x2_2 then some x3_2 else lt' (x3_2 + 1) (fun x3_2_9 => F_X10_place_L2 n M k2 x1_2 x2_2 x3_2_9)))))))
def F_X10_place (n : Nat) (x1 : Int32) (x2 : Int32) (M : Mem) : Option Int32 :=
  F_X10_place_L2 n M n x1 x2 0
theorem hd_X10_place : yX10_place.cls ≠ "java/lang/invoke/MethodHandle" ∧ yX10_place.cls ≠ "java/lang/invoke/VarHandle" ∧ (parseMethodDescriptor yX10_place.desc).map (fun d => d.parameters.length) = some 2 := ⟨by decide +kernel, by decide +kernel, by decide +kernel⟩
set_option maxHeartbeats 4000000 in
set_option maxRecDepth 100000 in
theorem c_X10_place (l : Launch) (g : GG) (X : va_W) (b sz n : Nat) (M : Mem) (x1 : Int32) (x2 : Int32) {r0 : Int32} (hf : F_X10_place n x1 x2 M = some r0) : Met l yX10_place (.code yX10_place cX10_place 4 (some .int) :: LWg) (rmD 1 0 0) (va_Pc [.ref (b + 0), .int x1, .int x2] (PreP g X 10 (shM g b) b sz M)) (Qi g X 10 (shM g b) b sz r0 M) 0 0 (AA X b 10 sz) := by
  refine met_go (by decide +kernel) rfl (Nat.le_of_ble_eq_true rfl) ?_
  intro p e s m below meth c ls H locs C0 C1 hr hlocks hnm hsz hl hI
  subst hsz
  have hl : lv_has ls 4 [(0, .ref (b + 0)), (1, .int x1), (2, .int x2)] := hl
  unfold F_X10_place at hf
  refine lv_iconst (v := 0) C0.1 C0.2.1 dX10_place_0 (by decide) ?_
  refine lv_istore_n (lv' := [(3, .int 0), (0, .ref (b + 0)), (1, .int x1), (2, .int x2)]) C0.1 C0.2.1 dX10_place_1 rfl hl (by decide) rfl (fun ls hl => ?_)
  have L2 : ∀ (k2 : Nat) (x1_2 : Int32) (x2_2 : Int32) (x3_2 : Int32), F_X10_place_L2 n M k2 x1_2 x2_2 x3_2 = some r0 → ∀ (H : Heap) (locs : List Loc) (ls : Array Slot), PI g X 10 (shM g b) b s M H locs → lv_has ls 4 [(0, .ref (b + 0)), (1, .int x1_2), (2, .int x2_2), (3, .int x3_2)] → W p l e (rmD 1 0 0) s m ([.ref (b + 0), .int x1, .int x2] : List Value).toArray below meth c H locs 0 0 (MQ below (Qi g X 10 (shM g b) b s.heap.size r0 M) ([.ref (b + 0), .int x1, .int x2] : List Value).toArray s 0 0 (AA X b 10 s.heap.size)) (F0 m 2 ls []) := by
    intro k2
    induction k2 with
    | zero => intro x1_2 x2_2 x3_2 hf; exact absurd (show none = some r0 from hf) (fun h => by cases h)
    | succ k2 ih2 =>
      intro x1_2 x2_2 x3_2 hf H locs ls hI hl
      unfold F_X10_place_L2 at hf
      refine lv_iload_n C0.1 C0.2.1 dX10_place_2 rfl (lv_at hl 3 rfl) ?_
      refine lv_aload_n C0.1 C0.2.1 dX10_place_3 rfl (lv_at hl 0 rfl) ?_
      refine r_get (C := RX10) (T := TX10) (N9 := 20) (ci := 11) C0 C1 hI iX10 rfl 0 5 (Nat.le_of_ble_eq_true rfl) (by decide) ((fun _ => rfl) _) rfl rfl w_1687 dX10_place_4 ?_
      refine lv_iload_n C0.1 C0.2.1 dX10_place_7 rfl (lv_at hl 1 rfl) ?_
      refine lv_iconst (v := 5) C0.1 C0.2.1 dX10_place_8 (by decide) ?_
      obtain ⟨r_2_2, h_2_1, hf⟩ := ob_some hf
      refine k_i C1 hI (q_S C0 C1 hI (c_X10_of l g X b H.size n M x1_2 5 h_2_1) w_1869 w_1870 w_130 w_1871 ⟨rfl, rfl⟩ hd_X10_of ⟨Nat.le_of_ble_eq_true rfl, Nat.le_of_ble_eq_true rfl⟩ rfl hl.1 rfl (Nat.le_of_ble_eq_true rfl) dX10_place_9 ⟨Nat.le_of_ble_eq_true rfl, Nat.le_of_ble_eq_true rfl⟩) (fun H locs hI => ?_)
      obtain ⟨h_2_3, hf⟩ := chk_some hf
      refine r_iald C0 C1 hI 1 (Nat.le_of_ble_eq_true rfl) (fun _ => rfl) h_2_3 dX10_place_12 ?_
      refine lv_icmp_ge (tgt := 38) C0.1 C0.2.1 dX10_place_13 (by decide) (fun c_2_4 => ?_) (fun c_2_4 => ?_)
      · have hf := (if_pos c_2_4).symm.trans hf
        refine lv_iconst (v := (-1)) C0.1 C0.2.1 dX10_place_38 (by decide) ?_
        exact ee_i C0 hI hr hlocks hf dX10_place_39
      · have hf := (if_neg c_2_4).symm.trans hf
        refine lv_aload_n C0.1 C0.2.1 dX10_place_16 rfl (lv_at hl 0 rfl) ?_
        refine r_get (C := RX10) (T := TX10) (N9 := 20) (ci := 11) C0 C1 hI iX10 rfl 0 5 (Nat.le_of_ble_eq_true rfl) (by decide) ((fun _ => rfl) _) rfl rfl w_1687 dX10_place_17 ?_
        refine lv_iload_n C0.1 C0.2.1 dX10_place_20 rfl (lv_at hl 1 rfl) ?_
        refine lv_iload_n C0.1 C0.2.1 dX10_place_21 rfl (lv_at hl 3 rfl) ?_
        obtain ⟨r_2_6, h_2_5, hf⟩ := ob_some hf
        refine k_i C1 hI (q_S C0 C1 hI (c_X10_listed l g X b H.size n M x1_2 x3_2 h_2_5) w_1908 w_1909 w_130 w_1910 ⟨rfl, rfl⟩ hd_X10_listed ⟨Nat.le_of_ble_eq_true rfl, Nat.le_of_ble_eq_true rfl⟩ rfl hl.1 rfl (Nat.le_of_ble_eq_true rfl) dX10_place_22 ⟨Nat.le_of_ble_eq_true rfl, Nat.le_of_ble_eq_true rfl⟩) (fun H locs hI => ?_)
        obtain ⟨h_2_7, hf⟩ := chk_some hf
        refine r_iald C0 C1 hI 1 (Nat.le_of_ble_eq_true rfl) (fun _ => rfl) h_2_7 dX10_place_25 ?_
        refine lv_iload_n C0.1 C0.2.1 dX10_place_26 rfl (lv_at hl 2 rfl) ?_
        refine lv_icmp_ne (tgt := 32) C0.1 C0.2.1 dX10_place_27 (by decide) (fun c_2_8 => ?_) (fun c_2_8 => ?_)
        · have hf := (if_neg c_2_8).symm.trans hf
          obtain ⟨x3_2_9, e_2_10⟩ : ∃ z : Int32, z = x3_2 + 1 := ⟨_, rfl⟩
          have hf := lt_at e_2_10 hf
          refine lv_iinc (v := x3_2_9) (lv' := [(3, .int x3_2_9), (0, .ref (b + 0)), (1, .int x1_2), (2, .int x2_2)]) C0.1 C0.2.1 dX10_place_32 hl (k := 3) rfl (by rw [e_2_10]; rfl) (by decide) rfl (fun ls hl => ?_)
          refine lv_goto (tgt := 2) C0.1 C0.2.1 dX10_place_35 (by decide) ?_
          exact ih2 x1_2 x2_2 x3_2_9 hf H locs ls hI (lv_sub hl [1, 2, 3, 0] rfl)
        · have hf := (if_pos c_2_8).symm.trans hf
          refine lv_iload_n C0.1 C0.2.1 dX10_place_30 rfl (lv_at hl 3 rfl) ?_
          exact ee_i C0 hI hr hlocks hf dX10_place_31
  exact L2 n x1 x2 0 hf H locs ls hI (lv_sub hl [1, 2, 3, 0] rfl)

def F_X10_adds (n : Nat) (x1 : Int32) (x2 : Int32) (M : Mem) : Option (Int32 × Mem) :=
  ob (F_X10_isIn n x1 0 3 M) (fun r_2 => (if r_2 = 0 then ob2 (F_X10_fail n 1 M) (fun r_34 M_35 => some (r_34, M_35)) else ob (F_X10_isIn n x2 1 9 M) (fun r_5 => (if r_5 = 0 then ob2 (F_X10_fail n 2 M) (fun r_31 M_32 => some (r_31, M_32)) else chk (inb 0 407) (lt' (M 1 (ix 0)) (fun x3_8 => (if x3_8 = 12 then ob2 (F_X10_fail n 3 M) (fun r_28 M_29 => some (r_28, M_29)) else chk (inb (5 + x3_8) 407) (lt' (up2 M 1 (ix (5 + x3_8)) x1) (fun M_14 => chk (inb (17 + x3_8) 407) (lt' (up2 M_14 1 (ix (17 + x3_8)) x2) (fun M_19 => chk (inb 0 407) (chk (inb 0 407) (lt' (up2 M_19 1 (ix 0) ((M_19 1 (ix 0)) + 1)) (fun M_25 => some (x3_8, M_25)))))))))))))))
theorem hd_X10_adds : yX10_adds.cls ≠ "java/lang/invoke/MethodHandle" ∧ yX10_adds.cls ≠ "java/lang/invoke/VarHandle" ∧ (parseMethodDescriptor yX10_adds.desc).map (fun d => d.parameters.length) = some 2 := ⟨by decide +kernel, by decide +kernel, by decide +kernel⟩
set_option maxHeartbeats 4000000 in
set_option maxRecDepth 100000 in
theorem c_X10_adds (l : Launch) (g : GG) (X : va_W) (b sz n : Nat) (M : Mem) (x1 : Int32) (x2 : Int32) {r0 : Int32} {M' : Mem} (hf : F_X10_adds n x1 x2 M = some (r0, M')) : Met l yX10_adds (.code yX10_adds cX10_adds 4 (some .int) :: LWg) (rmD 1 0 0) (va_Pc [.ref (b + 0), .int x1, .int x2] (PreP g X 10 (shM g b) b sz M)) (Qi g X 10 (shM g b) b sz r0 M') 0 0 (AA X b 10 sz) := by
  refine met_go (by decide +kernel) rfl (Nat.le_of_ble_eq_true rfl) ?_
  intro p e s m below meth c ls H locs C0 C1 hr hlocks hnm hsz hl hI
  subst hsz
  have hl : lv_has ls 4 [(0, .ref (b + 0)), (1, .int x1), (2, .int x2)] := hl
  unfold F_X10_adds at hf
  refine lv_iload_n C0.1 C0.2.1 dX10_adds_0 rfl (lv_at hl 1 rfl) ?_
  refine lv_iconst (v := 0) C0.1 C0.2.1 dX10_adds_1 (by decide) ?_
  refine lv_iconst (v := 3) C0.1 C0.2.1 dX10_adds_2 (by decide) ?_
  obtain ⟨r_2, h_1, hf⟩ := ob_some hf
  refine k_i C1 hI (q_S C0 C1 hI (c_X10_isIn l g X b H.size n M x1 0 3 h_1) w_1762 w_1763 w_130 w_1764 ⟨rfl, rfl⟩ hd_X10_isIn ⟨Nat.le_of_ble_eq_true rfl, Nat.le_of_ble_eq_true rfl⟩ rfl hl.1 rfl (Nat.le_of_ble_eq_true rfl) dX10_adds_3 ⟨Nat.le_of_ble_eq_true rfl, Nat.le_of_ble_eq_true rfl⟩) (fun H locs hI => ?_)
  refine lv_if_ne (tgt := 15) C0.1 C0.2.1 dX10_adds_6 (by decide) (fun c_3 => ?_) (fun c_3 => ?_)
  · have hf := (if_neg c_3).symm.trans hf
    refine lv_iload_n C0.1 C0.2.1 dX10_adds_15 rfl (lv_at hl 2 rfl) ?_
    refine lv_iconst (v := 1) C0.1 C0.2.1 dX10_adds_16 (by decide) ?_
    refine lv_bipush (v := 9) C0.1 C0.2.1 dX10_adds_17 (by decide) ?_
    obtain ⟨r_5, h_4, hf⟩ := ob_some hf
    refine k_i C1 hI (q_S C0 C1 hI (c_X10_isIn l g X b H.size n M x2 1 9 h_4) w_1762 w_1763 w_130 w_1764 ⟨rfl, rfl⟩ hd_X10_isIn ⟨Nat.le_of_ble_eq_true rfl, Nat.le_of_ble_eq_true rfl⟩ rfl hl.1 rfl (Nat.le_of_ble_eq_true rfl) dX10_adds_19 ⟨Nat.le_of_ble_eq_true rfl, Nat.le_of_ble_eq_true rfl⟩) (fun H locs hI => ?_)
    refine lv_if_ne (tgt := 31) C0.1 C0.2.1 dX10_adds_22 (by decide) (fun c_6 => ?_) (fun c_6 => ?_)
    · have hf := (if_neg c_6).symm.trans hf
      refine lv_aload_n C0.1 C0.2.1 dX10_adds_31 rfl (lv_at hl 0 rfl) ?_
      refine r_get (C := RX10) (T := TX10) (N9 := 20) (ci := 11) C0 C1 hI iX10 rfl 0 5 (Nat.le_of_ble_eq_true rfl) (by decide) ((fun _ => rfl) _) rfl rfl w_1687 dX10_adds_32 ?_
      refine lv_iconst (v := 0) C0.1 C0.2.1 dX10_adds_35 (by decide) ?_
      obtain ⟨h_7, hf⟩ := chk_some hf
      refine r_iald C0 C1 hI 1 (Nat.le_of_ble_eq_true rfl) (fun _ => rfl) h_7 dX10_adds_36 ?_
      refine lv_topi (fun x3_8 e_9 => ?_)
      have hf := lt_at e_9 hf
      refine lv_istore_n (lv' := [(3, .int x3_8), (0, .ref (b + 0)), (1, .int x1), (2, .int x2)]) C0.1 C0.2.1 dX10_adds_37 rfl hl (by decide) rfl (fun ls hl => ?_)
      refine lv_iload_n C0.1 C0.2.1 dX10_adds_38 rfl (lv_at hl 0 rfl) ?_
      refine lv_bipush (v := 12) C0.1 C0.2.1 dX10_adds_39 (by decide) ?_
      refine lv_icmp_ne (tgt := 50) C0.1 C0.2.1 dX10_adds_41 (by decide) (fun c_10 => ?_) (fun c_10 => ?_)
      · have hf := (if_neg c_10).symm.trans hf
        refine lv_aload_n C0.1 C0.2.1 dX10_adds_50 rfl (lv_at hl 1 rfl) ?_
        refine r_get (C := RX10) (T := TX10) (N9 := 20) (ci := 11) C0 C1 hI iX10 rfl 0 5 (Nat.le_of_ble_eq_true rfl) (by decide) ((fun _ => rfl) _) rfl rfl w_1687 dX10_adds_51 ?_
        refine lv_iconst (v := 5) C0.1 C0.2.1 dX10_adds_54 (by decide) ?_
        refine lv_iload_n C0.1 C0.2.1 dX10_adds_55 rfl (lv_at hl 0 rfl) ?_
        refine lv_iadd C0.1 C0.2.1 dX10_adds_56 ?_
        refine lv_iload_n C0.1 C0.2.1 dX10_adds_57 rfl (lv_at hl 2 rfl) ?_
        obtain ⟨h_11, hf⟩ := chk_some hf
        refine r_iast C0 C1 hI 1 (Nat.le_of_ble_eq_true rfl) (fun _ => rfl) h_11 dX10_adds_58 (fun H locs hI => ?_)
        obtain ⟨M_14, e_15⟩ : ∃ z : Mem, z = up2 M 1 (ix (5 + x3_8)) x1 := ⟨_, rfl⟩
        rw [← e_15] at hI
        have hf := lt_at e_15 hf
        refine lv_aload_n C0.1 C0.2.1 dX10_adds_59 rfl (lv_at hl 1 rfl) ?_
        refine r_get (C := RX10) (T := TX10) (N9 := 20) (ci := 11) C0 C1 hI iX10 rfl 0 5 (Nat.le_of_ble_eq_true rfl) (by decide) ((fun _ => rfl) _) rfl rfl w_1687 dX10_adds_60 ?_
        refine lv_bipush (v := 17) C0.1 C0.2.1 dX10_adds_63 (by decide) ?_
        refine lv_iload_n C0.1 C0.2.1 dX10_adds_65 rfl (lv_at hl 0 rfl) ?_
        refine lv_iadd C0.1 C0.2.1 dX10_adds_66 ?_
        refine lv_iload_n C0.1 C0.2.1 dX10_adds_67 rfl (lv_at hl 3 rfl) ?_
        obtain ⟨h_16, hf⟩ := chk_some hf
        refine r_iast C0 C1 hI 1 (Nat.le_of_ble_eq_true rfl) (fun _ => rfl) h_16 dX10_adds_68 (fun H locs hI => ?_)
        obtain ⟨M_19, e_20⟩ : ∃ z : Mem, z = up2 M_14 1 (ix (17 + x3_8)) x2 := ⟨_, rfl⟩
        rw [← e_20] at hI
        have hf := lt_at e_20 hf
        refine lv_aload_n C0.1 C0.2.1 dX10_adds_69 rfl (lv_at hl 1 rfl) ?_
        refine r_get (C := RX10) (T := TX10) (N9 := 20) (ci := 11) C0 C1 hI iX10 rfl 0 5 (Nat.le_of_ble_eq_true rfl) (by decide) ((fun _ => rfl) _) rfl rfl w_1687 dX10_adds_70 ?_
        refine lv_iconst (v := 0) C0.1 C0.2.1 dX10_adds_73 (by decide) ?_
        refine lv_dup2_11 C0.1 C0.2.1 dX10_adds_74 rfl rfl ?_
        obtain ⟨h_21, hf⟩ := chk_some hf
        refine r_iald C0 C1 hI 1 (Nat.le_of_ble_eq_true rfl) (fun _ => rfl) h_21 dX10_adds_75 ?_
        refine lv_iconst (v := 1) C0.1 C0.2.1 dX10_adds_76 (by decide) ?_
        refine lv_iadd C0.1 C0.2.1 dX10_adds_77 ?_
        obtain ⟨h_22, hf⟩ := chk_some hf
        refine r_iast C0 C1 hI 1 (Nat.le_of_ble_eq_true rfl) (fun _ => rfl) h_22 dX10_adds_78 (fun H locs hI => ?_)
        obtain ⟨M_25, e_26⟩ : ∃ z : Mem, z = up2 M_19 1 (ix 0) ((M_19 1 (ix 0)) + 1) := ⟨_, rfl⟩
        rw [← e_26] at hI
        have hf := lt_at e_26 hf
        refine lv_iload_n C0.1 C0.2.1 dX10_adds_79 rfl (lv_at hl 0 rfl) ?_
        exact ee_im C0 hI hr hlocks hf dX10_adds_80
      · have hf := (if_pos c_10).symm.trans hf
        refine lv_aload_n C0.1 C0.2.1 dX10_adds_44 rfl (lv_at hl 1 rfl) ?_
        refine lv_iconst (v := 3) C0.1 C0.2.1 dX10_adds_45 (by decide) ?_
        obtain ⟨r_28, M_29, h_27, hf⟩ := ob2_some hf
        refine k_i C1 hI (q_V C0 C1 hI 0 (c_X10_fail l g X b H.size n M 3 h_27) w_1765 w_1767 w_70 w_130 w_1768 ⟨rfl, rfl⟩ hd_X10_fail ⟨Nat.le_of_ble_eq_true rfl, Nat.le_of_ble_eq_true rfl⟩ (Nat.le_of_ble_eq_true rfl) ((fun _ => rfl) _) rfl rfl rfl hl.1 rfl (Nat.le_of_ble_eq_true rfl) dX10_adds_46 ⟨Nat.le_of_ble_eq_true rfl, Nat.le_of_ble_eq_true rfl⟩) (fun H locs hI => ?_)
        exact ee_im C0 hI hr hlocks hf dX10_adds_49
    · have hf := (if_pos c_6).symm.trans hf
      refine lv_aload_n C0.1 C0.2.1 dX10_adds_25 rfl (lv_at hl 0 rfl) ?_
      refine lv_iconst (v := 2) C0.1 C0.2.1 dX10_adds_26 (by decide) ?_
      obtain ⟨r_31, M_32, h_30, hf⟩ := ob2_some hf
      refine k_i C1 hI (q_V C0 C1 hI 0 (c_X10_fail l g X b H.size n M 2 h_30) w_1765 w_1767 w_70 w_130 w_1768 ⟨rfl, rfl⟩ hd_X10_fail ⟨Nat.le_of_ble_eq_true rfl, Nat.le_of_ble_eq_true rfl⟩ (Nat.le_of_ble_eq_true rfl) ((fun _ => rfl) _) rfl rfl rfl hl.1 rfl (Nat.le_of_ble_eq_true rfl) dX10_adds_27 ⟨Nat.le_of_ble_eq_true rfl, Nat.le_of_ble_eq_true rfl⟩) (fun H locs hI => ?_)
      exact ee_im C0 hI hr hlocks hf dX10_adds_30
  · have hf := (if_pos c_3).symm.trans hf
    refine lv_aload_n C0.1 C0.2.1 dX10_adds_9 rfl (lv_at hl 0 rfl) ?_
    refine lv_iconst (v := 1) C0.1 C0.2.1 dX10_adds_10 (by decide) ?_
    obtain ⟨r_34, M_35, h_33, hf⟩ := ob2_some hf
    refine k_i C1 hI (q_V C0 C1 hI 0 (c_X10_fail l g X b H.size n M 1 h_33) w_1765 w_1767 w_70 w_130 w_1768 ⟨rfl, rfl⟩ hd_X10_fail ⟨Nat.le_of_ble_eq_true rfl, Nat.le_of_ble_eq_true rfl⟩ (Nat.le_of_ble_eq_true rfl) ((fun _ => rfl) _) rfl rfl rfl hl.1 rfl (Nat.le_of_ble_eq_true rfl) dX10_adds_11 ⟨Nat.le_of_ble_eq_true rfl, Nat.le_of_ble_eq_true rfl⟩) (fun H locs hI => ?_)
    exact ee_im C0 hI hr hlocks hf dX10_adds_14

def F_X10_frogAtRank_L22 (n : Nat) (c7 : Int32 → Int32 → Mem → Option (Int32 × Mem)) : Nat → Int32 → Int32 → Int32 → Int32 → Mem → Option (Int32 × Mem)
  | 0, _, _, _, _, _ => none
  | k22 + 1, x1_22, x2_22, x3_22, x4_22, M =>
    chk (inb 0 407) ((if (M 1 (ix 0)) ≤ x4_22 then (if x3_22 = x1_22 then some (x2_22, M) else lt' (x2_22 + 1) (fun x2_7_22_4 => c7 x1_22 x2_7_22_4 M)) else chk (inb (41 + x4_22) 407) (chk (inb (41 + x2_22) 407) (lt' ((M 1 (ix (41 + x4_22))) - (M 1 (ix (41 + x2_22)))) (fun x5_7_22_8 => (if x5_7_22_8 = 0 then chk (inb (17 + x4_22) 407) (chk (inb (17 + x2_22) 407) (lt' ((M 1 (ix (17 + x4_22))) - (M 1 (ix (17 + x2_22)))) (fun x5_7_22_13 => (if 0 < x5_7_22_13 then lt' (x3_22 + 1) (fun x3_7_22_16 => lt' (x4_22 + 1) (fun x4_7_22_18 => F_X10_frogAtRank_L22 n c7 k22 x1_22 x2_22 x3_7_22_16 x4_7_22_18 M)) else (if x5_7_22_13 = 0 then (if x2_22 ≤ x4_22 then lt' (x3_22 + 0) (fun x3_7_22_26 => lt' (x4_22 + 1) (fun x4_7_22_28 => F_X10_frogAtRank_L22 n c7 k22 x1_22 x2_22 x3_7_22_26 x4_7_22_28 M)) else lt' (x3_22 + 1) (fun x3_7_22_30 => lt' (x4_22 + 1) (fun x4_7_22_32 => F_X10_frogAtRank_L22 n c7 k22 x1_22 x2_22 x3_7_22_30 x4_7_22_32 M))) else lt' (x3_22 + 0) (fun x3_7_22_21 => lt' (x4_22 + 1) (fun x4_7_22_23 => F_X10_frogAtRank_L22 n c7 k22 x1_22 x2_22 x3_7_22_21 x4_7_22_23 M))))))) else (if 0 < x5_7_22_8 then lt' (x3_22 + 1) (fun x3_7_22_35 => lt' (x4_22 + 1) (fun x4_7_22_37 => F_X10_frogAtRank_L22 n c7 k22 x1_22 x2_22 x3_7_22_35 x4_7_22_37 M)) else (if x5_7_22_8 = 0 then (if x2_22 ≤ x4_22 then lt' (x3_22 + 0) (fun x3_7_22_45 => lt' (x4_22 + 1) (fun x4_7_22_47 => F_X10_frogAtRank_L22 n c7 k22 x1_22 x2_22 x3_7_22_45 x4_7_22_47 M)) else lt' (x3_22 + 1) (fun x3_7_22_49 => lt' (x4_22 + 1) (fun x4_7_22_51 => F_X10_frogAtRank_L22 n c7 k22 x1_22 x2_22 x3_7_22_49 x4_7_22_51 M))) else lt' (x3_22 + 0) (fun x3_7_22_40 => lt' (x4_22 + 1) (fun x4_7_22_42 => F_X10_frogAtRank_L22 n c7 k22 x1_22 x2_22 x3_7_22_40 x4_7_22_42 M))))))))))
def F_X10_frogAtRank_L7 (n : Nat) : Nat → Int32 → Int32 → Mem → Option (Int32 × Mem)
  | 0, _, _, _ => none
  | k7 + 1, x1_7, x2_7, M =>
    chk (inb 0 407) ((if (M 1 (ix 0)) ≤ x2_7 then ob2 (F_X10_fail n 1 M) (fun r_7_4 M_7_5 => some (r_7_4, M_7_5)) else F_X10_frogAtRank_L22 n (F_X10_frogAtRank_L7 n k7) n x1_7 x2_7 0 0 M))
def F_X10_frogAtRank (n : Nat) (x1 : Int32) (M : Mem) : Option (Int32 × Mem) :=
  lt' (up2 M 0 0 0) (fun M_1 => F_X10_frogAtRank_L7 n n x1 0 M_1)
theorem hd_X10_frogAtRank : yX10_frogAtRank.cls ≠ "java/lang/invoke/MethodHandle" ∧ yX10_frogAtRank.cls ≠ "java/lang/invoke/VarHandle" ∧ (parseMethodDescriptor yX10_frogAtRank.desc).map (fun d => d.parameters.length) = some 1 := ⟨by decide +kernel, by decide +kernel, by decide +kernel⟩
set_option maxHeartbeats 4000000 in
set_option maxRecDepth 100000 in
theorem c_X10_frogAtRank (l : Launch) (g : GG) (X : va_W) (b sz n : Nat) (M : Mem) (x1 : Int32) {r0 : Int32} {M' : Mem} (hf : F_X10_frogAtRank n x1 M = some (r0, M')) : Met l yX10_frogAtRank (.code yX10_frogAtRank cX10_frogAtRank 6 (some .int) :: LWg) (rmD 1 0 0) (va_Pc [.ref (b + 0), .int x1] (PreP g X 10 (shM g b) b sz M)) (Qi g X 10 (shM g b) b sz r0 M') 0 0 (AA X b 10 sz) := by
  refine met_go (by decide +kernel) rfl (Nat.le_of_ble_eq_true rfl) ?_
  intro p e s m below meth c ls H locs C0 C1 hr hlocks hnm hsz hl hI
  subst hsz
  have hl : lv_has ls 6 [(0, .ref (b + 0)), (1, .int x1)] := hl
  unfold F_X10_frogAtRank at hf
  refine lv_aload_n C0.1 C0.2.1 dX10_frogAtRank_0 rfl (lv_at hl 0 rfl) ?_
  refine lv_iconst (v := 0) C0.1 C0.2.1 dX10_frogAtRank_1 (by decide) ?_
  refine r_put (C := RX10) (T := TX10) (N9 := 20) (ci := 11) (fs := fM b) (ty := .int) C0 C1 hI iX10 tyX10 tyX10_ok nmX10 rfl 0 0 (Nat.le_of_ble_eq_true rfl) (by decide) (fun _ => rfl) rfl rfl rfl (by decide +kernel) ⟨rfl, rfl⟩ (Nat.le_of_ble_eq_true rfl) w_1682 dX10_frogAtRank_2 (fun H locs hI => ?_)
  obtain ⟨M_1, e_2⟩ : ∃ z : Mem, z = up2 M 0 0 0 := ⟨_, rfl⟩
  rw [← e_2] at hI
  have hf := lt_at e_2 hf
  refine lv_iconst (v := 0) C0.1 C0.2.1 dX10_frogAtRank_5 (by decide) ?_
  refine lv_istore_n (lv' := [(2, .int 0), (0, .ref (b + 0)), (1, .int x1)]) C0.1 C0.2.1 dX10_frogAtRank_6 rfl hl (by decide) rfl (fun ls hl => ?_)
  have L7 : ∀ (k7 : Nat) (x1_7 : Int32) (x2_7 : Int32) (M : Mem), F_X10_frogAtRank_L7 n k7 x1_7 x2_7 M = some (r0, M') → ∀ (H : Heap) (locs : List Loc) (ls : Array Slot), PI g X 10 (shM g b) b s M H locs → lv_has ls 6 [(0, .ref (b + 0)), (1, .int x1_7), (2, .int x2_7)] → W p l e (rmD 1 0 0) s m ([.ref (b + 0), .int x1] : List Value).toArray below meth c H locs 0 0 (MQ below (Qi g X 10 (shM g b) b s.heap.size r0 M') ([.ref (b + 0), .int x1] : List Value).toArray s 0 0 (AA X b 10 s.heap.size)) (F0 m 7 ls []) := by
    intro k7
    induction k7 with
    | zero => intro x1_7 x2_7 M hf; exact absurd (show none = some (r0, M') from hf) (fun h => by cases h)
    | succ k7 ih7 =>
      intro x1_7 x2_7 M hf H locs ls hI hl
      unfold F_X10_frogAtRank_L7 at hf
      refine lv_iload_n C0.1 C0.2.1 dX10_frogAtRank_7 rfl (lv_at hl 2 rfl) ?_
      refine lv_aload_n C0.1 C0.2.1 dX10_frogAtRank_8 rfl (lv_at hl 0 rfl) ?_
      refine r_get (C := RX10) (T := TX10) (N9 := 20) (ci := 11) C0 C1 hI iX10 rfl 0 5 (Nat.le_of_ble_eq_true rfl) (by decide) ((fun _ => rfl) _) rfl rfl w_1687 dX10_frogAtRank_9 ?_
      refine lv_iconst (v := 0) C0.1 C0.2.1 dX10_frogAtRank_12 (by decide) ?_
      obtain ⟨h_7_1, hf⟩ := chk_some hf
      refine r_iald C0 C1 hI 1 (Nat.le_of_ble_eq_true rfl) (fun _ => rfl) h_7_1 dX10_frogAtRank_13 ?_
      refine lv_icmp_ge (tgt := 130) C0.1 C0.2.1 dX10_frogAtRank_14 (by decide) (fun c_7_2 => ?_) (fun c_7_2 => ?_)
      · have hf := (if_pos c_7_2).symm.trans hf
        refine lv_aload_n C0.1 C0.2.1 dX10_frogAtRank_130 rfl (lv_at hl 0 rfl) ?_
        refine lv_iconst (v := 1) C0.1 C0.2.1 dX10_frogAtRank_131 (by decide) ?_
        obtain ⟨r_7_4, M_7_5, h_7_3, hf⟩ := ob2_some hf
        refine k_i C1 hI (q_V C0 C1 hI 0 (c_X10_fail l g X b H.size n M 1 h_7_3) w_1765 w_1767 w_70 w_130 w_1768 ⟨rfl, rfl⟩ hd_X10_fail ⟨Nat.le_of_ble_eq_true rfl, Nat.le_of_ble_eq_true rfl⟩ (Nat.le_of_ble_eq_true rfl) ((fun _ => rfl) _) rfl rfl rfl hl.1 rfl (Nat.le_of_ble_eq_true rfl) dX10_frogAtRank_132 ⟨Nat.le_of_ble_eq_true rfl, Nat.le_of_ble_eq_true rfl⟩) (fun H locs hI => ?_)
        exact ee_im C0 hI hr hlocks hf dX10_frogAtRank_135
      · have hf := (if_neg c_7_2).symm.trans hf
        refine lv_iconst (v := 0) C0.1 C0.2.1 dX10_frogAtRank_17 (by decide) ?_
        refine lv_istore_n (lv' := [(3, .int 0), (0, .ref (b + 0)), (1, .int x1_7), (2, .int x2_7)]) C0.1 C0.2.1 dX10_frogAtRank_18 rfl hl (by decide) rfl (fun ls hl => ?_)
        refine lv_iconst (v := 0) C0.1 C0.2.1 dX10_frogAtRank_19 (by decide) ?_
        refine lv_istore (lv' := [(4, .int 0), (3, .int 0), (0, .ref (b + 0)), (1, .int x1_7), (2, .int x2_7)]) C0.1 C0.2.1 dX10_frogAtRank_20 hl (by decide) rfl (fun ls hl => ?_)
        have L22 : ∀ (c7 : Int32 → Int32 → Mem → Option (Int32 × Mem)) (hc7 : ∀ (z1 : Int32) (z2 : Int32) (M : Mem), c7 z1 z2 M = some (r0, M') → ∀ (H : Heap) (locs : List Loc) (ls : Array Slot), PI g X 10 (shM g b) b s M H locs → lv_has ls 6 [(0, .ref (b + 0)), (1, .int z1), (2, .int z2)] → W p l e (rmD 1 0 0) s m ([.ref (b + 0), .int x1] : List Value).toArray below meth c H locs 0 0 (MQ below (Qi g X 10 (shM g b) b s.heap.size r0 M') ([.ref (b + 0), .int x1] : List Value).toArray s 0 0 (AA X b 10 s.heap.size)) (F0 m 7 ls [])) (k22 : Nat) (x1_22 : Int32) (x2_22 : Int32) (x3_22 : Int32) (x4_22 : Int32) (M : Mem), F_X10_frogAtRank_L22 n c7 k22 x1_22 x2_22 x3_22 x4_22 M = some (r0, M') → ∀ (H : Heap) (locs : List Loc) (ls : Array Slot), PI g X 10 (shM g b) b s M H locs → lv_has ls 6 [(0, .ref (b + 0)), (1, .int x1_22), (2, .int x2_22), (3, .int x3_22), (4, .int x4_22)] → W p l e (rmD 1 0 0) s m ([.ref (b + 0), .int x1] : List Value).toArray below meth c H locs 0 0 (MQ below (Qi g X 10 (shM g b) b s.heap.size r0 M') ([.ref (b + 0), .int x1] : List Value).toArray s 0 0 (AA X b 10 s.heap.size)) (F0 m 22 ls []) := by
          intro c7 hc7 k22
          induction k22 with
          | zero => intro x1_22 x2_22 x3_22 x4_22 M hf; exact absurd (show none = some (r0, M') from hf) (fun h => by cases h)
          | succ k22 ih22 =>
            intro x1_22 x2_22 x3_22 x4_22 M hf H locs ls hI hl
            unfold F_X10_frogAtRank_L22 at hf
            refine lv_iload C0.1 C0.2.1 dX10_frogAtRank_22 (lv_at hl 4 rfl) ?_
            refine lv_aload_n C0.1 C0.2.1 dX10_frogAtRank_24 rfl (lv_at hl 0 rfl) ?_
            refine r_get (C := RX10) (T := TX10) (N9 := 20) (ci := 11) C0 C1 hI iX10 rfl 0 5 (Nat.le_of_ble_eq_true rfl) (by decide) ((fun _ => rfl) _) rfl rfl w_1687 dX10_frogAtRank_25 ?_
            refine lv_iconst (v := 0) C0.1 C0.2.1 dX10_frogAtRank_28 (by decide) ?_
            obtain ⟨h_7_22_1, hf⟩ := chk_some hf
            refine r_iald C0 C1 hI 1 (Nat.le_of_ble_eq_true rfl) (fun _ => rfl) h_7_22_1 dX10_frogAtRank_29 ?_
            refine lv_icmp_ge (tgt := 117) C0.1 C0.2.1 dX10_frogAtRank_30 (by decide) (fun c_7_22_2 => ?_) (fun c_7_22_2 => ?_)
            · have hf := (if_pos c_7_22_2).symm.trans hf
              refine lv_iload_n C0.1 C0.2.1 dX10_frogAtRank_117 rfl (lv_at hl 3 rfl) ?_
              refine lv_iload_n C0.1 C0.2.1 dX10_frogAtRank_118 rfl (lv_at hl 1 rfl) ?_
              refine lv_icmp_ne (tgt := 124) C0.1 C0.2.1 dX10_frogAtRank_119 (by decide) (fun c_7_22_3 => ?_) (fun c_7_22_3 => ?_)
              · have hf := (if_neg c_7_22_3).symm.trans hf
                obtain ⟨x2_7_22_4, e_7_22_5⟩ : ∃ z : Int32, z = x2_22 + 1 := ⟨_, rfl⟩
                have hf := lt_at e_7_22_5 hf
                refine lv_iinc (v := x2_7_22_4) (lv' := [(2, .int x2_7_22_4), (0, .ref (b + 0)), (1, .int x1_22), (3, .int x3_22), (4, .int x4_22)]) C0.1 C0.2.1 dX10_frogAtRank_124 hl (k := 2) rfl (by rw [e_7_22_5]; rfl) (by decide) rfl (fun ls hl => ?_)
                refine lv_goto (tgt := 7) C0.1 C0.2.1 dX10_frogAtRank_127 (by decide) ?_
                exact hc7 x1_22 x2_7_22_4 M hf H locs ls hI (lv_sub hl [1, 2, 0] rfl)
              · have hf := (if_pos c_7_22_3).symm.trans hf
                refine lv_iload_n C0.1 C0.2.1 dX10_frogAtRank_122 rfl (lv_at hl 2 rfl) ?_
                exact ee_im C0 hI hr hlocks hf dX10_frogAtRank_123
            · have hf := (if_neg c_7_22_2).symm.trans hf
              refine lv_aload_n C0.1 C0.2.1 dX10_frogAtRank_33 rfl (lv_at hl 0 rfl) ?_
              refine r_get (C := RX10) (T := TX10) (N9 := 20) (ci := 11) C0 C1 hI iX10 rfl 0 5 (Nat.le_of_ble_eq_true rfl) (by decide) ((fun _ => rfl) _) rfl rfl w_1687 dX10_frogAtRank_34 ?_
              refine lv_bipush (v := 41) C0.1 C0.2.1 dX10_frogAtRank_37 (by decide) ?_
              refine lv_iload C0.1 C0.2.1 dX10_frogAtRank_39 (lv_at hl 4 rfl) ?_
              refine lv_iadd C0.1 C0.2.1 dX10_frogAtRank_41 ?_
              obtain ⟨h_7_22_6, hf⟩ := chk_some hf
              refine r_iald C0 C1 hI 1 (Nat.le_of_ble_eq_true rfl) (fun _ => rfl) h_7_22_6 dX10_frogAtRank_42 ?_
              refine lv_aload_n C0.1 C0.2.1 dX10_frogAtRank_43 rfl (lv_at hl 0 rfl) ?_
              refine r_get (C := RX10) (T := TX10) (N9 := 20) (ci := 11) C0 C1 hI iX10 rfl 0 5 (Nat.le_of_ble_eq_true rfl) (by decide) ((fun _ => rfl) _) rfl rfl w_1687 dX10_frogAtRank_44 ?_
              refine lv_bipush (v := 41) C0.1 C0.2.1 dX10_frogAtRank_47 (by decide) ?_
              refine lv_iload_n C0.1 C0.2.1 dX10_frogAtRank_49 rfl (lv_at hl 2 rfl) ?_
              refine lv_iadd C0.1 C0.2.1 dX10_frogAtRank_50 ?_
              obtain ⟨h_7_22_7, hf⟩ := chk_some hf
              refine r_iald C0 C1 hI 1 (Nat.le_of_ble_eq_true rfl) (fun _ => rfl) h_7_22_7 dX10_frogAtRank_51 ?_
              refine lv_isub C0.1 C0.2.1 dX10_frogAtRank_52 ?_
              refine lv_topi (fun x5_7_22_8 e_7_22_9 => ?_)
              have hf := lt_at e_7_22_9 hf
              refine lv_istore (lv' := [(5, .int x5_7_22_8), (0, .ref (b + 0)), (1, .int x1_22), (2, .int x2_22), (3, .int x3_22), (4, .int x4_22)]) C0.1 C0.2.1 dX10_frogAtRank_53 hl (by decide) rfl (fun ls hl => ?_)
              refine lv_iload C0.1 C0.2.1 dX10_frogAtRank_55 (lv_at hl 0 rfl) ?_
              refine lv_if_eq (tgt := 65) C0.1 C0.2.1 dX10_frogAtRank_57 (by decide) (fun c_7_22_10 => ?_) (fun c_7_22_10 => ?_)
              · have hf := (if_pos c_7_22_10).symm.trans hf
                refine lv_aload_n C0.1 C0.2.1 dX10_frogAtRank_65 rfl (lv_at hl 1 rfl) ?_
                refine r_get (C := RX10) (T := TX10) (N9 := 20) (ci := 11) C0 C1 hI iX10 rfl 0 5 (Nat.le_of_ble_eq_true rfl) (by decide) ((fun _ => rfl) _) rfl rfl w_1687 dX10_frogAtRank_66 ?_
                refine lv_bipush (v := 17) C0.1 C0.2.1 dX10_frogAtRank_69 (by decide) ?_
                refine lv_iload C0.1 C0.2.1 dX10_frogAtRank_71 (lv_at hl 5 rfl) ?_
                refine lv_iadd C0.1 C0.2.1 dX10_frogAtRank_73 ?_
                obtain ⟨h_7_22_11, hf⟩ := chk_some hf
                refine r_iald C0 C1 hI 1 (Nat.le_of_ble_eq_true rfl) (fun _ => rfl) h_7_22_11 dX10_frogAtRank_74 ?_
                refine lv_aload_n C0.1 C0.2.1 dX10_frogAtRank_75 rfl (lv_at hl 1 rfl) ?_
                refine r_get (C := RX10) (T := TX10) (N9 := 20) (ci := 11) C0 C1 hI iX10 rfl 0 5 (Nat.le_of_ble_eq_true rfl) (by decide) ((fun _ => rfl) _) rfl rfl w_1687 dX10_frogAtRank_76 ?_
                refine lv_bipush (v := 17) C0.1 C0.2.1 dX10_frogAtRank_79 (by decide) ?_
                refine lv_iload_n C0.1 C0.2.1 dX10_frogAtRank_81 rfl (lv_at hl 3 rfl) ?_
                refine lv_iadd C0.1 C0.2.1 dX10_frogAtRank_82 ?_
                obtain ⟨h_7_22_12, hf⟩ := chk_some hf
                refine r_iald C0 C1 hI 1 (Nat.le_of_ble_eq_true rfl) (fun _ => rfl) h_7_22_12 dX10_frogAtRank_83 ?_
                refine lv_isub C0.1 C0.2.1 dX10_frogAtRank_84 ?_
                refine lv_topi (fun x5_7_22_13 e_7_22_14 => ?_)
                have hf := lt_at e_7_22_14 hf
                refine lv_istore (lv' := [(5, .int x5_7_22_13), (0, .ref (b + 0)), (1, .int x1_22), (2, .int x2_22), (3, .int x3_22), (4, .int x4_22)]) C0.1 C0.2.1 dX10_frogAtRank_85 hl (by decide) rfl (fun ls hl => ?_)
                refine lv_iload_n C0.1 C0.2.1 dX10_frogAtRank_87 rfl (lv_at hl 4 rfl) ?_
                refine lv_iload C0.1 C0.2.1 dX10_frogAtRank_88 (lv_at hl 0 rfl) ?_
                refine lv_if_gt (tgt := 104) C0.1 C0.2.1 dX10_frogAtRank_90 (by decide) (fun c_7_22_15 => ?_) (fun c_7_22_15 => ?_)
                · have hf := (if_pos c_7_22_15).symm.trans hf
                  refine lv_iconst (v := 1) C0.1 C0.2.1 dX10_frogAtRank_104 (by decide) ?_
                  refine lv_goto (tgt := 109) C0.1 C0.2.1 dX10_frogAtRank_105 (by decide) ?_
                  refine lv_iadd C0.1 C0.2.1 dX10_frogAtRank_109 ?_
                  refine lv_topi (fun x3_7_22_16 e_7_22_17 => ?_)
                  have hf := lt_at e_7_22_17 hf
                  refine lv_istore_n (lv' := [(3, .int x3_7_22_16), (5, .int x5_7_22_13), (0, .ref (b + 0)), (1, .int x1_22), (2, .int x2_22), (4, .int x4_22)]) C0.1 C0.2.1 dX10_frogAtRank_110 rfl hl (by decide) rfl (fun ls hl => ?_)
                  obtain ⟨x4_7_22_18, e_7_22_19⟩ : ∃ z : Int32, z = x4_22 + 1 := ⟨_, rfl⟩
                  have hf := lt_at e_7_22_19 hf
                  refine lv_iinc (v := x4_7_22_18) (lv' := [(4, .int x4_7_22_18), (3, .int x3_7_22_16), (5, .int x5_7_22_13), (0, .ref (b + 0)), (1, .int x1_22), (2, .int x2_22)]) C0.1 C0.2.1 dX10_frogAtRank_111 hl (k := 5) rfl (by rw [e_7_22_19]; rfl) (by decide) rfl (fun ls hl => ?_)
                  refine lv_goto (tgt := 22) C0.1 C0.2.1 dX10_frogAtRank_114 (by decide) ?_
                  exact ih22 x1_22 x2_22 x3_7_22_16 x4_7_22_18 M hf H locs ls hI (lv_sub hl [3, 4, 5, 1, 0] rfl)
                · have hf := (if_neg c_7_22_15).symm.trans hf
                  refine lv_iload C0.1 C0.2.1 dX10_frogAtRank_93 (lv_at hl 0 rfl) ?_
                  refine lv_if_ne (tgt := 108) C0.1 C0.2.1 dX10_frogAtRank_95 (by decide) (fun c_7_22_20 => ?_) (fun c_7_22_20 => ?_)
                  · have hf := (if_neg c_7_22_20).symm.trans hf
                    refine lv_iconst (v := 0) C0.1 C0.2.1 dX10_frogAtRank_108 (by decide) ?_
                    refine lv_iadd C0.1 C0.2.1 dX10_frogAtRank_109 ?_
                    refine lv_topi (fun x3_7_22_21 e_7_22_22 => ?_)
                    have hf := lt_at e_7_22_22 hf
                    refine lv_istore_n (lv' := [(3, .int x3_7_22_21), (5, .int x5_7_22_13), (0, .ref (b + 0)), (1, .int x1_22), (2, .int x2_22), (4, .int x4_22)]) C0.1 C0.2.1 dX10_frogAtRank_110 rfl hl (by decide) rfl (fun ls hl => ?_)
                    obtain ⟨x4_7_22_23, e_7_22_24⟩ : ∃ z : Int32, z = x4_22 + 1 := ⟨_, rfl⟩
                    have hf := lt_at e_7_22_24 hf
                    refine lv_iinc (v := x4_7_22_23) (lv' := [(4, .int x4_7_22_23), (3, .int x3_7_22_21), (5, .int x5_7_22_13), (0, .ref (b + 0)), (1, .int x1_22), (2, .int x2_22)]) C0.1 C0.2.1 dX10_frogAtRank_111 hl (k := 5) rfl (by rw [e_7_22_24]; rfl) (by decide) rfl (fun ls hl => ?_)
                    refine lv_goto (tgt := 22) C0.1 C0.2.1 dX10_frogAtRank_114 (by decide) ?_
                    exact ih22 x1_22 x2_22 x3_7_22_21 x4_7_22_23 M hf H locs ls hI (lv_sub hl [3, 4, 5, 1, 0] rfl)
                  · have hf := (if_pos c_7_22_20).symm.trans hf
                    refine lv_iload C0.1 C0.2.1 dX10_frogAtRank_98 (lv_at hl 5 rfl) ?_
                    refine lv_iload_n C0.1 C0.2.1 dX10_frogAtRank_100 rfl (lv_at hl 3 rfl) ?_
                    refine lv_icmp_ge (tgt := 108) C0.1 C0.2.1 dX10_frogAtRank_101 (by decide) (fun c_7_22_25 => ?_) (fun c_7_22_25 => ?_)
                    · have hf := (if_pos c_7_22_25).symm.trans hf
                      refine lv_iconst (v := 0) C0.1 C0.2.1 dX10_frogAtRank_108 (by decide) ?_
                      refine lv_iadd C0.1 C0.2.1 dX10_frogAtRank_109 ?_
                      refine lv_topi (fun x3_7_22_26 e_7_22_27 => ?_)
                      have hf := lt_at e_7_22_27 hf
                      refine lv_istore_n (lv' := [(3, .int x3_7_22_26), (5, .int x5_7_22_13), (0, .ref (b + 0)), (1, .int x1_22), (2, .int x2_22), (4, .int x4_22)]) C0.1 C0.2.1 dX10_frogAtRank_110 rfl hl (by decide) rfl (fun ls hl => ?_)
                      obtain ⟨x4_7_22_28, e_7_22_29⟩ : ∃ z : Int32, z = x4_22 + 1 := ⟨_, rfl⟩
                      have hf := lt_at e_7_22_29 hf
                      refine lv_iinc (v := x4_7_22_28) (lv' := [(4, .int x4_7_22_28), (3, .int x3_7_22_26), (5, .int x5_7_22_13), (0, .ref (b + 0)), (1, .int x1_22), (2, .int x2_22)]) C0.1 C0.2.1 dX10_frogAtRank_111 hl (k := 5) rfl (by rw [e_7_22_29]; rfl) (by decide) rfl (fun ls hl => ?_)
                      refine lv_goto (tgt := 22) C0.1 C0.2.1 dX10_frogAtRank_114 (by decide) ?_
                      exact ih22 x1_22 x2_22 x3_7_22_26 x4_7_22_28 M hf H locs ls hI (lv_sub hl [3, 4, 5, 1, 0] rfl)
                    · have hf := (if_neg c_7_22_25).symm.trans hf
                      refine lv_iconst (v := 1) C0.1 C0.2.1 dX10_frogAtRank_104 (by decide) ?_
                      refine lv_goto (tgt := 109) C0.1 C0.2.1 dX10_frogAtRank_105 (by decide) ?_
                      refine lv_iadd C0.1 C0.2.1 dX10_frogAtRank_109 ?_
                      refine lv_topi (fun x3_7_22_30 e_7_22_31 => ?_)
                      have hf := lt_at e_7_22_31 hf
                      refine lv_istore_n (lv' := [(3, .int x3_7_22_30), (5, .int x5_7_22_13), (0, .ref (b + 0)), (1, .int x1_22), (2, .int x2_22), (4, .int x4_22)]) C0.1 C0.2.1 dX10_frogAtRank_110 rfl hl (by decide) rfl (fun ls hl => ?_)
                      obtain ⟨x4_7_22_32, e_7_22_33⟩ : ∃ z : Int32, z = x4_22 + 1 := ⟨_, rfl⟩
                      have hf := lt_at e_7_22_33 hf
                      refine lv_iinc (v := x4_7_22_32) (lv' := [(4, .int x4_7_22_32), (3, .int x3_7_22_30), (5, .int x5_7_22_13), (0, .ref (b + 0)), (1, .int x1_22), (2, .int x2_22)]) C0.1 C0.2.1 dX10_frogAtRank_111 hl (k := 5) rfl (by rw [e_7_22_33]; rfl) (by decide) rfl (fun ls hl => ?_)
                      refine lv_goto (tgt := 22) C0.1 C0.2.1 dX10_frogAtRank_114 (by decide) ?_
                      exact ih22 x1_22 x2_22 x3_7_22_30 x4_7_22_32 M hf H locs ls hI (lv_sub hl [3, 4, 5, 1, 0] rfl)
              · have hf := (if_neg c_7_22_10).symm.trans hf
                refine lv_iload C0.1 C0.2.1 dX10_frogAtRank_60 (lv_at hl 0 rfl) ?_
                refine lv_goto (tgt := 85) C0.1 C0.2.1 dX10_frogAtRank_62 (by decide) ?_
                refine lv_istore (lv' := [(5, .int x5_7_22_8), (0, .ref (b + 0)), (1, .int x1_22), (2, .int x2_22), (3, .int x3_22), (4, .int x4_22)]) C0.1 C0.2.1 dX10_frogAtRank_85 hl (by decide) rfl (fun ls hl => ?_)
                refine lv_iload_n C0.1 C0.2.1 dX10_frogAtRank_87 rfl (lv_at hl 4 rfl) ?_
                refine lv_iload C0.1 C0.2.1 dX10_frogAtRank_88 (lv_at hl 0 rfl) ?_
                refine lv_if_gt (tgt := 104) C0.1 C0.2.1 dX10_frogAtRank_90 (by decide) (fun c_7_22_34 => ?_) (fun c_7_22_34 => ?_)
                · have hf := (if_pos c_7_22_34).symm.trans hf
                  refine lv_iconst (v := 1) C0.1 C0.2.1 dX10_frogAtRank_104 (by decide) ?_
                  refine lv_goto (tgt := 109) C0.1 C0.2.1 dX10_frogAtRank_105 (by decide) ?_
                  refine lv_iadd C0.1 C0.2.1 dX10_frogAtRank_109 ?_
                  refine lv_topi (fun x3_7_22_35 e_7_22_36 => ?_)
                  have hf := lt_at e_7_22_36 hf
                  refine lv_istore_n (lv' := [(3, .int x3_7_22_35), (5, .int x5_7_22_8), (0, .ref (b + 0)), (1, .int x1_22), (2, .int x2_22), (4, .int x4_22)]) C0.1 C0.2.1 dX10_frogAtRank_110 rfl hl (by decide) rfl (fun ls hl => ?_)
                  obtain ⟨x4_7_22_37, e_7_22_38⟩ : ∃ z : Int32, z = x4_22 + 1 := ⟨_, rfl⟩
                  have hf := lt_at e_7_22_38 hf
                  refine lv_iinc (v := x4_7_22_37) (lv' := [(4, .int x4_7_22_37), (3, .int x3_7_22_35), (5, .int x5_7_22_8), (0, .ref (b + 0)), (1, .int x1_22), (2, .int x2_22)]) C0.1 C0.2.1 dX10_frogAtRank_111 hl (k := 5) rfl (by rw [e_7_22_38]; rfl) (by decide) rfl (fun ls hl => ?_)
                  refine lv_goto (tgt := 22) C0.1 C0.2.1 dX10_frogAtRank_114 (by decide) ?_
                  exact ih22 x1_22 x2_22 x3_7_22_35 x4_7_22_37 M hf H locs ls hI (lv_sub hl [3, 4, 5, 1, 0] rfl)
                · have hf := (if_neg c_7_22_34).symm.trans hf
                  refine lv_iload C0.1 C0.2.1 dX10_frogAtRank_93 (lv_at hl 0 rfl) ?_
                  refine lv_if_ne (tgt := 108) C0.1 C0.2.1 dX10_frogAtRank_95 (by decide) (fun c_7_22_39 => ?_) (fun c_7_22_39 => ?_)
                  · have hf := (if_neg c_7_22_39).symm.trans hf
                    refine lv_iconst (v := 0) C0.1 C0.2.1 dX10_frogAtRank_108 (by decide) ?_
                    refine lv_iadd C0.1 C0.2.1 dX10_frogAtRank_109 ?_
                    refine lv_topi (fun x3_7_22_40 e_7_22_41 => ?_)
                    have hf := lt_at e_7_22_41 hf
                    refine lv_istore_n (lv' := [(3, .int x3_7_22_40), (5, .int x5_7_22_8), (0, .ref (b + 0)), (1, .int x1_22), (2, .int x2_22), (4, .int x4_22)]) C0.1 C0.2.1 dX10_frogAtRank_110 rfl hl (by decide) rfl (fun ls hl => ?_)
                    obtain ⟨x4_7_22_42, e_7_22_43⟩ : ∃ z : Int32, z = x4_22 + 1 := ⟨_, rfl⟩
                    have hf := lt_at e_7_22_43 hf
                    refine lv_iinc (v := x4_7_22_42) (lv' := [(4, .int x4_7_22_42), (3, .int x3_7_22_40), (5, .int x5_7_22_8), (0, .ref (b + 0)), (1, .int x1_22), (2, .int x2_22)]) C0.1 C0.2.1 dX10_frogAtRank_111 hl (k := 5) rfl (by rw [e_7_22_43]; rfl) (by decide) rfl (fun ls hl => ?_)
                    refine lv_goto (tgt := 22) C0.1 C0.2.1 dX10_frogAtRank_114 (by decide) ?_
                    exact ih22 x1_22 x2_22 x3_7_22_40 x4_7_22_42 M hf H locs ls hI (lv_sub hl [3, 4, 5, 1, 0] rfl)
                  · have hf := (if_pos c_7_22_39).symm.trans hf
                    refine lv_iload C0.1 C0.2.1 dX10_frogAtRank_98 (lv_at hl 5 rfl) ?_
                    refine lv_iload_n C0.1 C0.2.1 dX10_frogAtRank_100 rfl (lv_at hl 3 rfl) ?_
                    refine lv_icmp_ge (tgt := 108) C0.1 C0.2.1 dX10_frogAtRank_101 (by decide) (fun c_7_22_44 => ?_) (fun c_7_22_44 => ?_)
                    · have hf := (if_pos c_7_22_44).symm.trans hf
                      refine lv_iconst (v := 0) C0.1 C0.2.1 dX10_frogAtRank_108 (by decide) ?_
                      refine lv_iadd C0.1 C0.2.1 dX10_frogAtRank_109 ?_
                      refine lv_topi (fun x3_7_22_45 e_7_22_46 => ?_)
                      have hf := lt_at e_7_22_46 hf
                      refine lv_istore_n (lv' := [(3, .int x3_7_22_45), (5, .int x5_7_22_8), (0, .ref (b + 0)), (1, .int x1_22), (2, .int x2_22), (4, .int x4_22)]) C0.1 C0.2.1 dX10_frogAtRank_110 rfl hl (by decide) rfl (fun ls hl => ?_)
                      obtain ⟨x4_7_22_47, e_7_22_48⟩ : ∃ z : Int32, z = x4_22 + 1 := ⟨_, rfl⟩
                      have hf := lt_at e_7_22_48 hf
                      refine lv_iinc (v := x4_7_22_47) (lv' := [(4, .int x4_7_22_47), (3, .int x3_7_22_45), (5, .int x5_7_22_8), (0, .ref (b + 0)), (1, .int x1_22), (2, .int x2_22)]) C0.1 C0.2.1 dX10_frogAtRank_111 hl (k := 5) rfl (by rw [e_7_22_48]; rfl) (by decide) rfl (fun ls hl => ?_)
                      refine lv_goto (tgt := 22) C0.1 C0.2.1 dX10_frogAtRank_114 (by decide) ?_
                      exact ih22 x1_22 x2_22 x3_7_22_45 x4_7_22_47 M hf H locs ls hI (lv_sub hl [3, 4, 5, 1, 0] rfl)
                    · have hf := (if_neg c_7_22_44).symm.trans hf
                      refine lv_iconst (v := 1) C0.1 C0.2.1 dX10_frogAtRank_104 (by decide) ?_
                      refine lv_goto (tgt := 109) C0.1 C0.2.1 dX10_frogAtRank_105 (by decide) ?_
                      refine lv_iadd C0.1 C0.2.1 dX10_frogAtRank_109 ?_
                      refine lv_topi (fun x3_7_22_49 e_7_22_50 => ?_)
                      have hf := lt_at e_7_22_50 hf
                      refine lv_istore_n (lv' := [(3, .int x3_7_22_49), (5, .int x5_7_22_8), (0, .ref (b + 0)), (1, .int x1_22), (2, .int x2_22), (4, .int x4_22)]) C0.1 C0.2.1 dX10_frogAtRank_110 rfl hl (by decide) rfl (fun ls hl => ?_)
                      obtain ⟨x4_7_22_51, e_7_22_52⟩ : ∃ z : Int32, z = x4_22 + 1 := ⟨_, rfl⟩
                      have hf := lt_at e_7_22_52 hf
                      refine lv_iinc (v := x4_7_22_51) (lv' := [(4, .int x4_7_22_51), (3, .int x3_7_22_49), (5, .int x5_7_22_8), (0, .ref (b + 0)), (1, .int x1_22), (2, .int x2_22)]) C0.1 C0.2.1 dX10_frogAtRank_111 hl (k := 5) rfl (by rw [e_7_22_52]; rfl) (by decide) rfl (fun ls hl => ?_)
                      refine lv_goto (tgt := 22) C0.1 C0.2.1 dX10_frogAtRank_114 (by decide) ?_
                      exact ih22 x1_22 x2_22 x3_7_22_49 x4_7_22_51 M hf H locs ls hI (lv_sub hl [3, 4, 5, 1, 0] rfl)
        exact L22 _ ih7 n x1_7 x2_7 0 0 M hf H locs ls hI (lv_sub hl [2, 3, 4, 1, 0] rfl)
  exact L7 n x1 0 M_1 hf H locs ls hI (lv_sub hl [1, 2, 0] rfl)
