def F_J0_coder_7d493_S (n : Nat) (j : Nat) (M : Mem) : Option Int32 :=
  (if (1 : Int32) = 0 then some 1 else some (0 : Int32))
theorem hd_J0_coder_7d493 : yJ0_coder_7d493.cls ≠ "java/lang/invoke/MethodHandle" ∧ yJ0_coder_7d493.cls ≠ "java/lang/invoke/VarHandle" ∧ (parseMethodDescriptor yJ0_coder_7d493.desc).map (fun d => d.parameters.length) = some 0 := ⟨by decide +kernel, by decide +kernel, by decide +kernel⟩
set_option maxHeartbeats 4000000 in
set_option maxRecDepth 100000 in
theorem c_J0_coder_7d493_S (l : Launch) (g : GG) (X : va_W) (r : Nat → Nat) (b : Nat → Nat) (sz n : Nat) (M : Mem) (j : Nat) (hj : j < 11) {r0 : Int32} (hf : F_J0_coder_7d493_S n j M = some r0) : Met l yJ0_coder_7d493 (.code yJ0_coder_7d493 cJ0_coder_7d493 1 (some .byte) :: LWg) (rmD 0 0 0) (va_Pc [.ref (g.2.2 3 j)] (PreP g X 372 (shI g r b) b sz M)) (Qi g X 372 (shI g r b) b sz r0 M) 0 0 (AA X b 372 sz) := by
  refine met_go (by decide +kernel) rfl (Nat.le_of_ble_eq_true rfl) ?_
  intro p e s m below meth c ls H locs C0 C1 hr hlocks hnm hsz hl hI
  subst hsz
  have hl : lv_has ls 1 [(0, .ref (g.2.2 3 j))] := hl
  unfold F_J0_coder_7d493_S at hf
  refine r_cs C0 C1 hI w_1089 dJ0_coder_7d493_0 ?_
  refine lv_if_eq (tgt := 13) C0.1 C0.2.1 dJ0_coder_7d493_3 (by decide) (fun c_1 => ?_) (fun c_1 => ?_)
  · have hf := (if_pos c_1).symm.trans hf
    refine lv_iconst (v := 1) C0.1 C0.2.1 dJ0_coder_7d493_13 (by decide) ?_
    exact ee_z C0 hI hr hlocks rfl hf dJ0_coder_7d493_14
  · have hf := (if_neg c_1).symm.trans hf
    refine lv_aload_n C0.1 C0.2.1 dJ0_coder_7d493_6 rfl (lv_at hl 0 rfl) ?_
    refine r_scod C0 C1 hI hj w_1269 dJ0_coder_7d493_7 ?_
    refine lv_goto (tgt := 14) C0.1 C0.2.1 dJ0_coder_7d493_10 (by decide) ?_
    exact ee_z C0 hI hr hlocks rfl hf dJ0_coder_7d493_14

def F_J0_isLatin1_aae02_S (n : Nat) (j : Nat) (M : Mem) : Option Int32 :=
  (if (1 : Int32) = 0 then some 0 else (if (0 : Int32) = 0 then some 1 else some 0))
theorem hd_J0_isLatin1_aae02 : yJ0_isLatin1_aae02.cls ≠ "java/lang/invoke/MethodHandle" ∧ yJ0_isLatin1_aae02.cls ≠ "java/lang/invoke/VarHandle" ∧ (parseMethodDescriptor yJ0_isLatin1_aae02.desc).map (fun d => d.parameters.length) = some 0 := ⟨by decide +kernel, by decide +kernel, by decide +kernel⟩
set_option maxHeartbeats 4000000 in
set_option maxRecDepth 100000 in
theorem c_J0_isLatin1_aae02_S (l : Launch) (g : GG) (X : va_W) (r : Nat → Nat) (b : Nat → Nat) (sz n : Nat) (M : Mem) (j : Nat) (hj : j < 11) {r0 : Int32} (hf : F_J0_isLatin1_aae02_S n j M = some r0) : Met l yJ0_isLatin1_aae02 (.code yJ0_isLatin1_aae02 cJ0_isLatin1_aae02 1 (some .boolean) :: LWg) (rmD 0 0 0) (va_Pc [.ref (g.2.2 3 j)] (PreP g X 372 (shI g r b) b sz M)) (Qi g X 372 (shI g r b) b sz r0 M) 0 0 (AA X b 372 sz) := by
  refine met_go (by decide +kernel) rfl (Nat.le_of_ble_eq_true rfl) ?_
  intro p e s m below meth c ls H locs C0 C1 hr hlocks hnm hsz hl hI
  subst hsz
  have hl : lv_has ls 1 [(0, .ref (g.2.2 3 j))] := hl
  unfold F_J0_isLatin1_aae02_S at hf
  refine r_cs C0 C1 hI w_1089 dJ0_isLatin1_aae02_0 ?_
  refine lv_if_eq (tgt := 17) C0.1 C0.2.1 dJ0_isLatin1_aae02_3 (by decide) (fun c_1 => ?_) (fun c_1 => ?_)
  · have hf := (if_pos c_1).symm.trans hf
    refine lv_iconst (v := 0) C0.1 C0.2.1 dJ0_isLatin1_aae02_17 (by decide) ?_
    exact ee_z C0 hI hr hlocks rfl hf dJ0_isLatin1_aae02_18
  · have hf := (if_neg c_1).symm.trans hf
    refine lv_aload_n C0.1 C0.2.1 dJ0_isLatin1_aae02_6 rfl (lv_at hl 0 rfl) ?_
    refine r_scod C0 C1 hI hj w_1269 dJ0_isLatin1_aae02_7 ?_
    refine lv_if_ne (tgt := 17) C0.1 C0.2.1 dJ0_isLatin1_aae02_10 (by decide) (fun c_2 => ?_) (fun c_2 => ?_)
    · have hf := (if_neg c_2).symm.trans hf
      refine lv_iconst (v := 0) C0.1 C0.2.1 dJ0_isLatin1_aae02_17 (by decide) ?_
      exact ee_z C0 hI hr hlocks rfl hf dJ0_isLatin1_aae02_18
    · have hf := (if_pos c_2).symm.trans hf
      refine lv_iconst (v := 1) C0.1 C0.2.1 dJ0_isLatin1_aae02_13 (by decide) ?_
      refine lv_goto (tgt := 18) C0.1 C0.2.1 dJ0_isLatin1_aae02_14 (by decide) ?_
      exact ee_z C0 hI hr hlocks rfl hf dJ0_isLatin1_aae02_18

def F_J0_length_8abf5_S (n : Nat) (j : Nat) (M : Mem) : Option Int32 :=
  ob (F_J0_coder_7d493_S n j M) (fun r_2 => some ((nI (fLenl.getD j 0)) >>> (r_2 &&& 31)))
theorem hd_J0_length_8abf5 : yJ0_length_8abf5.cls ≠ "java/lang/invoke/MethodHandle" ∧ yJ0_length_8abf5.cls ≠ "java/lang/invoke/VarHandle" ∧ (parseMethodDescriptor yJ0_length_8abf5.desc).map (fun d => d.parameters.length) = some 0 := ⟨by decide +kernel, by decide +kernel, by decide +kernel⟩
set_option maxHeartbeats 4000000 in
set_option maxRecDepth 100000 in
theorem c_J0_length_8abf5_S (l : Launch) (g : GG) (X : va_W) (r : Nat → Nat) (b : Nat → Nat) (sz n : Nat) (M : Mem) (j : Nat) (hj : j < 11) {r0 : Int32} (hf : F_J0_length_8abf5_S n j M = some r0) : Met l yJ0_length_8abf5 (.code yJ0_length_8abf5 cJ0_length_8abf5 1 (some .int) :: LWg) (rmD 1 0 0) (va_Pc [.ref (g.2.2 3 j)] (PreP g X 372 (shI g r b) b sz M)) (Qi g X 372 (shI g r b) b sz r0 M) 0 0 (AA X b 372 sz) := by
  refine met_go (by decide +kernel) rfl (Nat.le_of_ble_eq_true rfl) ?_
  intro p e s m below meth c ls H locs C0 C1 hr hlocks hnm hsz hl hI
  subst hsz
  have hl : lv_has ls 1 [(0, .ref (g.2.2 3 j))] := hl
  unfold F_J0_length_8abf5_S at hf
  refine lv_aload_n C0.1 C0.2.1 dJ0_length_8abf5_0 rfl (lv_at hl 0 rfl) ?_
  refine r_sval C0 C1 hI hj w_1268 dJ0_length_8abf5_1 ?_
  refine r_flen C0 C1 hI hj dJ0_length_8abf5_4 ?_
  refine lv_aload_n C0.1 C0.2.1 dJ0_length_8abf5_5 rfl (lv_at hl 0 rfl) ?_
  obtain ⟨r_2, h_1, hf⟩ := ob_some hf
  refine k_i C1 hI (q_St C0 C1 hI hj (c_J0_coder_7d493_S l g X r b H.size n M j hj h_1) w_1085 w_1086 w_1087 w_82 w_1088 ⟨rfl, rfl⟩ hd_J0_coder_7d493 ⟨Nat.le_of_ble_eq_true rfl, Nat.le_of_ble_eq_true rfl⟩ rfl rfl hl.1 rfl (Nat.le_of_ble_eq_true rfl) dJ0_length_8abf5_6 ⟨Nat.le_of_ble_eq_true rfl, Nat.le_of_ble_eq_true rfl⟩) (fun H locs hI => ?_)
  refine lv_ishr C0.1 C0.2.1 dJ0_length_8abf5_9 ?_
  exact ee_i C0 hI hr hlocks hf dJ0_length_8abf5_10

def F_J1_charAt_3b067_S (n : Nat) (j : Nat) (x1 : Int32) (M : Mem) : Option Int32 :=
  ob (F_J0_checkIndex_df160 n x1 (nI (fLenl.getD j 0)) M) (fun u_2 => chk (inb x1 (fLenl.getD j 0)) (some (((((fBytl.getD j []).getD (ix x1) 0) &&& 255).toUInt32 % 65536).toInt32)))
theorem hd_J1_charAt_3b067 : yJ1_charAt_3b067.cls ≠ "java/lang/invoke/MethodHandle" ∧ yJ1_charAt_3b067.cls ≠ "java/lang/invoke/VarHandle" ∧ (parseMethodDescriptor yJ1_charAt_3b067.desc).map (fun d => d.parameters.length) = some 2 := ⟨by decide +kernel, by decide +kernel, by decide +kernel⟩
set_option maxHeartbeats 4000000 in
set_option maxRecDepth 100000 in
theorem c_J1_charAt_3b067_S (l : Launch) (g : GG) (X : va_W) (r : Nat → Nat) (b : Nat → Nat) (sz n : Nat) (M : Mem) (j : Nat) (hj : j < 11) (x1 : Int32) {r0 : Int32} (hf : F_J1_charAt_3b067_S n j x1 M = some r0) : Met l yJ1_charAt_3b067 (.code yJ1_charAt_3b067 cJ1_charAt_3b067 2 (some .char) :: LWg) (rmD 2 0 0) (va_Pc [.ref (g.2.2 4 j), .int x1] (PreP g X 372 (shI g r b) b sz M)) (Qi g X 372 (shI g r b) b sz r0 M) 0 0 (AA X b 372 sz) := by
  refine met_go (by decide +kernel) rfl (Nat.le_of_ble_eq_true rfl) ?_
  intro p e s m below meth c ls H locs C0 C1 hr hlocks hnm hsz hl hI
  subst hsz
  have hl : lv_has ls 2 [(0, .ref (g.2.2 4 j)), (1, .int x1)] := hl
  unfold F_J1_charAt_3b067_S at hf
  refine lv_iload_n C0.1 C0.2.1 dJ1_charAt_3b067_0 rfl (lv_at hl 1 rfl) ?_
  refine lv_aload_n C0.1 C0.2.1 dJ1_charAt_3b067_1 rfl (lv_at hl 0 rfl) ?_
  refine r_flen C0 C1 hI hj dJ1_charAt_3b067_2 ?_
  obtain ⟨u_2, h_1, hf⟩ := ob_some hf
  refine k_v C1 hI (q_S C0 C1 hI (c_J0_checkIndex_df160 l g X r b H.size n M x1 (nI (fLenl.getD j 0)) h_1) w_1101 w_1055 w_82 w_1056 ⟨rfl, rfl⟩ hd_J0_checkIndex_df160 ⟨Nat.le_of_ble_eq_true rfl, Nat.le_of_ble_eq_true rfl⟩ rfl hl.1 rfl (Nat.le_of_ble_eq_true rfl) dJ1_charAt_3b067_3 ⟨Nat.le_of_ble_eq_true rfl, Nat.le_of_ble_eq_true rfl⟩) (fun H locs hI => ?_)
  refine lv_aload_n C0.1 C0.2.1 dJ1_charAt_3b067_6 rfl (lv_at hl 0 rfl) ?_
  refine lv_iload_n C0.1 C0.2.1 dJ1_charAt_3b067_7 rfl (lv_at hl 1 rfl) ?_
  obtain ⟨h_3, hf⟩ := chk_some hf
  refine r_fbld C0 C1 hI hj h_3 dJ1_charAt_3b067_8 ?_
  refine lv_sipush (v := 255) C0.1 C0.2.1 dJ1_charAt_3b067_9 (by decide) ?_
  refine lv_iand C0.1 C0.2.1 dJ1_charAt_3b067_12 ?_
  refine lv_i2c C0.1 C0.2.1 dJ1_charAt_3b067_13 rfl ?_
  exact ee_z C0 hI hr hlocks (pk_nc _) hf dJ1_charAt_3b067_14

def F_J0_charAt_5068e_S (n : Nat) (j : Nat) (x1 : Int32) (M : Mem) : Option Int32 :=
  ob (F_J0_isLatin1_aae02_S n j M) (fun r_2 => (if r_2 = 0 then none else ob (F_J1_charAt_3b067_S n j x1 M) (fun r_5 => chk (isC r_5) (some r_5))))
theorem hd_J0_charAt_5068e : yJ0_charAt_5068e.cls ≠ "java/lang/invoke/MethodHandle" ∧ yJ0_charAt_5068e.cls ≠ "java/lang/invoke/VarHandle" ∧ (parseMethodDescriptor yJ0_charAt_5068e.desc).map (fun d => d.parameters.length) = some 1 := ⟨by decide +kernel, by decide +kernel, by decide +kernel⟩
set_option maxHeartbeats 4000000 in
set_option maxRecDepth 100000 in
theorem c_J0_charAt_5068e_S (l : Launch) (g : GG) (X : va_W) (r : Nat → Nat) (b : Nat → Nat) (sz n : Nat) (M : Mem) (j : Nat) (hj : j < 11) (x1 : Int32) {r0 : Int32} (hf : F_J0_charAt_5068e_S n j x1 M = some r0) : Met l yJ0_charAt_5068e (.code yJ0_charAt_5068e cJ0_charAt_5068e 2 (some .char) :: LWg) (rmD 3 0 0) (va_Pc [.ref (g.2.2 3 j), .int x1] (PreP g X 372 (shI g r b) b sz M)) (Qi g X 372 (shI g r b) b sz r0 M) 0 0 (AA X b 372 sz) := by
  refine met_go (by decide +kernel) rfl (Nat.le_of_ble_eq_true rfl) ?_
  intro p e s m below meth c ls H locs C0 C1 hr hlocks hnm hsz hl hI
  subst hsz
  have hl : lv_has ls 2 [(0, .ref (g.2.2 3 j)), (1, .int x1)] := hl
  unfold F_J0_charAt_5068e_S at hf
  refine lv_aload_n C0.1 C0.2.1 dJ0_charAt_5068e_0 rfl (lv_at hl 0 rfl) ?_
  obtain ⟨r_2, h_1, hf⟩ := ob_some hf
  refine k_i C1 hI (q_St C0 C1 hI hj (c_J0_isLatin1_aae02_S l g X r b H.size n M j hj h_1) w_1094 w_1095 w_1096 w_82 w_1097 ⟨rfl, rfl⟩ hd_J0_isLatin1_aae02 ⟨Nat.le_of_ble_eq_true rfl, Nat.le_of_ble_eq_true rfl⟩ rfl rfl hl.1 rfl (Nat.le_of_ble_eq_true rfl) dJ0_charAt_5068e_1 ⟨Nat.le_of_ble_eq_true rfl, Nat.le_of_ble_eq_true rfl⟩) (fun H locs hI => ?_)
  refine lv_if_eq (tgt := 16) C0.1 C0.2.1 dJ0_charAt_5068e_4 (by decide) (fun c_3 => ?_) (fun c_3 => ?_)
  · have hf := (if_pos c_3).symm.trans hf
    exact nomatch hf
  · have hf := (if_neg c_3).symm.trans hf
    refine lv_aload_n C0.1 C0.2.1 dJ0_charAt_5068e_7 rfl (lv_at hl 0 rfl) ?_
    refine r_sval C0 C1 hI hj w_1268 dJ0_charAt_5068e_8 ?_
    refine lv_iload_n C0.1 C0.2.1 dJ0_charAt_5068e_11 rfl (lv_at hl 1 rfl) ?_
    obtain ⟨r_5, h_4, hf⟩ := ob_some hf
    refine k_i C1 hI (q_S C0 C1 hI (c_J1_charAt_3b067_S l g X r b H.size n M j hj x1 h_4) w_1098 w_1099 w_90 w_1100 ⟨rfl, rfl⟩ hd_J1_charAt_3b067 ⟨Nat.le_of_ble_eq_true rfl, Nat.le_of_ble_eq_true rfl⟩ rfl hl.1 rfl (Nat.le_of_ble_eq_true rfl) dJ0_charAt_5068e_12 ⟨Nat.le_of_ble_eq_true rfl, Nat.le_of_ble_eq_true rfl⟩) (fun H locs hI => ?_)
    obtain ⟨h_6, hf⟩ := chk_some hf
    exact ee_z C0 hI hr hlocks (isC_n h_6) hf dJ0_charAt_5068e_15

def F_X4_charAtPosition (n : Nat) (T : Mem) (a : Nat) (M : Mem) : Option Int32 :=
  ob (F_J4_length_8abf5_t n T M) (fun r_2 => (if r_2 ≤ (M a 2) then some 0 else ob (F_J4_charAt_5068e_t n T (M a 2) M) (fun r_5 => chk (isC r_5) (some r_5))))
theorem hd_X4_charAtPosition : yX4_charAtPosition.cls ≠ "java/lang/invoke/MethodHandle" ∧ yX4_charAtPosition.cls ≠ "java/lang/invoke/VarHandle" ∧ (parseMethodDescriptor yX4_charAtPosition.desc).map (fun d => d.parameters.length) = some 1 := ⟨by decide +kernel, by decide +kernel, by decide +kernel⟩
set_option maxHeartbeats 4000000 in
set_option maxRecDepth 100000 in
theorem c_X4_charAtPosition (l : Launch) (g : GG) (X : va_W) (r : Nat → Nat) (b : Nat → Nat) (sz n : Nat) (M : Mem) (T : Mem) (a : Nat) (ha : kdI a = 9) {r0 : Int32} (hf : F_X4_charAtPosition n T a M = some r0) : Met l yX4_charAtPosition (.code yX4_charAtPosition cX4_charAtPosition 2 (some .char) :: LWg) (rmD 4 0 0) (va_Pc [.ref (b a), .ref (b 370)] (PreP g (xb g r T ++ X) 372 (shI g r b) b sz M)) (Qi g (xb g r T ++ X) 372 (shI g r b) b sz r0 M) 0 0 (AA (xb g r T ++ X) b 372 sz) := by
  refine met_go (by decide +kernel) rfl (Nat.le_of_ble_eq_true rfl) ?_
  intro p e s m below meth c ls H locs C0 C1 hr hlocks hnm hsz hl hI
  subst hsz
  have hl : lv_has ls 2 [(0, .ref (b a)), (1, .ref (b 370))] := hl
  unfold F_X4_charAtPosition at hf
  refine lv_aload_n C0.1 C0.2.1 dX4_charAtPosition_0 rfl (lv_at hl 0 rfl) ?_
  refine r_get (C := RX4) (T := TX4) (N9 := 3) (ci := 6) C0 C1 hI iX4 rfl a 2 (kdlt9 ha) (by decide) ((shI_9 ha) _) rfl rfl w_300 dX4_charAtPosition_1 ?_
  refine lv_aload_n C0.1 C0.2.1 dX4_charAtPosition_4 rfl (lv_at hl 1 rfl) ?_
  obtain ⟨r_2, h_1, hf⟩ := ob_some hf
  refine k_i C1 hI (q_V C0 C1 hI 370 (c_J4_length_8abf5_t l g X r b H.size n M T h_1) w_1116 w_960 w_961 w_81 w_962 ⟨rfl, rfl⟩ hd_J4_length_8abf5 ⟨Nat.le_of_ble_eq_true rfl, Nat.le_of_ble_eq_true rfl⟩ (kdlt13 (rfl : kdI 370 = 13)) (shI_13 (rfl : kdI 370 = 13) _) rfl rfl rfl hl.1 rfl (Nat.le_of_ble_eq_true rfl) dX4_charAtPosition_5 ⟨Nat.le_of_ble_eq_true rfl, Nat.le_of_ble_eq_true rfl⟩) (fun H locs hI => ?_)
  refine lv_icmp_ge (tgt := 22) C0.1 C0.2.1 dX4_charAtPosition_8 (by decide) (fun c_3 => ?_) (fun c_3 => ?_)
  · have hf := (if_pos c_3).symm.trans hf
    refine lv_iconst (v := 0) C0.1 C0.2.1 dX4_charAtPosition_22 (by decide) ?_
    exact ee_z C0 hI hr hlocks rfl hf dX4_charAtPosition_23
  · have hf := (if_neg c_3).symm.trans hf
    refine lv_aload_n C0.1 C0.2.1 dX4_charAtPosition_11 rfl (lv_at hl 1 rfl) ?_
    refine lv_aload_n C0.1 C0.2.1 dX4_charAtPosition_12 rfl (lv_at hl 0 rfl) ?_
    refine r_get (C := RX4) (T := TX4) (N9 := 3) (ci := 6) C0 C1 hI iX4 rfl a 2 (kdlt9 ha) (by decide) ((shI_9 ha) _) rfl rfl w_300 dX4_charAtPosition_13 ?_
    obtain ⟨r_5, h_4, hf⟩ := ob_some hf
    refine k_i C1 hI (q_V C0 C1 hI 370 (c_J4_charAt_5068e_t l g X r b H.size n M T (M a 2) h_4) w_1117 w_1118 w_1119 w_81 w_1120 ⟨rfl, rfl⟩ hd_J4_charAt_5068e ⟨Nat.le_of_ble_eq_true rfl, Nat.le_of_ble_eq_true rfl⟩ (kdlt13 (rfl : kdI 370 = 13)) (shI_13 (rfl : kdI 370 = 13) _) rfl rfl rfl hl.1 rfl (Nat.le_of_ble_eq_true rfl) dX4_charAtPosition_16 ⟨Nat.le_of_ble_eq_true rfl, Nat.le_of_ble_eq_true rfl⟩) (fun H locs hI => ?_)
    refine lv_goto (tgt := 23) C0.1 C0.2.1 dX4_charAtPosition_19 (by decide) ?_
    obtain ⟨h_6, hf⟩ := chk_some hf
    exact ee_z C0 hI hr hlocks (isC_n h_6) hf dX4_charAtPosition_23

def F_X4_isDigit (n : Nat) (x0 : Int32) (M : Mem) : Option Int32 :=
  (if x0 < 48 then some 0 else (if 57 < x0 then some 0 else some 1))
theorem hd_X4_isDigit : yX4_isDigit.cls ≠ "java/lang/invoke/MethodHandle" ∧ yX4_isDigit.cls ≠ "java/lang/invoke/VarHandle" ∧ (parseMethodDescriptor yX4_isDigit.desc).map (fun d => d.parameters.length) = some 1 := ⟨by decide +kernel, by decide +kernel, by decide +kernel⟩
set_option maxHeartbeats 4000000 in
set_option maxRecDepth 100000 in
theorem c_X4_isDigit (l : Launch) (g : GG) (X : va_W) (r : Nat → Nat) (b : Nat → Nat) (sz n : Nat) (M : Mem) (x0 : Int32) {r0 : Int32} (hf : F_X4_isDigit n x0 M = some r0) : Met l yX4_isDigit (.code yX4_isDigit cX4_isDigit 1 (some .boolean) :: LWg) (rmD 0 0 0) (va_Pc [.int x0] (PreP g X 372 (shI g r b) b sz M)) (Qi g X 372 (shI g r b) b sz r0 M) 0 0 (AA X b 372 sz) := by
  refine met_go (by decide +kernel) rfl (Nat.le_of_ble_eq_true rfl) ?_
  intro p e s m below meth c ls H locs C0 C1 hr hlocks hnm hsz hl hI
  subst hsz
  have hl : lv_has ls 1 [(0, .int x0)] := hl
  unfold F_X4_isDigit at hf
  refine lv_iload_n C0.1 C0.2.1 dX4_isDigit_0 rfl (lv_at hl 0 rfl) ?_
  refine lv_bipush (v := 48) C0.1 C0.2.1 dX4_isDigit_1 (by decide) ?_
  refine lv_icmp_lt (tgt := 16) C0.1 C0.2.1 dX4_isDigit_3 (by decide) (fun c_1 => ?_) (fun c_1 => ?_)
  · have hf := (if_pos c_1).symm.trans hf
    refine lv_iconst (v := 0) C0.1 C0.2.1 dX4_isDigit_16 (by decide) ?_
    exact ee_z C0 hI hr hlocks rfl hf dX4_isDigit_17
  · have hf := (if_neg c_1).symm.trans hf
    refine lv_iload_n C0.1 C0.2.1 dX4_isDigit_6 rfl (lv_at hl 0 rfl) ?_
    refine lv_bipush (v := 57) C0.1 C0.2.1 dX4_isDigit_7 (by decide) ?_
    refine lv_icmp_gt (tgt := 16) C0.1 C0.2.1 dX4_isDigit_9 (by decide) (fun c_2 => ?_) (fun c_2 => ?_)
    · have hf := (if_pos c_2).symm.trans hf
      refine lv_iconst (v := 0) C0.1 C0.2.1 dX4_isDigit_16 (by decide) ?_
      exact ee_z C0 hI hr hlocks rfl hf dX4_isDigit_17
    · have hf := (if_neg c_2).symm.trans hf
      refine lv_iconst (v := 1) C0.1 C0.2.1 dX4_isDigit_12 (by decide) ?_
      refine lv_goto (tgt := 17) C0.1 C0.2.1 dX4_isDigit_13 (by decide) ?_
      exact ee_z C0 hI hr hlocks rfl hf dX4_isDigit_17

def F_X4_readNumber_L6 (n : Nat) (T : Mem) (a : Nat) (o3 : Nat) : Nat → Int32 → Int32 → Int32 → Mem → Option (Int32 × Mem)
  | 0, _, _, _, _ => none
  | k6 + 1, x2_6, x4_6, x5_6, M =>
    (if x2_6 ≤ x4_6 then ob (F_X3_addNumber n o3 x5_6 M) (fun M_6_3 => (if x4_6 ≤ 0 then some (0, M_6_3) else some (1, M_6_3))) else ob (F_X4_charAtPosition n T a M) (fun r_6_6 => ob (F_X4_isDigit n r_6_6 M) (fun r_6_8 => (if r_6_8 = 0 then ob (F_X3_addNumber n o3 x5_6 M) (fun M_6_11 => (if x4_6 ≤ 0 then some (0, M_6_11) else some (1, M_6_11))) else ob (F_X4_charAtPosition n T a M) (fun r_6_14 => lt' ((10 * x5_6) + (r_6_14 - 48)) (fun x5_6_15 => lt' (up2 M a 2 ((M a 2) + 1)) (fun M_6_17 => lt' (x4_6 + 1) (fun x4_6_19 => F_X4_readNumber_L6 n T a o3 k6 x2_6 x4_6_19 x5_6_15 M_6_17))))))))
def F_X4_readNumber (n : Nat) (T : Mem) (a : Nat) (x2 : Int32) (o3 : Nat) (M : Mem) : Option (Int32 × Mem) :=
  F_X4_readNumber_L6 n T a o3 n x2 0 0 M
theorem hd_X4_readNumber : yX4_readNumber.cls ≠ "java/lang/invoke/MethodHandle" ∧ yX4_readNumber.cls ≠ "java/lang/invoke/VarHandle" ∧ (parseMethodDescriptor yX4_readNumber.desc).map (fun d => d.parameters.length) = some 3 := ⟨by decide +kernel, by decide +kernel, by decide +kernel⟩
set_option maxHeartbeats 4000000 in
set_option maxRecDepth 100000 in
theorem c_X4_readNumber (l : Launch) (g : GG) (X : va_W) (r : Nat → Nat) (b : Nat → Nat) (sz n : Nat) (M : Mem) (T : Mem) (a : Nat) (ha : kdI a = 9) (x2 : Int32) (o3 : Nat) (ho3 : kdI o3 = 11) {r0 : Int32} {M' : Mem} (hf : F_X4_readNumber n T a x2 o3 M = some (r0, M')) : Met l yX4_readNumber (.code yX4_readNumber cX4_readNumber 6 (some .boolean) :: LWg) (rmD 5 0 0) (va_Pc [.ref (b a), .ref (b 370), .int x2, .ref (b o3)] (PreP g (xb g r T ++ X) 372 (shI g r b) b sz M)) (Qi g (xb g r T ++ X) 372 (shI g r b) b sz r0 M') 0 0 (AA (xb g r T ++ X) b 372 sz) := by
  refine met_go (by decide +kernel) rfl (Nat.le_of_ble_eq_true rfl) ?_
  intro p e s m below meth c ls H locs C0 C1 hr hlocks hnm hsz hl hI
  subst hsz
  have hl : lv_has ls 6 [(0, .ref (b a)), (1, .ref (b 370)), (2, .int x2), (3, .ref (b o3))] := hl
  unfold F_X4_readNumber at hf
  refine lv_iconst (v := 0) C0.1 C0.2.1 dX4_readNumber_0 (by decide) ?_
  refine lv_istore (lv' := [(4, .int 0), (0, .ref (b a)), (1, .ref (b 370)), (2, .int x2), (3, .ref (b o3))]) C0.1 C0.2.1 dX4_readNumber_1 hl (by decide) rfl (fun ls hl => ?_)
  refine lv_iconst (v := 0) C0.1 C0.2.1 dX4_readNumber_3 (by decide) ?_
  refine lv_istore (lv' := [(5, .int 0), (4, .int 0), (0, .ref (b a)), (1, .ref (b 370)), (2, .int x2), (3, .ref (b o3))]) C0.1 C0.2.1 dX4_readNumber_4 hl (by decide) rfl (fun ls hl => ?_)
  have L6 : ∀ (k6 : Nat) (x2_6 : Int32) (x4_6 : Int32) (x5_6 : Int32) (M : Mem), F_X4_readNumber_L6 n T a o3 k6 x2_6 x4_6 x5_6 M = some (r0, M') → ∀ (H : Heap) (locs : List Loc) (ls : Array Slot), PI g (xb g r T ++ X) 372 (shI g r b) b s M H locs → lv_has ls 6 [(0, .ref (b a)), (1, .ref (b 370)), (2, .int x2_6), (3, .ref (b o3)), (4, .int x4_6), (5, .int x5_6)] → W p l e (rmD 5 0 0) s m ([.ref (b a), .ref (b 370), .int x2, .ref (b o3)] : List Value).toArray below meth c H locs 0 0 (MQ below (Qi g (xb g r T ++ X) 372 (shI g r b) b s.heap.size r0 M') ([.ref (b a), .ref (b 370), .int x2, .ref (b o3)] : List Value).toArray s 0 0 (AA (xb g r T ++ X) b 372 s.heap.size)) (F0 m 6 ls []) := by
    intro k6
    induction k6 with
    | zero => intro x2_6 x4_6 x5_6 M hf; exact absurd (show (none : Option (Int32 × Mem)) = some (r0, M') from hf) (fun h => by cases h)
    | succ k6 ih6 =>
      intro x2_6 x4_6 x5_6 M hf H locs ls hI hl
      unfold F_X4_readNumber_L6 at hf
      refine lv_iload C0.1 C0.2.1 dX4_readNumber_6 (lv_at hl 4 rfl) ?_
      refine lv_iload_n C0.1 C0.2.1 dX4_readNumber_8 rfl (lv_at hl 2 rfl) ?_
      refine lv_icmp_ge (tgt := 55) C0.1 C0.2.1 dX4_readNumber_9 (by decide) (fun c_6_1 => ?_) (fun c_6_1 => ?_)
      · have hf := (if_pos c_6_1).symm.trans hf
        refine lv_aload_n C0.1 C0.2.1 dX4_readNumber_55 rfl (lv_at hl 3 rfl) ?_
        refine lv_iload C0.1 C0.2.1 dX4_readNumber_56 (lv_at hl 5 rfl) ?_
        obtain ⟨M_6_3, h_6_2, hf⟩ := ob_some hf
        refine k_v C1 hI (q_VN C0 C1 hI o3 (c_X3_addNumber l g (xb g r T ++ X) r b H.size n M o3 ho3 x5_6 h_6_2) 41 rfl w_1132 w_50 w_77 w_1133 ⟨rfl, rfl⟩ hd_X3_addNumber ⟨Nat.le_of_ble_eq_true rfl, Nat.le_of_ble_eq_true rfl⟩ (kdlt11 ho3) ((shI_11 ho3) _) rfl rfl rfl hl.1 rfl (Nat.le_of_ble_eq_true rfl) dX4_readNumber_58 ⟨Nat.le_of_ble_eq_true rfl, Nat.le_of_ble_eq_true rfl⟩) (fun H locs hI => ?_)
        refine lv_iload C0.1 C0.2.1 dX4_readNumber_61 (lv_at hl 4 rfl) ?_
        refine lv_if_le (tgt := 70) C0.1 C0.2.1 dX4_readNumber_63 (by decide) (fun c_6_4 => ?_) (fun c_6_4 => ?_)
        · have hf := (if_pos c_6_4).symm.trans hf
          refine lv_iconst (v := 0) C0.1 C0.2.1 dX4_readNumber_70 (by decide) ?_
          exact ee_zm C0 hI hr hlocks rfl hf dX4_readNumber_71
        · have hf := (if_neg c_6_4).symm.trans hf
          refine lv_iconst (v := 1) C0.1 C0.2.1 dX4_readNumber_66 (by decide) ?_
          refine lv_goto (tgt := 71) C0.1 C0.2.1 dX4_readNumber_67 (by decide) ?_
          exact ee_zm C0 hI hr hlocks rfl hf dX4_readNumber_71
      · have hf := (if_neg c_6_1).symm.trans hf
        refine lv_aload_n C0.1 C0.2.1 dX4_readNumber_12 rfl (lv_at hl 0 rfl) ?_
        refine lv_aload_n C0.1 C0.2.1 dX4_readNumber_13 rfl (lv_at hl 1 rfl) ?_
        obtain ⟨r_6_6, h_6_5, hf⟩ := ob_some hf
        refine k_i C1 hI (q_V C0 C1 hI a (c_X4_charAtPosition l g X r b H.size n M T a ha h_6_5) w_1112 w_1114 w_49 w_76 w_1115 ⟨rfl, rfl⟩ hd_X4_charAtPosition ⟨Nat.le_of_ble_eq_true rfl, Nat.le_of_ble_eq_true rfl⟩ (kdlt9 ha) ((shI_9 ha) _) rfl rfl rfl hl.1 rfl (Nat.le_of_ble_eq_true rfl) dX4_readNumber_14 ⟨Nat.le_of_ble_eq_true rfl, Nat.le_of_ble_eq_true rfl⟩) (fun H locs hI => ?_)
        obtain ⟨r_6_8, h_6_7, hf⟩ := ob_some hf
        refine k_i C1 hI (q_S C0 C1 hI (c_X4_isDigit l g (xb g r T ++ X) r b H.size n M r_6_6 h_6_7) w_1127 w_1128 w_76 w_1129 ⟨rfl, rfl⟩ hd_X4_isDigit ⟨Nat.le_of_ble_eq_true rfl, Nat.le_of_ble_eq_true rfl⟩ rfl hl.1 rfl (Nat.le_of_ble_eq_true rfl) dX4_readNumber_17 ⟨Nat.le_of_ble_eq_true rfl, Nat.le_of_ble_eq_true rfl⟩) (fun H locs hI => ?_)
        refine lv_if_eq (tgt := 55) C0.1 C0.2.1 dX4_readNumber_20 (by decide) (fun c_6_9 => ?_) (fun c_6_9 => ?_)
        · have hf := (if_pos c_6_9).symm.trans hf
          refine lv_aload_n C0.1 C0.2.1 dX4_readNumber_55 rfl (lv_at hl 3 rfl) ?_
          refine lv_iload C0.1 C0.2.1 dX4_readNumber_56 (lv_at hl 5 rfl) ?_
          obtain ⟨M_6_11, h_6_10, hf⟩ := ob_some hf
          refine k_v C1 hI (q_VN C0 C1 hI o3 (c_X3_addNumber l g (xb g r T ++ X) r b H.size n M o3 ho3 x5_6 h_6_10) 41 rfl w_1132 w_50 w_77 w_1133 ⟨rfl, rfl⟩ hd_X3_addNumber ⟨Nat.le_of_ble_eq_true rfl, Nat.le_of_ble_eq_true rfl⟩ (kdlt11 ho3) ((shI_11 ho3) _) rfl rfl rfl hl.1 rfl (Nat.le_of_ble_eq_true rfl) dX4_readNumber_58 ⟨Nat.le_of_ble_eq_true rfl, Nat.le_of_ble_eq_true rfl⟩) (fun H locs hI => ?_)
          refine lv_iload C0.1 C0.2.1 dX4_readNumber_61 (lv_at hl 4 rfl) ?_
          refine lv_if_le (tgt := 70) C0.1 C0.2.1 dX4_readNumber_63 (by decide) (fun c_6_12 => ?_) (fun c_6_12 => ?_)
          · have hf := (if_pos c_6_12).symm.trans hf
            refine lv_iconst (v := 0) C0.1 C0.2.1 dX4_readNumber_70 (by decide) ?_
            exact ee_zm C0 hI hr hlocks rfl hf dX4_readNumber_71
          · have hf := (if_neg c_6_12).symm.trans hf
            refine lv_iconst (v := 1) C0.1 C0.2.1 dX4_readNumber_66 (by decide) ?_
            refine lv_goto (tgt := 71) C0.1 C0.2.1 dX4_readNumber_67 (by decide) ?_
            exact ee_zm C0 hI hr hlocks rfl hf dX4_readNumber_71
        · have hf := (if_neg c_6_9).symm.trans hf
          refine lv_bipush (v := 10) C0.1 C0.2.1 dX4_readNumber_23 (by decide) ?_
          refine lv_iload C0.1 C0.2.1 dX4_readNumber_25 (lv_at hl 5 rfl) ?_
          refine lv_imul C0.1 C0.2.1 dX4_readNumber_27 ?_
          refine lv_aload_n C0.1 C0.2.1 dX4_readNumber_28 rfl (lv_at hl 0 rfl) ?_
          refine lv_aload_n C0.1 C0.2.1 dX4_readNumber_29 rfl (lv_at hl 1 rfl) ?_
          obtain ⟨r_6_14, h_6_13, hf⟩ := ob_some hf
          refine k_i C1 hI (q_V C0 C1 hI a (c_X4_charAtPosition l g X r b H.size n M T a ha h_6_13) w_1112 w_1114 w_49 w_76 w_1115 ⟨rfl, rfl⟩ hd_X4_charAtPosition ⟨Nat.le_of_ble_eq_true rfl, Nat.le_of_ble_eq_true rfl⟩ (kdlt9 ha) ((shI_9 ha) _) rfl rfl rfl hl.1 rfl (Nat.le_of_ble_eq_true rfl) dX4_readNumber_30 ⟨Nat.le_of_ble_eq_true rfl, Nat.le_of_ble_eq_true rfl⟩) (fun H locs hI => ?_)
          refine lv_bipush (v := 48) C0.1 C0.2.1 dX4_readNumber_33 (by decide) ?_
          refine lv_isub C0.1 C0.2.1 dX4_readNumber_35 ?_
          refine lv_iadd C0.1 C0.2.1 dX4_readNumber_36 ?_
          refine lv_topi (fun x5_6_15 e_6_16 => ?_)
          have hf := lt_at e_6_16 hf
          refine lv_istore (lv' := [(5, .int x5_6_15), (0, .ref (b a)), (1, .ref (b 370)), (2, .int x2_6), (3, .ref (b o3)), (4, .int x4_6)]) C0.1 C0.2.1 dX4_readNumber_37 hl (by decide) rfl (fun ls hl => ?_)
          refine lv_aload_n C0.1 C0.2.1 dX4_readNumber_39 rfl (lv_at hl 1 rfl) ?_
          refine lv_dup C0.1 C0.2.1 dX4_readNumber_40 rfl ?_
          refine r_get (C := RX4) (T := TX4) (N9 := 3) (ci := 6) C0 C1 hI iX4 rfl a 2 (kdlt9 ha) (by decide) ((shI_9 ha) _) rfl rfl w_300 dX4_readNumber_41 ?_
          refine lv_iconst (v := 1) C0.1 C0.2.1 dX4_readNumber_44 (by decide) ?_
          refine lv_iadd C0.1 C0.2.1 dX4_readNumber_45 ?_
          refine r_put (C := RX4) (T := TX4) (N9 := 3) (ci := 6) (fs := fR b a) (ty := .int) C0 C1 hI iX4 tyX4 tyX4_ok nmX4 rfl a 2 (kdlt9 ha) (by decide) (shI_9 ha) rfl rfl rfl (by decide +kernel) ⟨rfl, rfl⟩ (Nat.le_of_ble_eq_true rfl) w_300 dX4_readNumber_46 (fun H locs hI => ?_)
          obtain ⟨M_6_17, e_6_18⟩ : ∃ z : Mem, z = up2 M a 2 ((M a 2) + 1) := ⟨_, rfl⟩
          rw [← e_6_18] at hI
          have hf := lt_at e_6_18 hf
          obtain ⟨x4_6_19, e_6_20⟩ : ∃ z : Int32, z = x4_6 + 1 := ⟨_, rfl⟩
          have hf := lt_at e_6_20 hf
          refine lv_iinc (v := x4_6_19) (lv' := [(4, .int x4_6_19), (5, .int x5_6_15), (0, .ref (b a)), (1, .ref (b 370)), (2, .int x2_6), (3, .ref (b o3))]) C0.1 C0.2.1 dX4_readNumber_49 hl (k := 5) rfl (by rw [e_6_20]; rfl) (by decide) rfl (fun ls hl => ?_)
          refine lv_goto (tgt := 6) C0.1 C0.2.1 dX4_readNumber_52 (by decide) ?_
          exact ih6 x2_6 x4_6_19 x5_6_15 M_6_17 hf H locs ls hI (lv_sub hl [2, 3, 4, 5, 0, 1] rfl)
  exact L6 n x2 0 0 M hf H locs ls hI (lv_sub hl [2, 3, 4, 5, 1, 0] rfl)

def F_X4_readCharacter (n : Nat) (T : Mem) (a : Nat) (x2 : Int32) (M : Mem) : Option (Int32 × Mem) :=
  ob (F_X4_charAtPosition n T a M) (fun r_2 => (if r_2 = x2 then lt' (up2 M a 2 ((M a 2) + 1)) (fun M_4 => some (1, M_4)) else some (0, M)))
theorem hd_X4_readCharacter : yX4_readCharacter.cls ≠ "java/lang/invoke/MethodHandle" ∧ yX4_readCharacter.cls ≠ "java/lang/invoke/VarHandle" ∧ (parseMethodDescriptor yX4_readCharacter.desc).map (fun d => d.parameters.length) = some 2 := ⟨by decide +kernel, by decide +kernel, by decide +kernel⟩
set_option maxHeartbeats 4000000 in
set_option maxRecDepth 100000 in
theorem c_X4_readCharacter (l : Launch) (g : GG) (X : va_W) (r : Nat → Nat) (b : Nat → Nat) (sz n : Nat) (M : Mem) (T : Mem) (a : Nat) (ha : kdI a = 9) (x2 : Int32) {r0 : Int32} {M' : Mem} (hf : F_X4_readCharacter n T a x2 M = some (r0, M')) : Met l yX4_readCharacter (.code yX4_readCharacter cX4_readCharacter 3 (some .boolean) :: LWg) (rmD 5 0 0) (va_Pc [.ref (b a), .ref (b 370), .int x2] (PreP g (xb g r T ++ X) 372 (shI g r b) b sz M)) (Qi g (xb g r T ++ X) 372 (shI g r b) b sz r0 M') 0 0 (AA (xb g r T ++ X) b 372 sz) := by
  refine met_go (by decide +kernel) rfl (Nat.le_of_ble_eq_true rfl) ?_
  intro p e s m below meth c ls H locs C0 C1 hr hlocks hnm hsz hl hI
  subst hsz
  have hl : lv_has ls 3 [(0, .ref (b a)), (1, .ref (b 370)), (2, .int x2)] := hl
  unfold F_X4_readCharacter at hf
  refine lv_aload_n C0.1 C0.2.1 dX4_readCharacter_0 rfl (lv_at hl 0 rfl) ?_
  refine lv_aload_n C0.1 C0.2.1 dX4_readCharacter_1 rfl (lv_at hl 1 rfl) ?_
  obtain ⟨r_2, h_1, hf⟩ := ob_some hf
  refine k_i C1 hI (q_V C0 C1 hI a (c_X4_charAtPosition l g X r b H.size n M T a ha h_1) w_1112 w_1114 w_49 w_76 w_1115 ⟨rfl, rfl⟩ hd_X4_charAtPosition ⟨Nat.le_of_ble_eq_true rfl, Nat.le_of_ble_eq_true rfl⟩ (kdlt9 ha) ((shI_9 ha) _) rfl rfl rfl hl.1 rfl (Nat.le_of_ble_eq_true rfl) dX4_readCharacter_2 ⟨Nat.le_of_ble_eq_true rfl, Nat.le_of_ble_eq_true rfl⟩) (fun H locs hI => ?_)
  refine lv_iload_n C0.1 C0.2.1 dX4_readCharacter_5 rfl (lv_at hl 2 rfl) ?_
  refine lv_icmp_eq (tgt := 11) C0.1 C0.2.1 dX4_readCharacter_6 (by decide) (fun c_3 => ?_) (fun c_3 => ?_)
  · have hf := (if_pos c_3).symm.trans hf
    refine lv_aload_n C0.1 C0.2.1 dX4_readCharacter_11 rfl (lv_at hl 0 rfl) ?_
    refine lv_dup C0.1 C0.2.1 dX4_readCharacter_12 rfl ?_
    refine r_get (C := RX4) (T := TX4) (N9 := 3) (ci := 6) C0 C1 hI iX4 rfl a 2 (kdlt9 ha) (by decide) ((shI_9 ha) _) rfl rfl w_300 dX4_readCharacter_13 ?_
    refine lv_iconst (v := 1) C0.1 C0.2.1 dX4_readCharacter_16 (by decide) ?_
    refine lv_iadd C0.1 C0.2.1 dX4_readCharacter_17 ?_
    refine r_put (C := RX4) (T := TX4) (N9 := 3) (ci := 6) (fs := fR b a) (ty := .int) C0 C1 hI iX4 tyX4 tyX4_ok nmX4 rfl a 2 (kdlt9 ha) (by decide) (shI_9 ha) rfl rfl rfl (by decide +kernel) ⟨rfl, rfl⟩ (Nat.le_of_ble_eq_true rfl) w_300 dX4_readCharacter_18 (fun H locs hI => ?_)
    obtain ⟨M_4, e_5⟩ : ∃ z : Mem, z = up2 M a 2 ((M a 2) + 1) := ⟨_, rfl⟩
    rw [← e_5] at hI
    have hf := lt_at e_5 hf
    refine lv_iconst (v := 1) C0.1 C0.2.1 dX4_readCharacter_21 (by decide) ?_
    exact ee_zm C0 hI hr hlocks rfl hf dX4_readCharacter_22
  · have hf := (if_neg c_3).symm.trans hf
    refine lv_iconst (v := 0) C0.1 C0.2.1 dX4_readCharacter_9 (by decide) ?_
    exact ee_zm C0 hI hr hlocks rfl hf dX4_readCharacter_10

def F_X4_readSign (n : Nat) (T : Mem) (a : Nat) (o2 : Nat) (M : Mem) : Option (Int32 × Mem) :=
  ob (F_X4_charAtPosition n T a M) (fun r_2 => (if r_2 = 43 then (if (1 : Int32) = 0 then ob (F_X3_addNumber n o2 0 M) (fun M_29 => (if (1 : Int32) = 0 then ob2 (F_X4_readCharacter n T a 45 M_29) (fun r_32 M_33 => chk (isB r_32) (some (r_32, M_33))) else ob2 (F_X4_readCharacter n T a 43 M_29) (fun r_36 M_37 => chk (isB r_36) (some (r_36, M_37))))) else ob (F_X3_addNumber n o2 1 M) (fun M_40 => (if (1 : Int32) = 0 then ob2 (F_X4_readCharacter n T a 45 M_40) (fun r_43 M_44 => chk (isB r_43) (some (r_43, M_44))) else ob2 (F_X4_readCharacter n T a 43 M_40) (fun r_47 M_48 => chk (isB r_47) (some (r_47, M_48)))))) else (if (0 : Int32) = 0 then ob (F_X3_addNumber n o2 0 M) (fun M_6 => (if (0 : Int32) = 0 then ob2 (F_X4_readCharacter n T a 45 M_6) (fun r_9 M_10 => chk (isB r_9) (some (r_9, M_10))) else ob2 (F_X4_readCharacter n T a 43 M_6) (fun r_13 M_14 => chk (isB r_13) (some (r_13, M_14))))) else ob (F_X3_addNumber n o2 1 M) (fun M_17 => (if (0 : Int32) = 0 then ob2 (F_X4_readCharacter n T a 45 M_17) (fun r_20 M_21 => chk (isB r_20) (some (r_20, M_21))) else ob2 (F_X4_readCharacter n T a 43 M_17) (fun r_24 M_25 => chk (isB r_24) (some (r_24, M_25))))))))
theorem hd_X4_readSign : yX4_readSign.cls ≠ "java/lang/invoke/MethodHandle" ∧ yX4_readSign.cls ≠ "java/lang/invoke/VarHandle" ∧ (parseMethodDescriptor yX4_readSign.desc).map (fun d => d.parameters.length) = some 2 := ⟨by decide +kernel, by decide +kernel, by decide +kernel⟩
set_option maxHeartbeats 4000000 in
set_option maxRecDepth 100000 in
theorem c_X4_readSign (l : Launch) (g : GG) (X : va_W) (r : Nat → Nat) (b : Nat → Nat) (sz n : Nat) (M : Mem) (T : Mem) (a : Nat) (ha : kdI a = 9) (o2 : Nat) (ho2 : kdI o2 = 11) {r0 : Int32} {M' : Mem} (hf : F_X4_readSign n T a o2 M = some (r0, M')) : Met l yX4_readSign (.code yX4_readSign cX4_readSign 4 (some .boolean) :: LWg) (rmD 6 0 0) (va_Pc [.ref (b a), .ref (b 370), .ref (b o2)] (PreP g (xb g r T ++ X) 372 (shI g r b) b sz M)) (Qi g (xb g r T ++ X) 372 (shI g r b) b sz r0 M') 0 0 (AA (xb g r T ++ X) b 372 sz) := by
  refine met_go (by decide +kernel) rfl (Nat.le_of_ble_eq_true rfl) ?_
  intro p e s m below meth c ls H locs C0 C1 hr hlocks hnm hsz hl hI
  subst hsz
  have hl : lv_has ls 4 [(0, .ref (b a)), (1, .ref (b 370)), (2, .ref (b o2))] := hl
  unfold F_X4_readSign at hf
  refine lv_aload_n C0.1 C0.2.1 dX4_readSign_0 rfl (lv_at hl 0 rfl) ?_
  refine lv_aload_n C0.1 C0.2.1 dX4_readSign_1 rfl (lv_at hl 1 rfl) ?_
  obtain ⟨r_2, h_1, hf⟩ := ob_some hf
  refine k_i C1 hI (q_V C0 C1 hI a (c_X4_charAtPosition l g X r b H.size n M T a ha h_1) w_1112 w_1114 w_49 w_76 w_1115 ⟨rfl, rfl⟩ hd_X4_charAtPosition ⟨Nat.le_of_ble_eq_true rfl, Nat.le_of_ble_eq_true rfl⟩ (kdlt9 ha) ((shI_9 ha) _) rfl rfl rfl hl.1 rfl (Nat.le_of_ble_eq_true rfl) dX4_readSign_2 ⟨Nat.le_of_ble_eq_true rfl, Nat.le_of_ble_eq_true rfl⟩) (fun H locs hI => ?_)
  refine lv_bipush (v := 43) C0.1 C0.2.1 dX4_readSign_5 (by decide) ?_
  refine lv_icmp_ne (tgt := 14) C0.1 C0.2.1 dX4_readSign_7 (by decide) (fun c_3 => ?_) (fun c_3 => ?_)
  · have hf := (if_neg c_3).symm.trans hf
    refine lv_iconst (v := 0) C0.1 C0.2.1 dX4_readSign_14 (by decide) ?_
    refine lv_istore_n (lv' := [(3, .int 0), (0, .ref (b a)), (1, .ref (b 370)), (2, .ref (b o2))]) C0.1 C0.2.1 dX4_readSign_15 rfl hl (by decide) rfl (fun ls hl => ?_)
    refine lv_aload_n C0.1 C0.2.1 dX4_readSign_16 rfl (lv_at hl 3 rfl) ?_
    refine lv_iload_n C0.1 C0.2.1 dX4_readSign_17 rfl (lv_at hl 0 rfl) ?_
    refine lv_if_eq (tgt := 25) C0.1 C0.2.1 dX4_readSign_18 (by decide) (fun c_4 => ?_) (fun c_4 => ?_)
    · have hf := (if_pos c_4).symm.trans hf
      refine lv_iconst (v := 0) C0.1 C0.2.1 dX4_readSign_25 (by decide) ?_
      obtain ⟨M_6, h_5, hf⟩ := ob_some hf
      refine k_v C1 hI (q_VN C0 C1 hI o2 (c_X3_addNumber l g (xb g r T ++ X) r b H.size n M o2 ho2 0 h_5) 41 rfl w_1132 w_50 w_77 w_1133 ⟨rfl, rfl⟩ hd_X3_addNumber ⟨Nat.le_of_ble_eq_true rfl, Nat.le_of_ble_eq_true rfl⟩ (kdlt11 ho2) ((shI_11 ho2) _) rfl rfl rfl hl.1 rfl (Nat.le_of_ble_eq_true rfl) dX4_readSign_26 ⟨Nat.le_of_ble_eq_true rfl, Nat.le_of_ble_eq_true rfl⟩) (fun H locs hI => ?_)
      refine lv_aload_n C0.1 C0.2.1 dX4_readSign_29 rfl (lv_at hl 1 rfl) ?_
      refine lv_aload_n C0.1 C0.2.1 dX4_readSign_30 rfl (lv_at hl 2 rfl) ?_
      refine lv_iload_n C0.1 C0.2.1 dX4_readSign_31 rfl (lv_at hl 0 rfl) ?_
      refine lv_if_eq (tgt := 40) C0.1 C0.2.1 dX4_readSign_32 (by decide) (fun c_7 => ?_) (fun c_7 => ?_)
      · have hf := (if_pos c_7).symm.trans hf
        refine lv_bipush (v := 45) C0.1 C0.2.1 dX4_readSign_40 (by decide) ?_
        obtain ⟨r_9, M_10, h_8, hf⟩ := ob2_some hf
        refine k_i C1 hI (q_V C0 C1 hI a (c_X4_readCharacter l g X r b H.size n M_6 T a ha 45 h_8) w_1138 w_1140 w_52 w_76 w_1141 ⟨rfl, rfl⟩ hd_X4_readCharacter ⟨Nat.le_of_ble_eq_true rfl, Nat.le_of_ble_eq_true rfl⟩ (kdlt9 ha) ((shI_9 ha) _) rfl rfl rfl hl.1 rfl (Nat.le_of_ble_eq_true rfl) dX4_readSign_42 ⟨Nat.le_of_ble_eq_true rfl, Nat.le_of_ble_eq_true rfl⟩) (fun H locs hI => ?_)
        obtain ⟨h_11, hf⟩ := chk_some hf
        exact ee_zm C0 hI hr hlocks (isB_n h_11).1 hf dX4_readSign_45
      · have hf := (if_neg c_7).symm.trans hf
        refine lv_bipush (v := 43) C0.1 C0.2.1 dX4_readSign_35 (by decide) ?_
        refine lv_goto (tgt := 42) C0.1 C0.2.1 dX4_readSign_37 (by decide) ?_
        obtain ⟨r_13, M_14, h_12, hf⟩ := ob2_some hf
        refine k_i C1 hI (q_V C0 C1 hI a (c_X4_readCharacter l g X r b H.size n M_6 T a ha 43 h_12) w_1138 w_1140 w_52 w_76 w_1141 ⟨rfl, rfl⟩ hd_X4_readCharacter ⟨Nat.le_of_ble_eq_true rfl, Nat.le_of_ble_eq_true rfl⟩ (kdlt9 ha) ((shI_9 ha) _) rfl rfl rfl hl.1 rfl (Nat.le_of_ble_eq_true rfl) dX4_readSign_42 ⟨Nat.le_of_ble_eq_true rfl, Nat.le_of_ble_eq_true rfl⟩) (fun H locs hI => ?_)
        obtain ⟨h_15, hf⟩ := chk_some hf
        exact ee_zm C0 hI hr hlocks (isB_n h_15).1 hf dX4_readSign_45
    · have hf := (if_neg c_4).symm.trans hf
      refine lv_iconst (v := 1) C0.1 C0.2.1 dX4_readSign_21 (by decide) ?_
      refine lv_goto (tgt := 26) C0.1 C0.2.1 dX4_readSign_22 (by decide) ?_
      obtain ⟨M_17, h_16, hf⟩ := ob_some hf
      refine k_v C1 hI (q_VN C0 C1 hI o2 (c_X3_addNumber l g (xb g r T ++ X) r b H.size n M o2 ho2 1 h_16) 41 rfl w_1132 w_50 w_77 w_1133 ⟨rfl, rfl⟩ hd_X3_addNumber ⟨Nat.le_of_ble_eq_true rfl, Nat.le_of_ble_eq_true rfl⟩ (kdlt11 ho2) ((shI_11 ho2) _) rfl rfl rfl hl.1 rfl (Nat.le_of_ble_eq_true rfl) dX4_readSign_26 ⟨Nat.le_of_ble_eq_true rfl, Nat.le_of_ble_eq_true rfl⟩) (fun H locs hI => ?_)
      refine lv_aload_n C0.1 C0.2.1 dX4_readSign_29 rfl (lv_at hl 1 rfl) ?_
      refine lv_aload_n C0.1 C0.2.1 dX4_readSign_30 rfl (lv_at hl 2 rfl) ?_
      refine lv_iload_n C0.1 C0.2.1 dX4_readSign_31 rfl (lv_at hl 0 rfl) ?_
      refine lv_if_eq (tgt := 40) C0.1 C0.2.1 dX4_readSign_32 (by decide) (fun c_18 => ?_) (fun c_18 => ?_)
      · have hf := (if_pos c_18).symm.trans hf
        refine lv_bipush (v := 45) C0.1 C0.2.1 dX4_readSign_40 (by decide) ?_
        obtain ⟨r_20, M_21, h_19, hf⟩ := ob2_some hf
        refine k_i C1 hI (q_V C0 C1 hI a (c_X4_readCharacter l g X r b H.size n M_17 T a ha 45 h_19) w_1138 w_1140 w_52 w_76 w_1141 ⟨rfl, rfl⟩ hd_X4_readCharacter ⟨Nat.le_of_ble_eq_true rfl, Nat.le_of_ble_eq_true rfl⟩ (kdlt9 ha) ((shI_9 ha) _) rfl rfl rfl hl.1 rfl (Nat.le_of_ble_eq_true rfl) dX4_readSign_42 ⟨Nat.le_of_ble_eq_true rfl, Nat.le_of_ble_eq_true rfl⟩) (fun H locs hI => ?_)
        obtain ⟨h_22, hf⟩ := chk_some hf
        exact ee_zm C0 hI hr hlocks (isB_n h_22).1 hf dX4_readSign_45
      · have hf := (if_neg c_18).symm.trans hf
        refine lv_bipush (v := 43) C0.1 C0.2.1 dX4_readSign_35 (by decide) ?_
        refine lv_goto (tgt := 42) C0.1 C0.2.1 dX4_readSign_37 (by decide) ?_
        obtain ⟨r_24, M_25, h_23, hf⟩ := ob2_some hf
        refine k_i C1 hI (q_V C0 C1 hI a (c_X4_readCharacter l g X r b H.size n M_17 T a ha 43 h_23) w_1138 w_1140 w_52 w_76 w_1141 ⟨rfl, rfl⟩ hd_X4_readCharacter ⟨Nat.le_of_ble_eq_true rfl, Nat.le_of_ble_eq_true rfl⟩ (kdlt9 ha) ((shI_9 ha) _) rfl rfl rfl hl.1 rfl (Nat.le_of_ble_eq_true rfl) dX4_readSign_42 ⟨Nat.le_of_ble_eq_true rfl, Nat.le_of_ble_eq_true rfl⟩) (fun H locs hI => ?_)
        obtain ⟨h_26, hf⟩ := chk_some hf
        exact ee_zm C0 hI hr hlocks (isB_n h_26).1 hf dX4_readSign_45
  · have hf := (if_pos c_3).symm.trans hf
    refine lv_iconst (v := 1) C0.1 C0.2.1 dX4_readSign_10 (by decide) ?_
    refine lv_goto (tgt := 15) C0.1 C0.2.1 dX4_readSign_11 (by decide) ?_
    refine lv_istore_n (lv' := [(3, .int 1), (0, .ref (b a)), (1, .ref (b 370)), (2, .ref (b o2))]) C0.1 C0.2.1 dX4_readSign_15 rfl hl (by decide) rfl (fun ls hl => ?_)
    refine lv_aload_n C0.1 C0.2.1 dX4_readSign_16 rfl (lv_at hl 3 rfl) ?_
    refine lv_iload_n C0.1 C0.2.1 dX4_readSign_17 rfl (lv_at hl 0 rfl) ?_
    refine lv_if_eq (tgt := 25) C0.1 C0.2.1 dX4_readSign_18 (by decide) (fun c_27 => ?_) (fun c_27 => ?_)
    · have hf := (if_pos c_27).symm.trans hf
      refine lv_iconst (v := 0) C0.1 C0.2.1 dX4_readSign_25 (by decide) ?_
      obtain ⟨M_29, h_28, hf⟩ := ob_some hf
      refine k_v C1 hI (q_VN C0 C1 hI o2 (c_X3_addNumber l g (xb g r T ++ X) r b H.size n M o2 ho2 0 h_28) 41 rfl w_1132 w_50 w_77 w_1133 ⟨rfl, rfl⟩ hd_X3_addNumber ⟨Nat.le_of_ble_eq_true rfl, Nat.le_of_ble_eq_true rfl⟩ (kdlt11 ho2) ((shI_11 ho2) _) rfl rfl rfl hl.1 rfl (Nat.le_of_ble_eq_true rfl) dX4_readSign_26 ⟨Nat.le_of_ble_eq_true rfl, Nat.le_of_ble_eq_true rfl⟩) (fun H locs hI => ?_)
      refine lv_aload_n C0.1 C0.2.1 dX4_readSign_29 rfl (lv_at hl 1 rfl) ?_
      refine lv_aload_n C0.1 C0.2.1 dX4_readSign_30 rfl (lv_at hl 2 rfl) ?_
      refine lv_iload_n C0.1 C0.2.1 dX4_readSign_31 rfl (lv_at hl 0 rfl) ?_
      refine lv_if_eq (tgt := 40) C0.1 C0.2.1 dX4_readSign_32 (by decide) (fun c_30 => ?_) (fun c_30 => ?_)
      · have hf := (if_pos c_30).symm.trans hf
        refine lv_bipush (v := 45) C0.1 C0.2.1 dX4_readSign_40 (by decide) ?_
        obtain ⟨r_32, M_33, h_31, hf⟩ := ob2_some hf
        refine k_i C1 hI (q_V C0 C1 hI a (c_X4_readCharacter l g X r b H.size n M_29 T a ha 45 h_31) w_1138 w_1140 w_52 w_76 w_1141 ⟨rfl, rfl⟩ hd_X4_readCharacter ⟨Nat.le_of_ble_eq_true rfl, Nat.le_of_ble_eq_true rfl⟩ (kdlt9 ha) ((shI_9 ha) _) rfl rfl rfl hl.1 rfl (Nat.le_of_ble_eq_true rfl) dX4_readSign_42 ⟨Nat.le_of_ble_eq_true rfl, Nat.le_of_ble_eq_true rfl⟩) (fun H locs hI => ?_)
        obtain ⟨h_34, hf⟩ := chk_some hf
        exact ee_zm C0 hI hr hlocks (isB_n h_34).1 hf dX4_readSign_45
      · have hf := (if_neg c_30).symm.trans hf
        refine lv_bipush (v := 43) C0.1 C0.2.1 dX4_readSign_35 (by decide) ?_
        refine lv_goto (tgt := 42) C0.1 C0.2.1 dX4_readSign_37 (by decide) ?_
        obtain ⟨r_36, M_37, h_35, hf⟩ := ob2_some hf
        refine k_i C1 hI (q_V C0 C1 hI a (c_X4_readCharacter l g X r b H.size n M_29 T a ha 43 h_35) w_1138 w_1140 w_52 w_76 w_1141 ⟨rfl, rfl⟩ hd_X4_readCharacter ⟨Nat.le_of_ble_eq_true rfl, Nat.le_of_ble_eq_true rfl⟩ (kdlt9 ha) ((shI_9 ha) _) rfl rfl rfl hl.1 rfl (Nat.le_of_ble_eq_true rfl) dX4_readSign_42 ⟨Nat.le_of_ble_eq_true rfl, Nat.le_of_ble_eq_true rfl⟩) (fun H locs hI => ?_)
        obtain ⟨h_38, hf⟩ := chk_some hf
        exact ee_zm C0 hI hr hlocks (isB_n h_38).1 hf dX4_readSign_45
    · have hf := (if_neg c_27).symm.trans hf
      refine lv_iconst (v := 1) C0.1 C0.2.1 dX4_readSign_21 (by decide) ?_
      refine lv_goto (tgt := 26) C0.1 C0.2.1 dX4_readSign_22 (by decide) ?_
      obtain ⟨M_40, h_39, hf⟩ := ob_some hf
      refine k_v C1 hI (q_VN C0 C1 hI o2 (c_X3_addNumber l g (xb g r T ++ X) r b H.size n M o2 ho2 1 h_39) 41 rfl w_1132 w_50 w_77 w_1133 ⟨rfl, rfl⟩ hd_X3_addNumber ⟨Nat.le_of_ble_eq_true rfl, Nat.le_of_ble_eq_true rfl⟩ (kdlt11 ho2) ((shI_11 ho2) _) rfl rfl rfl hl.1 rfl (Nat.le_of_ble_eq_true rfl) dX4_readSign_26 ⟨Nat.le_of_ble_eq_true rfl, Nat.le_of_ble_eq_true rfl⟩) (fun H locs hI => ?_)
      refine lv_aload_n C0.1 C0.2.1 dX4_readSign_29 rfl (lv_at hl 1 rfl) ?_
      refine lv_aload_n C0.1 C0.2.1 dX4_readSign_30 rfl (lv_at hl 2 rfl) ?_
      refine lv_iload_n C0.1 C0.2.1 dX4_readSign_31 rfl (lv_at hl 0 rfl) ?_
      refine lv_if_eq (tgt := 40) C0.1 C0.2.1 dX4_readSign_32 (by decide) (fun c_41 => ?_) (fun c_41 => ?_)
      · have hf := (if_pos c_41).symm.trans hf
        refine lv_bipush (v := 45) C0.1 C0.2.1 dX4_readSign_40 (by decide) ?_
        obtain ⟨r_43, M_44, h_42, hf⟩ := ob2_some hf
        refine k_i C1 hI (q_V C0 C1 hI a (c_X4_readCharacter l g X r b H.size n M_40 T a ha 45 h_42) w_1138 w_1140 w_52 w_76 w_1141 ⟨rfl, rfl⟩ hd_X4_readCharacter ⟨Nat.le_of_ble_eq_true rfl, Nat.le_of_ble_eq_true rfl⟩ (kdlt9 ha) ((shI_9 ha) _) rfl rfl rfl hl.1 rfl (Nat.le_of_ble_eq_true rfl) dX4_readSign_42 ⟨Nat.le_of_ble_eq_true rfl, Nat.le_of_ble_eq_true rfl⟩) (fun H locs hI => ?_)
        obtain ⟨h_45, hf⟩ := chk_some hf
        exact ee_zm C0 hI hr hlocks (isB_n h_45).1 hf dX4_readSign_45
      · have hf := (if_neg c_41).symm.trans hf
        refine lv_bipush (v := 43) C0.1 C0.2.1 dX4_readSign_35 (by decide) ?_
        refine lv_goto (tgt := 42) C0.1 C0.2.1 dX4_readSign_37 (by decide) ?_
        obtain ⟨r_47, M_48, h_46, hf⟩ := ob2_some hf
        refine k_i C1 hI (q_V C0 C1 hI a (c_X4_readCharacter l g X r b H.size n M_40 T a ha 43 h_46) w_1138 w_1140 w_52 w_76 w_1141 ⟨rfl, rfl⟩ hd_X4_readCharacter ⟨Nat.le_of_ble_eq_true rfl, Nat.le_of_ble_eq_true rfl⟩ (kdlt9 ha) ((shI_9 ha) _) rfl rfl rfl hl.1 rfl (Nat.le_of_ble_eq_true rfl) dX4_readSign_42 ⟨Nat.le_of_ble_eq_true rfl, Nat.le_of_ble_eq_true rfl⟩) (fun H locs hI => ?_)
        obtain ⟨h_49, hf⟩ := chk_some hf
        exact ee_zm C0 hI hr hlocks (isB_n h_49).1 hf dX4_readSign_45

def F_X4_readForm_L14 (n : Nat) (T : Mem) (a : Nat) (o2 : Nat) (j_1 : Nat) : Nat → Int32 → Int32 → Mem → Option (Int32 × Mem)
  | 0, _, _, _ => none
  | k14 + 1, x4_14, x5_14, M =>
    (if x4_14 = 0 then chk (isB x4_14) (some (x4_14, M)) else ob (F_J0_length_8abf5_S n j_1 M) (fun r_14_4 => (if r_14_4 ≤ x5_14 then chk (isB x4_14) (some (x4_14, M)) else ob (F_J0_charAt_5068e_S n j_1 x5_14 M) (fun r_14_8 => (if r_14_8 = 68 then ob2 (F_X4_readNumber n T a 1 o2 M) (fun r_14_28 M_14_29 => lt' (x5_14 + 1) (fun x5_14_30 => F_X4_readForm_L14 n T a o2 j_1 k14 r_14_28 x5_14_30 M_14_29)) else (if r_14_8 = 78 then ob2 (F_X4_readNumber n T a 2 o2 M) (fun r_14_23 M_14_24 => lt' (x5_14 + 1) (fun x5_14_25 => F_X4_readForm_L14 n T a o2 j_1 k14 r_14_23 x5_14_25 M_14_24)) else (if r_14_8 = 83 then ob2 (F_X4_readSign n T a o2 M) (fun r_14_18 M_14_19 => lt' (x5_14 + 1) (fun x5_14_20 => F_X4_readForm_L14 n T a o2 j_1 k14 r_14_18 x5_14_20 M_14_19)) else ob2 (F_X4_readCharacter n T a r_14_8 M) (fun r_14_13 M_14_14 => lt' (x5_14 + 1) (fun x5_14_15 => F_X4_readForm_L14 n T a o2 j_1 k14 r_14_13 x5_14_15 M_14_14)))))))))
def F_X4_readForm (n : Nat) (T : Mem) (a : Nat) (o2 : Nat) (M : Mem) : Option (Int32 × Mem) :=
  lt' (ix (M o2 0)) (fun j_1 => chk (decide (j_1 < 11)) (F_X4_readForm_L14 n T a o2 j_1 n 1 0 M))
theorem hd_X4_readForm : yX4_readForm.cls ≠ "java/lang/invoke/MethodHandle" ∧ yX4_readForm.cls ≠ "java/lang/invoke/VarHandle" ∧ (parseMethodDescriptor yX4_readForm.desc).map (fun d => d.parameters.length) = some 2 := ⟨by decide +kernel, by decide +kernel, by decide +kernel⟩
set_option maxHeartbeats 4000000 in
set_option maxRecDepth 100000 in
theorem c_X4_readForm (l : Launch) (g : GG) (X : va_W) (r : Nat → Nat) (b : Nat → Nat) (sz n : Nat) (M : Mem) (T : Mem) (a : Nat) (ha : kdI a = 9) (o2 : Nat) (ho2 : kdI o2 = 11) {r0 : Int32} {M' : Mem} (hf : F_X4_readForm n T a o2 M = some (r0, M')) : Met l yX4_readForm (.code yX4_readForm cX4_readForm 7 (some .boolean) :: LWg) (rmD 7 0 0) (va_Pc [.ref (b a), .ref (b 370), .ref (b o2)] (PreP g (xb g r T ++ X) 372 (shI g r b) b sz M)) (Qi g (xb g r T ++ X) 372 (shI g r b) b sz r0 M') 0 0 (AA (xb g r T ++ X) b 372 sz) := by
  refine met_go (by decide +kernel) rfl (Nat.le_of_ble_eq_true rfl) ?_
  intro p e s m below meth c ls H locs C0 C1 hr hlocks hnm hsz hl hI
  subst hsz
  have hl : lv_has ls 7 [(0, .ref (b a)), (1, .ref (b 370)), (2, .ref (b o2))] := hl
  unfold F_X4_readForm at hf
  refine lv_aload_n C0.1 C0.2.1 dX4_readForm_0 rfl (lv_at hl 2 rfl) ?_
  refine r_getN (C := RX3) (T := TX3) (N9 := 3) (ci := 5) C0 C1 hI iX3 rfl o2 0 (kdlt11 ho2) (by decide) ((shI_11 ho2) _) rfl rfl 33 rfl dX4_readForm_1 ?_
  obtain ⟨j_1, e_2⟩ : ∃ z : Nat, z = ix (M o2 0) := ⟨_, rfl⟩
  rw [← e_2]
  have hf := lt_at e_2 hf
  obtain ⟨h_3, hf⟩ := chk_some hf
  have h_3 := of_decide_eq_true h_3
  refine r_form C0 C1 hI h_3 40 rfl dX4_readForm_4 ?_
  refine lv_astore_n (lv' := [(3, .ref (g.2.2 3 j_1)), (0, .ref (b a)), (1, .ref (b 370)), (2, .ref (b o2))]) C0.1 C0.2.1 dX4_readForm_7 rfl hl (by decide) rfl (fun ls hl => ?_)
  refine lv_iconst (v := 1) C0.1 C0.2.1 dX4_readForm_8 (by decide) ?_
  refine lv_istore (lv' := [(4, .int 1), (3, .ref (g.2.2 3 j_1)), (0, .ref (b a)), (1, .ref (b 370)), (2, .ref (b o2))]) C0.1 C0.2.1 dX4_readForm_9 hl (by decide) rfl (fun ls hl => ?_)
  refine lv_iconst (v := 0) C0.1 C0.2.1 dX4_readForm_11 (by decide) ?_
  refine lv_istore (lv' := [(5, .int 0), (4, .int 1), (3, .ref (g.2.2 3 j_1)), (0, .ref (b a)), (1, .ref (b 370)), (2, .ref (b o2))]) C0.1 C0.2.1 dX4_readForm_12 hl (by decide) rfl (fun ls hl => ?_)
  have L14 : ∀ (k14 : Nat) (x4_14 : Int32) (x5_14 : Int32) (M : Mem), F_X4_readForm_L14 n T a o2 j_1 k14 x4_14 x5_14 M = some (r0, M') → ∀ (H : Heap) (locs : List Loc) (ls : Array Slot), PI g (xb g r T ++ X) 372 (shI g r b) b s M H locs → lv_has ls 7 [(0, .ref (b a)), (1, .ref (b 370)), (2, .ref (b o2)), (3, .ref (g.2.2 3 j_1)), (4, .int x4_14), (5, .int x5_14)] → W p l e (rmD 7 0 0) s m ([.ref (b a), .ref (b 370), .ref (b o2)] : List Value).toArray below meth c H locs 0 0 (MQ below (Qi g (xb g r T ++ X) 372 (shI g r b) b s.heap.size r0 M') ([.ref (b a), .ref (b 370), .ref (b o2)] : List Value).toArray s 0 0 (AA (xb g r T ++ X) b 372 s.heap.size)) (F0 m 14 ls []) := by
    intro k14
    induction k14 with
    | zero => intro x4_14 x5_14 M hf; exact absurd (show (none : Option (Int32 × Mem)) = some (r0, M') from hf) (fun h => by cases h)
    | succ k14 ih14 =>
      intro x4_14 x5_14 M hf H locs ls hI hl
      unfold F_X4_readForm_L14 at hf
      refine lv_iload C0.1 C0.2.1 dX4_readForm_14 (lv_at hl 4 rfl) ?_
      refine lv_if_eq (tgt := 107) C0.1 C0.2.1 dX4_readForm_16 (by decide) (fun c_14_1 => ?_) (fun c_14_1 => ?_)
      · have hf := (if_pos c_14_1).symm.trans hf
        refine lv_iload C0.1 C0.2.1 dX4_readForm_107 (lv_at hl 4 rfl) ?_
        obtain ⟨h_14_2, hf⟩ := chk_some hf
        exact ee_zm C0 hI hr hlocks (isB_n h_14_2).1 hf dX4_readForm_109
      · have hf := (if_neg c_14_1).symm.trans hf
        refine lv_iload C0.1 C0.2.1 dX4_readForm_19 (lv_at hl 5 rfl) ?_
        refine lv_aload_n C0.1 C0.2.1 dX4_readForm_21 rfl (lv_at hl 3 rfl) ?_
        obtain ⟨r_14_4, h_14_3, hf⟩ := ob_some hf
        refine k_i C1 hI (q_St C0 C1 hI h_3 (c_J0_length_8abf5_S l g (xb g r T ++ X) r b H.size n M j_1 h_3 h_14_3) w_1081 w_1082 w_1083 w_82 w_1084 ⟨rfl, rfl⟩ hd_J0_length_8abf5 ⟨Nat.le_of_ble_eq_true rfl, Nat.le_of_ble_eq_true rfl⟩ rfl rfl hl.1 rfl (Nat.le_of_ble_eq_true rfl) dX4_readForm_22 ⟨Nat.le_of_ble_eq_true rfl, Nat.le_of_ble_eq_true rfl⟩) (fun H locs hI => ?_)
        refine lv_icmp_ge (tgt := 107) C0.1 C0.2.1 dX4_readForm_25 (by decide) (fun c_14_5 => ?_) (fun c_14_5 => ?_)
        · have hf := (if_pos c_14_5).symm.trans hf
          refine lv_iload C0.1 C0.2.1 dX4_readForm_107 (lv_at hl 4 rfl) ?_
          obtain ⟨h_14_6, hf⟩ := chk_some hf
          exact ee_zm C0 hI hr hlocks (isB_n h_14_6).1 hf dX4_readForm_109
        · have hf := (if_neg c_14_5).symm.trans hf
          refine lv_aload_n C0.1 C0.2.1 dX4_readForm_28 rfl (lv_at hl 3 rfl) ?_
          refine lv_iload C0.1 C0.2.1 dX4_readForm_29 (lv_at hl 5 rfl) ?_
          obtain ⟨r_14_8, h_14_7, hf⟩ := ob_some hf
          refine k_i C1 hI (q_St C0 C1 hI h_3 (c_J0_charAt_5068e_S l g (xb g r T ++ X) r b H.size n M j_1 h_3 x5_14 h_14_7) w_1090 w_1091 w_1092 w_82 w_1093 ⟨rfl, rfl⟩ hd_J0_charAt_5068e ⟨Nat.le_of_ble_eq_true rfl, Nat.le_of_ble_eq_true rfl⟩ rfl rfl hl.1 rfl (Nat.le_of_ble_eq_true rfl) dX4_readForm_31 ⟨Nat.le_of_ble_eq_true rfl, Nat.le_of_ble_eq_true rfl⟩) (fun H locs hI => ?_)
          refine lv_istore (lv' := [(6, .int r_14_8), (0, .ref (b a)), (1, .ref (b 370)), (2, .ref (b o2)), (3, .ref (g.2.2 3 j_1)), (4, .int x4_14), (5, .int x5_14)]) C0.1 C0.2.1 dX4_readForm_34 hl (by decide) rfl (fun ls hl => ?_)
          refine lv_iload C0.1 C0.2.1 dX4_readForm_36 (lv_at hl 0 rfl) ?_
          refine lv_bipush (v := 68) C0.1 C0.2.1 dX4_readForm_38 (by decide) ?_
          refine lv_icmp_ne (tgt := 55) C0.1 C0.2.1 dX4_readForm_40 (by decide) (fun c_14_9 => ?_) (fun c_14_9 => ?_)
          · have hf := (if_neg c_14_9).symm.trans hf
            refine lv_iload C0.1 C0.2.1 dX4_readForm_55 (lv_at hl 0 rfl) ?_
            refine lv_bipush (v := 78) C0.1 C0.2.1 dX4_readForm_57 (by decide) ?_
            refine lv_icmp_ne (tgt := 74) C0.1 C0.2.1 dX4_readForm_59 (by decide) (fun c_14_10 => ?_) (fun c_14_10 => ?_)
            · have hf := (if_neg c_14_10).symm.trans hf
              refine lv_iload C0.1 C0.2.1 dX4_readForm_74 (lv_at hl 0 rfl) ?_
              refine lv_bipush (v := 83) C0.1 C0.2.1 dX4_readForm_76 (by decide) ?_
              refine lv_icmp_ne (tgt := 92) C0.1 C0.2.1 dX4_readForm_78 (by decide) (fun c_14_11 => ?_) (fun c_14_11 => ?_)
              · have hf := (if_neg c_14_11).symm.trans hf
                refine lv_aload_n C0.1 C0.2.1 dX4_readForm_92 rfl (lv_at hl 1 rfl) ?_
                refine lv_aload_n C0.1 C0.2.1 dX4_readForm_93 rfl (lv_at hl 2 rfl) ?_
                refine lv_iload C0.1 C0.2.1 dX4_readForm_94 (lv_at hl 0 rfl) ?_
                obtain ⟨r_14_13, M_14_14, h_14_12, hf⟩ := ob2_some hf
                refine k_i C1 hI (q_V C0 C1 hI a (c_X4_readCharacter l g X r b H.size n M T a ha r_14_8 h_14_12) w_1138 w_1140 w_52 w_76 w_1141 ⟨rfl, rfl⟩ hd_X4_readCharacter ⟨Nat.le_of_ble_eq_true rfl, Nat.le_of_ble_eq_true rfl⟩ (kdlt9 ha) ((shI_9 ha) _) rfl rfl rfl hl.1 rfl (Nat.le_of_ble_eq_true rfl) dX4_readForm_96 ⟨Nat.le_of_ble_eq_true rfl, Nat.le_of_ble_eq_true rfl⟩) (fun H locs hI => ?_)
                refine lv_istore (lv' := [(4, .int r_14_13), (6, .int r_14_8), (0, .ref (b a)), (1, .ref (b 370)), (2, .ref (b o2)), (3, .ref (g.2.2 3 j_1)), (5, .int x5_14)]) C0.1 C0.2.1 dX4_readForm_99 hl (by decide) rfl (fun ls hl => ?_)
                obtain ⟨x5_14_15, e_14_16⟩ : ∃ z : Int32, z = x5_14 + 1 := ⟨_, rfl⟩
                have hf := lt_at e_14_16 hf
                refine lv_iinc (v := x5_14_15) (lv' := [(5, .int x5_14_15), (4, .int r_14_13), (6, .int r_14_8), (0, .ref (b a)), (1, .ref (b 370)), (2, .ref (b o2)), (3, .ref (g.2.2 3 j_1))]) C0.1 C0.2.1 dX4_readForm_101 hl (k := 6) rfl (by rw [e_14_16]; rfl) (by decide) rfl (fun ls hl => ?_)
                refine lv_goto (tgt := 14) C0.1 C0.2.1 dX4_readForm_104 (by decide) ?_
                exact ih14 r_14_13 x5_14_15 M_14_14 hf H locs ls hI (lv_sub hl [3, 4, 5, 6, 1, 0] rfl)
              · have hf := (if_pos c_14_11).symm.trans hf
                refine lv_aload_n C0.1 C0.2.1 dX4_readForm_81 rfl (lv_at hl 1 rfl) ?_
                refine lv_aload_n C0.1 C0.2.1 dX4_readForm_82 rfl (lv_at hl 2 rfl) ?_
                refine lv_aload_n C0.1 C0.2.1 dX4_readForm_83 rfl (lv_at hl 3 rfl) ?_
                obtain ⟨r_14_18, M_14_19, h_14_17, hf⟩ := ob2_some hf
                refine k_i C1 hI (q_V C0 C1 hI a (c_X4_readSign l g X r b H.size n M T a ha o2 ho2 h_14_17) w_1134 w_1136 w_51 w_76 w_1137 ⟨rfl, rfl⟩ hd_X4_readSign ⟨Nat.le_of_ble_eq_true rfl, Nat.le_of_ble_eq_true rfl⟩ (kdlt9 ha) ((shI_9 ha) _) rfl rfl rfl hl.1 rfl (Nat.le_of_ble_eq_true rfl) dX4_readForm_84 ⟨Nat.le_of_ble_eq_true rfl, Nat.le_of_ble_eq_true rfl⟩) (fun H locs hI => ?_)
                refine lv_istore (lv' := [(4, .int r_14_18), (6, .int r_14_8), (0, .ref (b a)), (1, .ref (b 370)), (2, .ref (b o2)), (3, .ref (g.2.2 3 j_1)), (5, .int x5_14)]) C0.1 C0.2.1 dX4_readForm_87 hl (by decide) rfl (fun ls hl => ?_)
                refine lv_goto (tgt := 101) C0.1 C0.2.1 dX4_readForm_89 (by decide) ?_
                obtain ⟨x5_14_20, e_14_21⟩ : ∃ z : Int32, z = x5_14 + 1 := ⟨_, rfl⟩
                have hf := lt_at e_14_21 hf
                refine lv_iinc (v := x5_14_20) (lv' := [(5, .int x5_14_20), (4, .int r_14_18), (6, .int r_14_8), (0, .ref (b a)), (1, .ref (b 370)), (2, .ref (b o2)), (3, .ref (g.2.2 3 j_1))]) C0.1 C0.2.1 dX4_readForm_101 hl (k := 6) rfl (by rw [e_14_21]; rfl) (by decide) rfl (fun ls hl => ?_)
                refine lv_goto (tgt := 14) C0.1 C0.2.1 dX4_readForm_104 (by decide) ?_
                exact ih14 r_14_18 x5_14_20 M_14_19 hf H locs ls hI (lv_sub hl [3, 4, 5, 6, 1, 0] rfl)
            · have hf := (if_pos c_14_10).symm.trans hf
              refine lv_aload_n C0.1 C0.2.1 dX4_readForm_62 rfl (lv_at hl 1 rfl) ?_
              refine lv_aload_n C0.1 C0.2.1 dX4_readForm_63 rfl (lv_at hl 2 rfl) ?_
              refine lv_iconst (v := 2) C0.1 C0.2.1 dX4_readForm_64 (by decide) ?_
              refine lv_aload_n C0.1 C0.2.1 dX4_readForm_65 rfl (lv_at hl 3 rfl) ?_
              obtain ⟨r_14_23, M_14_24, h_14_22, hf⟩ := ob2_some hf
              refine k_i C1 hI (q_V C0 C1 hI a (c_X4_readNumber l g X r b H.size n M T a ha 2 o2 ho2 h_14_22) w_1108 w_1110 w_48 w_76 w_1111 ⟨rfl, rfl⟩ hd_X4_readNumber ⟨Nat.le_of_ble_eq_true rfl, Nat.le_of_ble_eq_true rfl⟩ (kdlt9 ha) ((shI_9 ha) _) rfl rfl rfl hl.1 rfl (Nat.le_of_ble_eq_true rfl) dX4_readForm_66 ⟨Nat.le_of_ble_eq_true rfl, Nat.le_of_ble_eq_true rfl⟩) (fun H locs hI => ?_)
              refine lv_istore (lv' := [(4, .int r_14_23), (6, .int r_14_8), (0, .ref (b a)), (1, .ref (b 370)), (2, .ref (b o2)), (3, .ref (g.2.2 3 j_1)), (5, .int x5_14)]) C0.1 C0.2.1 dX4_readForm_69 hl (by decide) rfl (fun ls hl => ?_)
              refine lv_goto (tgt := 101) C0.1 C0.2.1 dX4_readForm_71 (by decide) ?_
              obtain ⟨x5_14_25, e_14_26⟩ : ∃ z : Int32, z = x5_14 + 1 := ⟨_, rfl⟩
              have hf := lt_at e_14_26 hf
              refine lv_iinc (v := x5_14_25) (lv' := [(5, .int x5_14_25), (4, .int r_14_23), (6, .int r_14_8), (0, .ref (b a)), (1, .ref (b 370)), (2, .ref (b o2)), (3, .ref (g.2.2 3 j_1))]) C0.1 C0.2.1 dX4_readForm_101 hl (k := 6) rfl (by rw [e_14_26]; rfl) (by decide) rfl (fun ls hl => ?_)
              refine lv_goto (tgt := 14) C0.1 C0.2.1 dX4_readForm_104 (by decide) ?_
              exact ih14 r_14_23 x5_14_25 M_14_24 hf H locs ls hI (lv_sub hl [3, 4, 5, 6, 1, 0] rfl)
          · have hf := (if_pos c_14_9).symm.trans hf
            refine lv_aload_n C0.1 C0.2.1 dX4_readForm_43 rfl (lv_at hl 1 rfl) ?_
            refine lv_aload_n C0.1 C0.2.1 dX4_readForm_44 rfl (lv_at hl 2 rfl) ?_
            refine lv_iconst (v := 1) C0.1 C0.2.1 dX4_readForm_45 (by decide) ?_
            refine lv_aload_n C0.1 C0.2.1 dX4_readForm_46 rfl (lv_at hl 3 rfl) ?_
            obtain ⟨r_14_28, M_14_29, h_14_27, hf⟩ := ob2_some hf
            refine k_i C1 hI (q_V C0 C1 hI a (c_X4_readNumber l g X r b H.size n M T a ha 1 o2 ho2 h_14_27) w_1108 w_1110 w_48 w_76 w_1111 ⟨rfl, rfl⟩ hd_X4_readNumber ⟨Nat.le_of_ble_eq_true rfl, Nat.le_of_ble_eq_true rfl⟩ (kdlt9 ha) ((shI_9 ha) _) rfl rfl rfl hl.1 rfl (Nat.le_of_ble_eq_true rfl) dX4_readForm_47 ⟨Nat.le_of_ble_eq_true rfl, Nat.le_of_ble_eq_true rfl⟩) (fun H locs hI => ?_)
            refine lv_istore (lv' := [(4, .int r_14_28), (6, .int r_14_8), (0, .ref (b a)), (1, .ref (b 370)), (2, .ref (b o2)), (3, .ref (g.2.2 3 j_1)), (5, .int x5_14)]) C0.1 C0.2.1 dX4_readForm_50 hl (by decide) rfl (fun ls hl => ?_)
            refine lv_goto (tgt := 101) C0.1 C0.2.1 dX4_readForm_52 (by decide) ?_
            obtain ⟨x5_14_30, e_14_31⟩ : ∃ z : Int32, z = x5_14 + 1 := ⟨_, rfl⟩
            have hf := lt_at e_14_31 hf
            refine lv_iinc (v := x5_14_30) (lv' := [(5, .int x5_14_30), (4, .int r_14_28), (6, .int r_14_8), (0, .ref (b a)), (1, .ref (b 370)), (2, .ref (b o2)), (3, .ref (g.2.2 3 j_1))]) C0.1 C0.2.1 dX4_readForm_101 hl (k := 6) rfl (by rw [e_14_31]; rfl) (by decide) rfl (fun ls hl => ?_)
            refine lv_goto (tgt := 14) C0.1 C0.2.1 dX4_readForm_104 (by decide) ?_
            exact ih14 r_14_28 x5_14_30 M_14_29 hf H locs ls hI (lv_sub hl [3, 4, 5, 6, 1, 0] rfl)
  exact L14 n 1 0 M hf H locs ls hI (lv_sub hl [3, 4, 5, 2, 1, 0] rfl)

def F_X4_readCommand_L11 (n : Nat) (T : Mem) (a : Nat) (o2 : Nat) : Nat → Int32 → Int32 → Int32 → Mem → Option (Int32 × Mem)
  | 0, _, _, _, _ => none
  | k11 + 1, x3_11, x4_11, x5_11, M =>
    (if (11 : Int32) ≤ x5_11 then lt' (up2 M a 2 x4_11) (fun M_11_2 => some (0, M_11_2)) else lt' (up2 M a 2 x3_11) (fun M_11_4 => chk (inb x5_11 11) (lt' (up2 M_11_4 o2 0 x5_11) (fun M_11_7 => lt' (up2 M_11_7 o2 2 0) (fun M_11_9 => ob2 (F_X4_readForm n T a o2 M_11_9) (fun r_11_12 M_11_13 => (if r_11_12 = 0 then lt' (if x4_11 < (M_11_13 a 2) then (M_11_13 a 2) else x4_11) (fun x4_11_15 => lt' (x5_11 + 1) (fun x5_11_17 => F_X4_readCommand_L11 n T a o2 k11 x3_11 x4_11_15 x5_11_17 M_11_13)) else some (1, M_11_13))))))))
def F_X4_readCommand (n : Nat) (T : Mem) (a : Nat) (o2 : Nat) (M : Mem) : Option (Int32 × Mem) :=
  lt' (M a 2) (fun x3_1 => F_X4_readCommand_L11 n T a o2 n x3_1 x3_1 0 M)
theorem hd_X4_readCommand : yX4_readCommand.cls ≠ "java/lang/invoke/MethodHandle" ∧ yX4_readCommand.cls ≠ "java/lang/invoke/VarHandle" ∧ (parseMethodDescriptor yX4_readCommand.desc).map (fun d => d.parameters.length) = some 2 := ⟨by decide +kernel, by decide +kernel, by decide +kernel⟩
set_option maxHeartbeats 4000000 in
set_option maxRecDepth 100000 in
theorem c_X4_readCommand (l : Launch) (g : GG) (X : va_W) (r : Nat → Nat) (b : Nat → Nat) (sz n : Nat) (M : Mem) (T : Mem) (a : Nat) (ha : kdI a = 9) (o2 : Nat) (ho2 : kdI o2 = 11) {r0 : Int32} {M' : Mem} (hf : F_X4_readCommand n T a o2 M = some (r0, M')) : Met l yX4_readCommand (.code yX4_readCommand cX4_readCommand 6 (some .boolean) :: LWg) (rmD 8 0 0) (va_Pc [.ref (b a), .ref (b 370), .ref (b o2)] (PreP g (xb g r T ++ X) 372 (shI g r b) b sz M)) (Qi g (xb g r T ++ X) 372 (shI g r b) b sz r0 M') 0 0 (AA (xb g r T ++ X) b 372 sz) := by
  refine met_go (by decide +kernel) rfl (Nat.le_of_ble_eq_true rfl) ?_
  intro p e s m below meth c ls H locs C0 C1 hr hlocks hnm hsz hl hI
  subst hsz
  have hl : lv_has ls 6 [(0, .ref (b a)), (1, .ref (b 370)), (2, .ref (b o2))] := hl
  unfold F_X4_readCommand at hf
  refine lv_aload_n C0.1 C0.2.1 dX4_readCommand_0 rfl (lv_at hl 0 rfl) ?_
  refine r_get (C := RX4) (T := TX4) (N9 := 3) (ci := 6) C0 C1 hI iX4 rfl a 2 (kdlt9 ha) (by decide) ((shI_9 ha) _) rfl rfl w_300 dX4_readCommand_1 ?_
  refine lv_topi (fun x3_1 e_2 => ?_)
  have hf := lt_at e_2 hf
  refine lv_istore_n (lv' := [(3, .int x3_1), (0, .ref (b a)), (1, .ref (b 370)), (2, .ref (b o2))]) C0.1 C0.2.1 dX4_readCommand_4 rfl hl (by decide) rfl (fun ls hl => ?_)
  refine lv_iload_n C0.1 C0.2.1 dX4_readCommand_5 rfl (lv_at hl 0 rfl) ?_
  refine lv_istore (lv' := [(4, .int x3_1), (3, .int x3_1), (0, .ref (b a)), (1, .ref (b 370)), (2, .ref (b o2))]) C0.1 C0.2.1 dX4_readCommand_6 hl (by decide) rfl (fun ls hl => ?_)
  refine lv_iconst (v := 0) C0.1 C0.2.1 dX4_readCommand_8 (by decide) ?_
  refine lv_istore (lv' := [(5, .int 0), (4, .int x3_1), (3, .int x3_1), (0, .ref (b a)), (1, .ref (b 370)), (2, .ref (b o2))]) C0.1 C0.2.1 dX4_readCommand_9 hl (by decide) rfl (fun ls hl => ?_)
  have L11 : ∀ (k11 : Nat) (x3_11 : Int32) (x4_11 : Int32) (x5_11 : Int32) (M : Mem), F_X4_readCommand_L11 n T a o2 k11 x3_11 x4_11 x5_11 M = some (r0, M') → ∀ (H : Heap) (locs : List Loc) (ls : Array Slot), PI g (xb g r T ++ X) 372 (shI g r b) b s M H locs → lv_has ls 6 [(0, .ref (b a)), (1, .ref (b 370)), (2, .ref (b o2)), (3, .int x3_11), (4, .int x4_11), (5, .int x5_11)] → W p l e (rmD 8 0 0) s m ([.ref (b a), .ref (b 370), .ref (b o2)] : List Value).toArray below meth c H locs 0 0 (MQ below (Qi g (xb g r T ++ X) 372 (shI g r b) b s.heap.size r0 M') ([.ref (b a), .ref (b 370), .ref (b o2)] : List Value).toArray s 0 0 (AA (xb g r T ++ X) b 372 s.heap.size)) (F0 m 11 ls []) := by
    intro k11
    induction k11 with
    | zero => intro x3_11 x4_11 x5_11 M hf; exact absurd (show (none : Option (Int32 × Mem)) = some (r0, M') from hf) (fun h => by cases h)
    | succ k11 ih11 =>
      intro x3_11 x4_11 x5_11 M hf H locs ls hI hl
      unfold F_X4_readCommand_L11 at hf
      refine lv_iload C0.1 C0.2.1 dX4_readCommand_11 (lv_at hl 5 rfl) ?_
      refine r_acts C0 C1 hI w_1075 dX4_readCommand_13 ?_
      refine r_aclen C0 C1 hI dX4_readCommand_16 ?_
      refine lv_icmp_ge (tgt := 68) C0.1 C0.2.1 dX4_readCommand_17 (by decide) (fun c_11_1 => ?_) (fun c_11_1 => ?_)
      · have hf := (if_pos c_11_1).symm.trans hf
        refine lv_aload_n C0.1 C0.2.1 dX4_readCommand_68 rfl (lv_at hl 0 rfl) ?_
        refine lv_iload C0.1 C0.2.1 dX4_readCommand_69 (lv_at hl 4 rfl) ?_
        refine r_put (C := RX4) (T := TX4) (N9 := 3) (ci := 6) (fs := fR b a) (ty := .int) C0 C1 hI iX4 tyX4 tyX4_ok nmX4 rfl a 2 (kdlt9 ha) (by decide) (shI_9 ha) rfl rfl rfl (by decide +kernel) ⟨rfl, rfl⟩ (Nat.le_of_ble_eq_true rfl) w_300 dX4_readCommand_71 (fun H locs hI => ?_)
        obtain ⟨M_11_2, e_11_3⟩ : ∃ z : Mem, z = up2 M a 2 x4_11 := ⟨_, rfl⟩
        rw [← e_11_3] at hI
        have hf := lt_at e_11_3 hf
        refine lv_iconst (v := 0) C0.1 C0.2.1 dX4_readCommand_74 (by decide) ?_
        exact ee_zm C0 hI hr hlocks rfl hf dX4_readCommand_75
      · have hf := (if_neg c_11_1).symm.trans hf
        refine lv_aload_n C0.1 C0.2.1 dX4_readCommand_20 rfl (lv_at hl 0 rfl) ?_
        refine lv_iload_n C0.1 C0.2.1 dX4_readCommand_21 rfl (lv_at hl 3 rfl) ?_
        refine r_put (C := RX4) (T := TX4) (N9 := 3) (ci := 6) (fs := fR b a) (ty := .int) C0 C1 hI iX4 tyX4 tyX4_ok nmX4 rfl a 2 (kdlt9 ha) (by decide) (shI_9 ha) rfl rfl rfl (by decide +kernel) ⟨rfl, rfl⟩ (Nat.le_of_ble_eq_true rfl) w_300 dX4_readCommand_22 (fun H locs hI => ?_)
        obtain ⟨M_11_4, e_11_5⟩ : ∃ z : Mem, z = up2 M a 2 x3_11 := ⟨_, rfl⟩
        rw [← e_11_5] at hI
        have hf := lt_at e_11_5 hf
        refine lv_aload_n C0.1 C0.2.1 dX4_readCommand_25 rfl (lv_at hl 2 rfl) ?_
        refine r_acts C0 C1 hI w_1075 dX4_readCommand_26 ?_
        refine lv_iload C0.1 C0.2.1 dX4_readCommand_29 (lv_at hl 5 rfl) ?_
        obtain ⟨h_11_6, hf⟩ := chk_some hf
        refine r_acld C0 C1 hI h_11_6 dX4_readCommand_31 ?_
        refine r_putaN C0 C1 hI ho2 33 rfl dX4_readCommand_32 (fun H locs hI => ?_)
        obtain ⟨M_11_7, e_11_8⟩ : ∃ z : Mem, z = up2 M_11_4 o2 0 x5_11 := ⟨_, rfl⟩
        rw [← e_11_8] at hI
        have hf := lt_at e_11_8 hf
        refine lv_aload_n C0.1 C0.2.1 dX4_readCommand_35 rfl (lv_at hl 2 rfl) ?_
        refine lv_iconst (v := 0) C0.1 C0.2.1 dX4_readCommand_36 (by decide) ?_
        refine r_putN (C := RX3) (T := TX3) (N9 := 3) (ci := 5) (fs := fC g b o2) (ty := .int) C0 C1 hI iX3 tyX3 tyX3_ok nmX3 rfl o2 2 (kdlt11 ho2) (by decide) (shI_11 ho2) rfl rfl rfl (by decide +kernel) ⟨rfl, rfl⟩ (Nat.le_of_ble_eq_true rfl) 36 rfl dX4_readCommand_37 (fun H locs hI => ?_)
        obtain ⟨M_11_9, e_11_10⟩ : ∃ z : Mem, z = up2 M_11_7 o2 2 0 := ⟨_, rfl⟩
        rw [← e_11_10] at hI
        have hf := lt_at e_11_10 hf
        refine lv_aload_n C0.1 C0.2.1 dX4_readCommand_40 rfl (lv_at hl 0 rfl) ?_
        refine lv_aload_n C0.1 C0.2.1 dX4_readCommand_41 rfl (lv_at hl 1 rfl) ?_
        refine lv_aload_n C0.1 C0.2.1 dX4_readCommand_42 rfl (lv_at hl 2 rfl) ?_
        obtain ⟨r_11_12, M_11_13, h_11_11, hf⟩ := ob2_some hf
        refine k_i C1 hI (q_V C0 C1 hI a (c_X4_readForm l g X r b H.size n M_11_9 T a ha o2 ho2 h_11_11) w_1077 w_1079 w_47 w_76 w_1080 ⟨rfl, rfl⟩ hd_X4_readForm ⟨Nat.le_of_ble_eq_true rfl, Nat.le_of_ble_eq_true rfl⟩ (kdlt9 ha) ((shI_9 ha) _) rfl rfl rfl hl.1 rfl (Nat.le_of_ble_eq_true rfl) dX4_readCommand_43 ⟨Nat.le_of_ble_eq_true rfl, Nat.le_of_ble_eq_true rfl⟩) (fun H locs hI => ?_)
        refine lv_if_eq (tgt := 51) C0.1 C0.2.1 dX4_readCommand_46 (by decide) (fun c_11_14 => ?_) (fun c_11_14 => ?_)
        · have hf := (if_pos c_11_14).symm.trans hf
          refine lv_iload C0.1 C0.2.1 dX4_readCommand_51 (lv_at hl 4 rfl) ?_
          refine lv_aload_n C0.1 C0.2.1 dX4_readCommand_53 rfl (lv_at hl 0 rfl) ?_
          refine r_get (C := RX4) (T := TX4) (N9 := 3) (ci := 6) C0 C1 hI iX4 rfl a 2 (kdlt9 ha) (by decide) ((shI_9 ha) _) rfl rfl w_300 dX4_readCommand_54 ?_
          refine r_mmax C0 hl.1 w_1142 (Nat.le_of_ble_eq_true rfl) (Nat.le_of_ble_eq_true rfl) (Nat.le_of_ble_eq_true rfl) (Nat.le_of_ble_eq_true rfl) dX4_readCommand_57 ?_
          refine lv_topi (fun x4_11_15 e_11_16 => ?_)
          have hf := lt_at e_11_16 hf
          refine lv_istore (lv' := [(4, .int x4_11_15), (0, .ref (b a)), (1, .ref (b 370)), (2, .ref (b o2)), (3, .int x3_11), (5, .int x5_11)]) C0.1 C0.2.1 dX4_readCommand_60 hl (by decide) rfl (fun ls hl => ?_)
          obtain ⟨x5_11_17, e_11_18⟩ : ∃ z : Int32, z = x5_11 + 1 := ⟨_, rfl⟩
          have hf := lt_at e_11_18 hf
          refine lv_iinc (v := x5_11_17) (lv' := [(5, .int x5_11_17), (4, .int x4_11_15), (0, .ref (b a)), (1, .ref (b 370)), (2, .ref (b o2)), (3, .int x3_11)]) C0.1 C0.2.1 dX4_readCommand_62 hl (k := 5) rfl (by rw [e_11_18]; rfl) (by decide) rfl (fun ls hl => ?_)
          refine lv_goto (tgt := 11) C0.1 C0.2.1 dX4_readCommand_65 (by decide) ?_
          exact ih11 x3_11 x4_11_15 x5_11_17 M_11_13 hf H locs ls hI (lv_sub hl [2, 3, 4, 5, 1, 0] rfl)
        · have hf := (if_neg c_11_14).symm.trans hf
          refine lv_iconst (v := 1) C0.1 C0.2.1 dX4_readCommand_49 (by decide) ?_
          exact ee_zm C0 hI hr hlocks rfl hf dX4_readCommand_50
  exact L11 n x3_1 x3_1 0 M hf H locs ls hI (lv_sub hl [3, 4, 5, 2, 1, 0] rfl)

def F_X4_read_L10 (n : Nat) (T : Mem) (a : Nat) : Nat → Mem → Option (Int32 × Mem)
  | 0, _ => none
  | k10 + 1, M =>
    (if 11 ≤ (M a 1) then some (0, M) else chk (inb (M a 1) 11) (ob2 (F_X4_readCommand n T a (a + 1 + 1 + 2 * ix (M a 1)) M) (fun r_10_4 M_10_5 => (if r_10_4 = 0 then some (0, M_10_5) else lt' (up2 M_10_5 a 1 ((M_10_5 a 1) + 1)) (fun M_10_7 => ob (F_J4_length_8abf5_t n T M_10_7) (fun r_10_10 => (if (M_10_7 a 2) = r_10_10 then some (1, M_10_7) else ob (F_X4_charAtPosition n T a M_10_7) (fun r_10_13 => (if r_10_13 = 59 then lt' (up2 M_10_7 a 2 ((M_10_7 a 2) + 1)) (fun M_10_15 => F_X4_read_L10 n T a k10 M_10_15) else some (0, M_10_7))))))))))
def F_X4_read (n : Nat) (T : Mem) (a : Nat) (M : Mem) : Option (Int32 × Mem) :=
  lt' (up2 M a 1 0) (fun M_1 => lt' (up2 M_1 a 2 0) (fun M_3 => F_X4_read_L10 n T a n M_3))
theorem hd_X4_read : yX4_read.cls ≠ "java/lang/invoke/MethodHandle" ∧ yX4_read.cls ≠ "java/lang/invoke/VarHandle" ∧ (parseMethodDescriptor yX4_read.desc).map (fun d => d.parameters.length) = some 1 := ⟨by decide +kernel, by decide +kernel, by decide +kernel⟩
set_option maxHeartbeats 4000000 in
set_option maxRecDepth 100000 in
theorem c_X4_read (l : Launch) (g : GG) (X : va_W) (r : Nat → Nat) (b : Nat → Nat) (sz n : Nat) (M : Mem) (T : Mem) (a : Nat) (ha : kdI a = 9) {r0 : Int32} {M' : Mem} (hf : F_X4_read n T a M = some (r0, M')) : Met l yX4_read (.code yX4_read cX4_read 2 (some .boolean) :: LWg) (rmD 9 0 0) (va_Pc [.ref (b a), .ref (b 370)] (PreP g (xb g r T ++ X) 372 (shI g r b) b sz M)) (Qi g (xb g r T ++ X) 372 (shI g r b) b sz r0 M') 0 0 (AA (xb g r T ++ X) b 372 sz) := by
  refine met_go (by decide +kernel) rfl (Nat.le_of_ble_eq_true rfl) ?_
  intro p e s m below meth c ls H locs C0 C1 hr hlocks hnm hsz hl hI
  subst hsz
  have hl : lv_has ls 2 [(0, .ref (b a)), (1, .ref (b 370))] := hl
  unfold F_X4_read at hf
  refine lv_aload_n C0.1 C0.2.1 dX4_read_0 rfl (lv_at hl 0 rfl) ?_
  refine lv_iconst (v := 0) C0.1 C0.2.1 dX4_read_1 (by decide) ?_
  refine r_put (C := RX4) (T := TX4) (N9 := 3) (ci := 6) (fs := fR b a) (ty := .int) C0 C1 hI iX4 tyX4 tyX4_ok nmX4 rfl a 1 (kdlt9 ha) (by decide) (shI_9 ha) rfl rfl rfl (by decide +kernel) ⟨rfl, rfl⟩ (Nat.le_of_ble_eq_true rfl) w_298 dX4_read_2 (fun H locs hI => ?_)
  obtain ⟨M_1, e_2⟩ : ∃ z : Mem, z = up2 M a 1 0 := ⟨_, rfl⟩
  rw [← e_2] at hI
  have hf := lt_at e_2 hf
  refine lv_aload_n C0.1 C0.2.1 dX4_read_5 rfl (lv_at hl 0 rfl) ?_
  refine lv_iconst (v := 0) C0.1 C0.2.1 dX4_read_6 (by decide) ?_
  refine r_put (C := RX4) (T := TX4) (N9 := 3) (ci := 6) (fs := fR b a) (ty := .int) C0 C1 hI iX4 tyX4 tyX4_ok nmX4 rfl a 2 (kdlt9 ha) (by decide) (shI_9 ha) rfl rfl rfl (by decide +kernel) ⟨rfl, rfl⟩ (Nat.le_of_ble_eq_true rfl) w_300 dX4_read_7 (fun H locs hI => ?_)
  obtain ⟨M_3, e_4⟩ : ∃ z : Mem, z = up2 M_1 a 2 0 := ⟨_, rfl⟩
  rw [← e_4] at hI
  have hf := lt_at e_4 hf
  have L10 : ∀ (k10 : Nat) (M : Mem), F_X4_read_L10 n T a k10 M = some (r0, M') → ∀ (H : Heap) (locs : List Loc) (ls : Array Slot), PI g (xb g r T ++ X) 372 (shI g r b) b s M H locs → lv_has ls 2 [(0, .ref (b a)), (1, .ref (b 370))] → W p l e (rmD 9 0 0) s m ([.ref (b a), .ref (b 370)] : List Value).toArray below meth c H locs 0 0 (MQ below (Qi g (xb g r T ++ X) 372 (shI g r b) b s.heap.size r0 M') ([.ref (b a), .ref (b 370)] : List Value).toArray s 0 0 (AA (xb g r T ++ X) b 372 s.heap.size)) (F0 m 10 ls []) := by
    intro k10
    induction k10 with
    | zero => intro M hf; exact absurd (show (none : Option (Int32 × Mem)) = some (r0, M') from hf) (fun h => by cases h)
    | succ k10 ih10 =>
      intro M hf H locs ls hI hl
      unfold F_X4_read_L10 at hf
      refine lv_aload_n C0.1 C0.2.1 dX4_read_10 rfl (lv_at hl 0 rfl) ?_
      refine r_get (C := RX4) (T := TX4) (N9 := 3) (ci := 6) C0 C1 hI iX4 rfl a 1 (kdlt9 ha) (by decide) ((shI_9 ha) _) rfl rfl w_298 dX4_read_11 ?_
      refine lv_bipush (v := 11) C0.1 C0.2.1 dX4_read_14 (by decide) ?_
      refine lv_icmp_ge (tgt := 86) C0.1 C0.2.1 dX4_read_16 (by decide) (fun c_10_1 => ?_) (fun c_10_1 => ?_)
      · have hf := (if_pos c_10_1).symm.trans hf
        refine lv_iconst (v := 0) C0.1 C0.2.1 dX4_read_86 (by decide) ?_
        exact ee_zm C0 hI hr hlocks rfl hf dX4_read_87
      · have hf := (if_neg c_10_1).symm.trans hf
        refine lv_aload_n C0.1 C0.2.1 dX4_read_19 rfl (lv_at hl 0 rfl) ?_
        refine lv_aload_n C0.1 C0.2.1 dX4_read_20 rfl (lv_at hl 1 rfl) ?_
        refine lv_aload_n C0.1 C0.2.1 dX4_read_21 rfl (lv_at hl 0 rfl) ?_
        refine r_get (C := RX4) (T := TX4) (N9 := 3) (ci := 6) C0 C1 hI iX4 rfl a 0 (kdlt9 ha) (by decide) ((shI_9 ha) _) rfl rfl w_296 dX4_read_22 ?_
        refine lv_aload_n C0.1 C0.2.1 dX4_read_25 rfl (lv_at hl 0 rfl) ?_
        refine r_get (C := RX4) (T := TX4) (N9 := 3) (ci := 6) C0 C1 hI iX4 rfl a 1 (kdlt9 ha) (by decide) ((shI_9 ha) _) rfl rfl w_298 dX4_read_26 ?_
        obtain ⟨h_10_2, hf⟩ := chk_some hf
        refine r_aald (t0 := 3) C0 C1 hI (a + 1) (kdlt10 (kd9_1 ha)) (shI_10 (kd9_1 ha)) rfl h_10_2 rfl dX4_read_29 ?_
        obtain ⟨r_10_4, M_10_5, h_10_3, hf⟩ := ob2_some hf
        refine k_i C1 hI (q_V C0 C1 hI a (c_X4_readCommand l g X r b H.size n M T a ha (a + 1 + 1 + 2 * ix (M a 1)) (kd10_i (kd9_1 ha) h_10_2) h_10_3) w_1071 w_1073 w_46 w_76 w_1074 ⟨rfl, rfl⟩ hd_X4_readCommand ⟨Nat.le_of_ble_eq_true rfl, Nat.le_of_ble_eq_true rfl⟩ (kdlt9 ha) ((shI_9 ha) _) rfl rfl rfl hl.1 rfl (Nat.le_of_ble_eq_true rfl) dX4_read_30 ⟨Nat.le_of_ble_eq_true rfl, Nat.le_of_ble_eq_true rfl⟩) (fun H locs hI => ?_)
        refine lv_if_ne (tgt := 38) C0.1 C0.2.1 dX4_read_33 (by decide) (fun c_10_6 => ?_) (fun c_10_6 => ?_)
        · have hf := (if_neg c_10_6).symm.trans hf
          refine lv_aload_n C0.1 C0.2.1 dX4_read_38 rfl (lv_at hl 0 rfl) ?_
          refine lv_dup C0.1 C0.2.1 dX4_read_39 rfl ?_
          refine r_get (C := RX4) (T := TX4) (N9 := 3) (ci := 6) C0 C1 hI iX4 rfl a 1 (kdlt9 ha) (by decide) ((shI_9 ha) _) rfl rfl w_298 dX4_read_40 ?_
          refine lv_iconst (v := 1) C0.1 C0.2.1 dX4_read_43 (by decide) ?_
          refine lv_iadd C0.1 C0.2.1 dX4_read_44 ?_
          refine r_put (C := RX4) (T := TX4) (N9 := 3) (ci := 6) (fs := fR b a) (ty := .int) C0 C1 hI iX4 tyX4 tyX4_ok nmX4 rfl a 1 (kdlt9 ha) (by decide) (shI_9 ha) rfl rfl rfl (by decide +kernel) ⟨rfl, rfl⟩ (Nat.le_of_ble_eq_true rfl) w_298 dX4_read_45 (fun H locs hI => ?_)
          obtain ⟨M_10_7, e_10_8⟩ : ∃ z : Mem, z = up2 M_10_5 a 1 ((M_10_5 a 1) + 1) := ⟨_, rfl⟩
          rw [← e_10_8] at hI
          have hf := lt_at e_10_8 hf
          refine lv_aload_n C0.1 C0.2.1 dX4_read_48 rfl (lv_at hl 0 rfl) ?_
          refine r_get (C := RX4) (T := TX4) (N9 := 3) (ci := 6) C0 C1 hI iX4 rfl a 2 (kdlt9 ha) (by decide) ((shI_9 ha) _) rfl rfl w_300 dX4_read_49 ?_
          refine lv_aload_n C0.1 C0.2.1 dX4_read_52 rfl (lv_at hl 1 rfl) ?_
          obtain ⟨r_10_10, h_10_9, hf⟩ := ob_some hf
          refine k_i C1 hI (q_V C0 C1 hI 370 (c_J4_length_8abf5_t l g X r b H.size n M_10_7 T h_10_9) w_1116 w_960 w_961 w_81 w_962 ⟨rfl, rfl⟩ hd_J4_length_8abf5 ⟨Nat.le_of_ble_eq_true rfl, Nat.le_of_ble_eq_true rfl⟩ (kdlt13 (rfl : kdI 370 = 13)) (shI_13 (rfl : kdI 370 = 13) _) rfl rfl rfl hl.1 rfl (Nat.le_of_ble_eq_true rfl) dX4_read_53 ⟨Nat.le_of_ble_eq_true rfl, Nat.le_of_ble_eq_true rfl⟩) (fun H locs hI => ?_)
          refine lv_icmp_ne (tgt := 61) C0.1 C0.2.1 dX4_read_56 (by decide) (fun c_10_11 => ?_) (fun c_10_11 => ?_)
          · have hf := (if_neg c_10_11).symm.trans hf
            refine lv_aload_n C0.1 C0.2.1 dX4_read_61 rfl (lv_at hl 0 rfl) ?_
            refine lv_aload_n C0.1 C0.2.1 dX4_read_62 rfl (lv_at hl 1 rfl) ?_
            obtain ⟨r_10_13, h_10_12, hf⟩ := ob_some hf
            refine k_i C1 hI (q_V C0 C1 hI a (c_X4_charAtPosition l g X r b H.size n M_10_7 T a ha h_10_12) w_1112 w_1114 w_49 w_76 w_1115 ⟨rfl, rfl⟩ hd_X4_charAtPosition ⟨Nat.le_of_ble_eq_true rfl, Nat.le_of_ble_eq_true rfl⟩ (kdlt9 ha) ((shI_9 ha) _) rfl rfl rfl hl.1 rfl (Nat.le_of_ble_eq_true rfl) dX4_read_63 ⟨Nat.le_of_ble_eq_true rfl, Nat.le_of_ble_eq_true rfl⟩) (fun H locs hI => ?_)
            refine lv_bipush (v := 59) C0.1 C0.2.1 dX4_read_66 (by decide) ?_
            refine lv_icmp_eq (tgt := 73) C0.1 C0.2.1 dX4_read_68 (by decide) (fun c_10_14 => ?_) (fun c_10_14 => ?_)
            · have hf := (if_pos c_10_14).symm.trans hf
              refine lv_aload_n C0.1 C0.2.1 dX4_read_73 rfl (lv_at hl 0 rfl) ?_
              refine lv_dup C0.1 C0.2.1 dX4_read_74 rfl ?_
              refine r_get (C := RX4) (T := TX4) (N9 := 3) (ci := 6) C0 C1 hI iX4 rfl a 2 (kdlt9 ha) (by decide) ((shI_9 ha) _) rfl rfl w_300 dX4_read_75 ?_
              refine lv_iconst (v := 1) C0.1 C0.2.1 dX4_read_78 (by decide) ?_
              refine lv_iadd C0.1 C0.2.1 dX4_read_79 ?_
              refine r_put (C := RX4) (T := TX4) (N9 := 3) (ci := 6) (fs := fR b a) (ty := .int) C0 C1 hI iX4 tyX4 tyX4_ok nmX4 rfl a 2 (kdlt9 ha) (by decide) (shI_9 ha) rfl rfl rfl (by decide +kernel) ⟨rfl, rfl⟩ (Nat.le_of_ble_eq_true rfl) w_300 dX4_read_80 (fun H locs hI => ?_)
              obtain ⟨M_10_15, e_10_16⟩ : ∃ z : Mem, z = up2 M_10_7 a 2 ((M_10_7 a 2) + 1) := ⟨_, rfl⟩
              rw [← e_10_16] at hI
              have hf := lt_at e_10_16 hf
              refine lv_goto (tgt := 10) C0.1 C0.2.1 dX4_read_83 (by decide) ?_
              exact ih10 M_10_15 hf H locs ls hI (lv_sub hl [0, 1] rfl)
            · have hf := (if_neg c_10_14).symm.trans hf
              refine lv_iconst (v := 0) C0.1 C0.2.1 dX4_read_71 (by decide) ?_
              exact ee_zm C0 hI hr hlocks rfl hf dX4_read_72
          · have hf := (if_pos c_10_11).symm.trans hf
            refine lv_iconst (v := 1) C0.1 C0.2.1 dX4_read_59 (by decide) ?_
            exact ee_zm C0 hI hr hlocks rfl hf dX4_read_60
        · have hf := (if_pos c_10_6).symm.trans hf
          refine lv_iconst (v := 0) C0.1 C0.2.1 dX4_read_36 (by decide) ?_
          exact ee_zm C0 hI hr hlocks rfl hf dX4_read_37
  exact L10 n M_3 hf H locs ls hI (lv_sub hl [0, 1] rfl)
