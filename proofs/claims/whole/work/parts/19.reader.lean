def F_X4_charAtPosition (n : Nat) (T : Mem) (a : Nat) (M : Mem) : Option Int32 :=
  ob (F_J4_length_8abf5_t n T M) (fun r_2 => (if r_2 ≤ (M a 2) then some 0 else ob (F_J4_charAt_5068e_t n T (M a 2) M) (fun r_5 => chk (isC r_5) (some r_5))))
theorem hd_X4_charAtPosition : yX4_charAtPosition.cls ≠ "java/lang/invoke/MethodHandle" ∧ yX4_charAtPosition.cls ≠ "java/lang/invoke/VarHandle" ∧ (parseMethodDescriptor yX4_charAtPosition.desc).map (fun d => d.parameters.length) = some 1 := ⟨by decide +kernel, by decide +kernel, by decide +kernel⟩
set_option maxHeartbeats 4000000 in
set_option maxRecDepth 100000 in
theorem c_X4_charAtPosition (l : Launch) (g : GG) (X : va_W) (r : Nat → Nat) (b : Nat → Nat) (sz n : Nat) (M : Mem) (T : Mem) (a : Nat) (ha : kdI a = 9) {r0 : Int32} (hf : F_X4_charAtPosition n T a M = some r0) : Met l yX4_charAtPosition (.code yX4_charAtPosition cX4_charAtPosition 2 (some .char) :: LWg) (rmD 4 0 0) (va_Pc [.ref (b a), .ref (b 370)] (PreP g (xb g r T ++ X) 372 (shI g r b) b sz M)) (Qi g (xb g r T ++ X) 372 (shI g r b) b sz r0 M) 0 0 (AA (xb g r T ++ X) b 372 sz) := by
  refine met_go (by decide +kernel) rfl (Nat.le_of_ble_eq_true rfl) ?_
  intro p e s m below meth c ls H locs C0 C1 hr hlocks hnm hsz hl hI
  subst hsz
  have hl : lv_has ls 2 [(0, .ref (b a)), (1, .ref (b 370))] := hl
  unfold F_X4_charAtPosition at hf
  refine lv_aload_n C0.1 C0.2.1 dX4_charAtPosition_0 rfl (lv_at hl 0 rfl) ?_
  refine r_get (C := RX4) (T := TX4) (N9 := 3) (ci := 6) C0 C1 hI iX4 rfl a 2 (kdlt9 ha) (by decide) ((shI_9 ha) _) rfl rfl w_347 dX4_charAtPosition_1 ?_
  refine lv_aload_n C0.1 C0.2.1 dX4_charAtPosition_4 rfl (lv_at hl 1 rfl) ?_
  obtain ⟨r_2, h_1, hf⟩ := ob_some hf
  refine k_i C1 hI (q_V C0 C1 hI 370 (c_J4_length_8abf5_t l g X r b H.size n M T h_1) w_1378 w_1222 w_1223 w_127 w_1224 ⟨rfl, rfl⟩ hd_J4_length_8abf5 ⟨Nat.le_of_ble_eq_true rfl, Nat.le_of_ble_eq_true rfl⟩ (kdlt13 (rfl : kdI 370 = 13)) (shI_13 (rfl : kdI 370 = 13) _) rfl rfl rfl hl.1 rfl (Nat.le_of_ble_eq_true rfl) dX4_charAtPosition_5 ⟨Nat.le_of_ble_eq_true rfl, Nat.le_of_ble_eq_true rfl⟩) (fun H locs hI => ?_)
  refine lv_icmp_ge (tgt := 22) C0.1 C0.2.1 dX4_charAtPosition_8 (by decide) (fun c_3 => ?_) (fun c_3 => ?_)
  · have hf := (if_pos c_3).symm.trans hf
    refine lv_iconst (v := 0) C0.1 C0.2.1 dX4_charAtPosition_22 (by decide) ?_
    exact ee_z C0 hI hr hlocks rfl hf dX4_charAtPosition_23
  · have hf := (if_neg c_3).symm.trans hf
    refine lv_aload_n C0.1 C0.2.1 dX4_charAtPosition_11 rfl (lv_at hl 1 rfl) ?_
    refine lv_aload_n C0.1 C0.2.1 dX4_charAtPosition_12 rfl (lv_at hl 0 rfl) ?_
    refine r_get (C := RX4) (T := TX4) (N9 := 3) (ci := 6) C0 C1 hI iX4 rfl a 2 (kdlt9 ha) (by decide) ((shI_9 ha) _) rfl rfl w_347 dX4_charAtPosition_13 ?_
    obtain ⟨r_5, h_4, hf⟩ := ob_some hf
    refine k_i C1 hI (q_V C0 C1 hI 370 (c_J4_charAt_5068e_t l g X r b H.size n M T (M a 2) h_4) w_1379 w_1380 w_1381 w_127 w_1382 ⟨rfl, rfl⟩ hd_J4_charAt_5068e ⟨Nat.le_of_ble_eq_true rfl, Nat.le_of_ble_eq_true rfl⟩ (kdlt13 (rfl : kdI 370 = 13)) (shI_13 (rfl : kdI 370 = 13) _) rfl rfl rfl hl.1 rfl (Nat.le_of_ble_eq_true rfl) dX4_charAtPosition_16 ⟨Nat.le_of_ble_eq_true rfl, Nat.le_of_ble_eq_true rfl⟩) (fun H locs hI => ?_)
    refine lv_goto (tgt := 23) C0.1 C0.2.1 dX4_charAtPosition_19 (by decide) ?_
    obtain ⟨h_6, hf⟩ := chk_some hf
    exact ee_z C0 hI hr hlocks (isC_n h_6) hf dX4_charAtPosition_23

def F_X4_isDigit (n : Nat) (x0 : Int32) (M : Mem) : Option Int32 :=
  (if x0 < 48 then some 0 else (if 57 < x0 then some 0 else some 1))
theorem hd_X4_isDigit : yX4_isDigit.cls ≠ "java/lang/invoke/MethodHandle" ∧ yX4_isDigit.cls ≠ "java/lang/invoke/VarHandle" ∧ (parseMethodDescriptor yX4_isDigit.desc).map (fun d => d.parameters.length) = some 1 := ⟨by decide +kernel, by decide +kernel, by decide +kernel⟩
set_option maxHeartbeats 4000000 in
set_option maxRecDepth 100000 in
theorem c_X4_isDigit (l : Launch) (g : GG) (X : va_W) (r : Nat → Nat) (b : Nat → Nat) (sz n : Nat) (M : Mem) (x0 : Int32) {r0 : Int32} (hf : F_X4_isDigit n x0 M = some r0) : Met l yX4_isDigit (.code yX4_isDigit cX4_isDigit 1 (some .boolean) :: LWg) (rmD 0 0 0) (va_Pc [.int x0] (PreP g X 372 (shI g r b) b sz M)) (Qi g X 372 (shI g r b) b sz r0 M) 0 0 (AA X b 372 sz) := by
  refine met_go (by decide +kernel) rfl (Nat.le_of_ble_eq_true rfl) ?_
  intro p e s m below meth c ls H locs C0 C1 hr hlocks hnm hsz hl hI
  subst hsz
  have hl : lv_has ls 1 [(0, .int x0)] := hl
  unfold F_X4_isDigit at hf
  refine lv_iload_n C0.1 C0.2.1 dX4_isDigit_0 rfl (lv_at hl 0 rfl) ?_
  refine lv_bipush (v := 48) C0.1 C0.2.1 dX4_isDigit_1 (by decide) ?_
  refine lv_icmp_lt (tgt := 16) C0.1 C0.2.1 dX4_isDigit_3 (by decide) (fun c_1 => ?_) (fun c_1 => ?_)
  · have hf := (if_pos c_1).symm.trans hf
    refine lv_iconst (v := 0) C0.1 C0.2.1 dX4_isDigit_16 (by decide) ?_
    exact ee_z C0 hI hr hlocks rfl hf dX4_isDigit_17
  · have hf := (if_neg c_1).symm.trans hf
    refine lv_iload_n C0.1 C0.2.1 dX4_isDigit_6 rfl (lv_at hl 0 rfl) ?_
    refine lv_bipush (v := 57) C0.1 C0.2.1 dX4_isDigit_7 (by decide) ?_
    refine lv_icmp_gt (tgt := 16) C0.1 C0.2.1 dX4_isDigit_9 (by decide) (fun c_2 => ?_) (fun c_2 => ?_)
    · have hf := (if_pos c_2).symm.trans hf
      refine lv_iconst (v := 0) C0.1 C0.2.1 dX4_isDigit_16 (by decide) ?_
      exact ee_z C0 hI hr hlocks rfl hf dX4_isDigit_17
    · have hf := (if_neg c_2).symm.trans hf
      refine lv_iconst (v := 1) C0.1 C0.2.1 dX4_isDigit_12 (by decide) ?_
      refine lv_goto (tgt := 17) C0.1 C0.2.1 dX4_isDigit_13 (by decide) ?_
      exact ee_z C0 hI hr hlocks rfl hf dX4_isDigit_17

def F_X4_readNumber_L6 (n : Nat) (T : Mem) (a : Nat) (o3 : Nat) : Nat → Int32 → Int32 → Int32 → Mem → Option (Int32 × Mem)
  | 0, _, _, _, _ => none
  | k6 + 1, x2_6, x4_6, x5_6, M =>
    (if x2_6 ≤ x4_6 then ob (F_X3_addNumber n o3 x5_6 M) (fun M_6_3 => (if x4_6 ≤ 0 then some (0, M_6_3) else some (1, M_6_3))) else ob (F_X4_charAtPosition n T a M) (fun r_6_6 => ob (F_X4_isDigit n r_6_6 M) (fun r_6_8 => (if r_6_8 = 0 then ob (F_X3_addNumber n o3 x5_6 M) (fun M_6_11 => (if x4_6 ≤ 0 then some (0, M_6_11) else some (1, M_6_11))) else ob (F_X4_charAtPosition n T a M) (fun r_6_14 => lt' ((10 * x5_6) + (r_6_14 - 48)) (fun x5_6_15 => lt' (up2 M a 2 ((M a 2) + 1)) (fun M_6_17 => lt' (x4_6 + 1) (fun x4_6_19 => F_X4_readNumber_L6 n T a o3 k6 x2_6 x4_6_19 x5_6_15 M_6_17))))))))
def F_X4_readNumber (n : Nat) (T : Mem) (a : Nat) (x2 : Int32) (o3 : Nat) (M : Mem) : Option (Int32 × Mem) :=
  F_X4_readNumber_L6 n T a o3 n x2 0 0 M
theorem hd_X4_readNumber : yX4_readNumber.cls ≠ "java/lang/invoke/MethodHandle" ∧ yX4_readNumber.cls ≠ "java/lang/invoke/VarHandle" ∧ (parseMethodDescriptor yX4_readNumber.desc).map (fun d => d.parameters.length) = some 3 := ⟨by decide +kernel, by decide +kernel, by decide +kernel⟩
set_option maxHeartbeats 4000000 in
set_option maxRecDepth 100000 in
theorem c_X4_readNumber (l : Launch) (g : GG) (X : va_W) (r : Nat → Nat) (b : Nat → Nat) (sz n : Nat) (M : Mem) (T : Mem) (a : Nat) (ha : kdI a = 9) (x2 : Int32) (o3 : Nat) (ho3 : kdI o3 = 11) {r0 : Int32} {M' : Mem} (hf : F_X4_readNumber n T a x2 o3 M = some (r0, M')) : Met l yX4_readNumber (.code yX4_readNumber cX4_readNumber 6 (some .boolean) :: LWg) (rmD 5 0 0) (va_Pc [.ref (b a), .ref (b 370), .int x2, .ref (b o3)] (PreP g (xb g r T ++ X) 372 (shI g r b) b sz M)) (Qi g (xb g r T ++ X) 372 (shI g r b) b sz r0 M') 0 0 (AA (xb g r T ++ X) b 372 sz) := by
  refine met_go (by decide +kernel) rfl (Nat.le_of_ble_eq_true rfl) ?_
  intro p e s m below meth c ls H locs C0 C1 hr hlocks hnm hsz hl hI
  subst hsz
  have hl : lv_has ls 6 [(0, .ref (b a)), (1, .ref (b 370)), (2, .int x2), (3, .ref (b o3))] := hl
  unfold F_X4_readNumber at hf
  refine lv_iconst (v := 0) C0.1 C0.2.1 dX4_readNumber_0 (by decide) ?_
  refine lv_istore (lv' := [(4, .int 0), (0, .ref (b a)), (1, .ref (b 370)), (2, .int x2), (3, .ref (b o3))]) C0.1 C0.2.1 dX4_readNumber_1 hl (by decide) rfl (fun ls hl => ?_)
  refine lv_iconst (v := 0) C0.1 C0.2.1 dX4_readNumber_3 (by decide) ?_
  refine lv_istore (lv' := [(5, .int 0), (4, .int 0), (0, .ref (b a)), (1, .ref (b 370)), (2, .int x2), (3, .ref (b o3))]) C0.1 C0.2.1 dX4_readNumber_4 hl (by decide) rfl (fun ls hl => ?_)
  have L6 : ∀ (k6 : Nat) (x2_6 : Int32) (x4_6 : Int32) (x5_6 : Int32) (M : Mem), F_X4_readNumber_L6 n T a o3 k6 x2_6 x4_6 x5_6 M = some (r0, M') → ∀ (H : Heap) (locs : List Loc) (ls : Array Slot), PI g (xb g r T ++ X) 372 (shI g r b) b s M H locs → lv_has ls 6 [(0, .ref (b a)), (1, .ref (b 370)), (2, .int x2_6), (3, .ref (b o3)), (4, .int x4_6), (5, .int x5_6)] → W p l e (rmD 5 0 0) s m ([.ref (b a), .ref (b 370), .int x2, .ref (b o3)] : List Value).toArray below meth c H locs 0 0 (MQ below (Qi g (xb g r T ++ X) 372 (shI g r b) b s.heap.size r0 M') ([.ref (b a), .ref (b 370), .int x2, .ref (b o3)] : List Value).toArray s 0 0 (AA (xb g r T ++ X) b 372 s.heap.size)) (F0 m 6 ls []) := by
    intro k6
    induction k6 with
    | zero => intro x2_6 x4_6 x5_6 M hf; exact absurd (show (none : Option (Int32 × Mem)) = some (r0, M') from hf) (fun h => by cases h)
    | succ k6 ih6 =>
      intro x2_6 x4_6 x5_6 M hf H locs ls hI hl
      unfold F_X4_readNumber_L6 at hf
      refine lv_iload C0.1 C0.2.1 dX4_readNumber_6 (lv_at hl 4 rfl) ?_
      refine lv_iload_n C0.1 C0.2.1 dX4_readNumber_8 rfl (lv_at hl 2 rfl) ?_
      refine lv_icmp_ge (tgt := 55) C0.1 C0.2.1 dX4_readNumber_9 (by decide) (fun c_6_1 => ?_) (fun c_6_1 => ?_)
      · have hf := (if_pos c_6_1).symm.trans hf
        refine lv_aload_n C0.1 C0.2.1 dX4_readNumber_55 rfl (lv_at hl 3 rfl) ?_
        refine lv_iload C0.1 C0.2.1 dX4_readNumber_56 (lv_at hl 5 rfl) ?_
        obtain ⟨M_6_3, h_6_2, hf⟩ := ob_some hf
        refine k_v C1 hI (q_VN C0 C1 hI o3 (c_X3_addNumber l g (xb g r T ++ X) r b H.size n M o3 ho3 x5_6 h_6_2) 58 rfl w_1394 w_60 w_123 w_1395 ⟨rfl, rfl⟩ hd_X3_addNumber ⟨Nat.le_of_ble_eq_true rfl, Nat.le_of_ble_eq_true rfl⟩ (kdlt11 ho3) ((shI_11 ho3) _) rfl rfl rfl hl.1 rfl (Nat.le_of_ble_eq_true rfl) dX4_readNumber_58 ⟨Nat.le_of_ble_eq_true rfl, Nat.le_of_ble_eq_true rfl⟩) (fun H locs hI => ?_)
        refine lv_iload C0.1 C0.2.1 dX4_readNumber_61 (lv_at hl 4 rfl) ?_
        refine lv_if_le (tgt := 70) C0.1 C0.2.1 dX4_readNumber_63 (by decide) (fun c_6_4 => ?_) (fun c_6_4 => ?_)
        · have hf := (if_pos c_6_4).symm.trans hf
          refine lv_iconst (v := 0) C0.1 C0.2.1 dX4_readNumber_70 (by decide) ?_
          exact ee_zm C0 hI hr hlocks rfl hf dX4_readNumber_71
        · have hf := (if_neg c_6_4).symm.trans hf
          refine lv_iconst (v := 1) C0.1 C0.2.1 dX4_readNumber_66 (by decide) ?_
          refine lv_goto (tgt := 71) C0.1 C0.2.1 dX4_readNumber_67 (by decide) ?_
          exact ee_zm C0 hI hr hlocks rfl hf dX4_readNumber_71
      · have hf := (if_neg c_6_1).symm.trans hf
        refine lv_aload_n C0.1 C0.2.1 dX4_readNumber_12 rfl (lv_at hl 0 rfl) ?_
        refine lv_aload_n C0.1 C0.2.1 dX4_readNumber_13 rfl (lv_at hl 1 rfl) ?_
        obtain ⟨r_6_6, h_6_5, hf⟩ := ob_some hf
        refine k_i C1 hI (q_V C0 C1 hI a (c_X4_charAtPosition l g X r b H.size n M T a ha h_6_5) w_1374 w_1376 w_59 w_122 w_1377 ⟨rfl, rfl⟩ hd_X4_charAtPosition ⟨Nat.le_of_ble_eq_true rfl, Nat.le_of_ble_eq_true rfl⟩ (kdlt9 ha) ((shI_9 ha) _) rfl rfl rfl hl.1 rfl (Nat.le_of_ble_eq_true rfl) dX4_readNumber_14 ⟨Nat.le_of_ble_eq_true rfl, Nat.le_of_ble_eq_true rfl⟩) (fun H locs hI => ?_)
        obtain ⟨r_6_8, h_6_7, hf⟩ := ob_some hf
        refine k_i C1 hI (q_S C0 C1 hI (c_X4_isDigit l g (xb g r T ++ X) r b H.size n M r_6_6 h_6_7) w_1389 w_1390 w_122 w_1391 ⟨rfl, rfl⟩ hd_X4_isDigit ⟨Nat.le_of_ble_eq_true rfl, Nat.le_of_ble_eq_true rfl⟩ rfl hl.1 rfl (Nat.le_of_ble_eq_true rfl) dX4_readNumber_17 ⟨Nat.le_of_ble_eq_true rfl, Nat.le_of_ble_eq_true rfl⟩) (fun H locs hI => ?_)
        refine lv_if_eq (tgt := 55) C0.1 C0.2.1 dX4_readNumber_20 (by decide) (fun c_6_9 => ?_) (fun c_6_9 => ?_)
        · have hf := (if_pos c_6_9).symm.trans hf
          refine lv_aload_n C0.1 C0.2.1 dX4_readNumber_55 rfl (lv_at hl 3 rfl) ?_
          refine lv_iload C0.1 C0.2.1 dX4_readNumber_56 (lv_at hl 5 rfl) ?_
          obtain ⟨M_6_11, h_6_10, hf⟩ := ob_some hf
          refine k_v C1 hI (q_VN C0 C1 hI o3 (c_X3_addNumber l g (xb g r T ++ X) r b H.size n M o3 ho3 x5_6 h_6_10) 58 rfl w_1394 w_60 w_123 w_1395 ⟨rfl, rfl⟩ hd_X3_addNumber ⟨Nat.le_of_ble_eq_true rfl, Nat.le_of_ble_eq_true rfl⟩ (kdlt11 ho3) ((shI_11 ho3) _) rfl rfl rfl hl.1 rfl (Nat.le_of_ble_eq_true rfl) dX4_readNumber_58 ⟨Nat.le_of_ble_eq_true rfl, Nat.le_of_ble_eq_true rfl⟩) (fun H locs hI => ?_)
          refine lv_iload C0.1 C0.2.1 dX4_readNumber_61 (lv_at hl 4 rfl) ?_
          refine lv_if_le (tgt := 70) C0.1 C0.2.1 dX4_readNumber_63 (by decide) (fun c_6_12 => ?_) (fun c_6_12 => ?_)
          · have hf := (if_pos c_6_12).symm.trans hf
            refine lv_iconst (v := 0) C0.1 C0.2.1 dX4_readNumber_70 (by decide) ?_
            exact ee_zm C0 hI hr hlocks rfl hf dX4_readNumber_71
          · have hf := (if_neg c_6_12).symm.trans hf
            refine lv_iconst (v := 1) C0.1 C0.2.1 dX4_readNumber_66 (by decide) ?_
            refine lv_goto (tgt := 71) C0.1 C0.2.1 dX4_readNumber_67 (by decide) ?_
            exact ee_zm C0 hI hr hlocks rfl hf dX4_readNumber_71
        · have hf := (if_neg c_6_9).symm.trans hf
          refine lv_bipush (v := 10) C0.1 C0.2.1 dX4_readNumber_23 (by decide) ?_
          refine lv_iload C0.1 C0.2.1 dX4_readNumber_25 (lv_at hl 5 rfl) ?_
          refine lv_imul C0.1 C0.2.1 dX4_readNumber_27 ?_
          refine lv_aload_n C0.1 C0.2.1 dX4_readNumber_28 rfl (lv_at hl 0 rfl) ?_
          refine lv_aload_n C0.1 C0.2.1 dX4_readNumber_29 rfl (lv_at hl 1 rfl) ?_
          obtain ⟨r_6_14, h_6_13, hf⟩ := ob_some hf
          refine k_i C1 hI (q_V C0 C1 hI a (c_X4_charAtPosition l g X r b H.size n M T a ha h_6_13) w_1374 w_1376 w_59 w_122 w_1377 ⟨rfl, rfl⟩ hd_X4_charAtPosition ⟨Nat.le_of_ble_eq_true rfl, Nat.le_of_ble_eq_true rfl⟩ (kdlt9 ha) ((shI_9 ha) _) rfl rfl rfl hl.1 rfl (Nat.le_of_ble_eq_true rfl) dX4_readNumber_30 ⟨Nat.le_of_ble_eq_true rfl, Nat.le_of_ble_eq_true rfl⟩) (fun H locs hI => ?_)
          refine lv_bipush (v := 48) C0.1 C0.2.1 dX4_readNumber_33 (by decide) ?_
          refine lv_isub C0.1 C0.2.1 dX4_readNumber_35 ?_
          refine lv_iadd C0.1 C0.2.1 dX4_readNumber_36 ?_
          refine lv_topi (fun x5_6_15 e_6_16 => ?_)
          have hf := lt_at e_6_16 hf
          refine lv_istore (lv' := [(5, .int x5_6_15), (0, .ref (b a)), (1, .ref (b 370)), (2, .int x2_6), (3, .ref (b o3)), (4, .int x4_6)]) C0.1 C0.2.1 dX4_readNumber_37 hl (by decide) rfl (fun ls hl => ?_)
          refine lv_aload_n C0.1 C0.2.1 dX4_readNumber_39 rfl (lv_at hl 1 rfl) ?_
          refine lv_dup C0.1 C0.2.1 dX4_readNumber_40 rfl ?_
          refine r_get (C := RX4) (T := TX4) (N9 := 3) (ci := 6) C0 C1 hI iX4 rfl a 2 (kdlt9 ha) (by decide) ((shI_9 ha) _) rfl rfl w_347 dX4_readNumber_41 ?_
          refine lv_iconst (v := 1) C0.1 C0.2.1 dX4_readNumber_44 (by decide) ?_
          refine lv_iadd C0.1 C0.2.1 dX4_readNumber_45 ?_
          refine r_put (C := RX4) (T := TX4) (N9 := 3) (ci := 6) (fs := fR b a) (ty := .int) C0 C1 hI iX4 tyX4 tyX4_ok nmX4 rfl a 2 (kdlt9 ha) (by decide) (shI_9 ha) rfl rfl rfl (by decide +kernel) ⟨rfl, rfl⟩ (Nat.le_of_ble_eq_true rfl) w_347 dX4_readNumber_46 (fun H locs hI => ?_)
          obtain ⟨M_6_17, e_6_18⟩ : ∃ z : Mem, z = up2 M a 2 ((M a 2) + 1) := ⟨_, rfl⟩
          rw [← e_6_18] at hI
          have hf := lt_at e_6_18 hf
          obtain ⟨x4_6_19, e_6_20⟩ : ∃ z : Int32, z = x4_6 + 1 := ⟨_, rfl⟩
          have hf := lt_at e_6_20 hf
          refine lv_iinc (v := x4_6_19) (lv' := [(4, .int x4_6_19), (5, .int x5_6_15), (0, .ref (b a)), (1, .ref (b 370)), (2, .int x2_6), (3, .ref (b o3))]) C0.1 C0.2.1 dX4_readNumber_49 hl (k := 5) rfl (by rw [e_6_20]; rfl) (by decide) rfl (fun ls hl => ?_)
          refine lv_goto (tgt := 6) C0.1 C0.2.1 dX4_readNumber_52 (by decide) ?_
          exact ih6 x2_6 x4_6_19 x5_6_15 M_6_17 hf H locs ls hI (lv_sub hl [2, 3, 4, 5, 0, 1] rfl)
  exact L6 n x2 0 0 M hf H locs ls hI (lv_sub hl [2, 3, 4, 5, 1, 0] rfl)

def F_X4_readCharacter (n : Nat) (T : Mem) (a : Nat) (x2 : Int32) (M : Mem) : Option (Int32 × Mem) :=
  ob (F_X4_charAtPosition n T a M) (fun r_2 => (if r_2 = x2 then lt' (up2 M a 2 ((M a 2) + 1)) (fun M_4 => some (1, M_4)) else some (0, M)))
theorem hd_X4_readCharacter : yX4_readCharacter.cls ≠ "java/lang/invoke/MethodHandle" ∧ yX4_readCharacter.cls ≠ "java/lang/invoke/VarHandle" ∧ (parseMethodDescriptor yX4_readCharacter.desc).map (fun d => d.parameters.length) = some 2 := ⟨by decide +kernel, by decide +kernel, by decide +kernel⟩
set_option maxHeartbeats 4000000 in
set_option maxRecDepth 100000 in
theorem c_X4_readCharacter (l : Launch) (g : GG) (X : va_W) (r : Nat → Nat) (b : Nat → Nat) (sz n : Nat) (M : Mem) (T : Mem) (a : Nat) (ha : kdI a = 9) (x2 : Int32) {r0 : Int32} {M' : Mem} (hf : F_X4_readCharacter n T a x2 M = some (r0, M')) : Met l yX4_readCharacter (.code yX4_readCharacter cX4_readCharacter 3 (some .boolean) :: LWg) (rmD 5 0 0) (va_Pc [.ref (b a), .ref (b 370), .int x2] (PreP g (xb g r T ++ X) 372 (shI g r b) b sz M)) (Qi g (xb g r T ++ X) 372 (shI g r b) b sz r0 M') 0 0 (AA (xb g r T ++ X) b 372 sz) := by
  refine met_go (by decide +kernel) rfl (Nat.le_of_ble_eq_true rfl) ?_
  intro p e s m below meth c ls H locs C0 C1 hr hlocks hnm hsz hl hI
  subst hsz
  have hl : lv_has ls 3 [(0, .ref (b a)), (1, .ref (b 370)), (2, .int x2)] := hl
  unfold F_X4_readCharacter at hf
  refine lv_aload_n C0.1 C0.2.1 dX4_readCharacter_0 rfl (lv_at hl 0 rfl) ?_
  refine lv_aload_n C0.1 C0.2.1 dX4_readCharacter_1 rfl (lv_at hl 1 rfl) ?_
  obtain ⟨r_2, h_1, hf⟩ := ob_some hf
  refine k_i C1 hI (q_V C0 C1 hI a (c_X4_charAtPosition l g X r b H.size n M T a ha h_1) w_1374 w_1376 w_59 w_122 w_1377 ⟨rfl, rfl⟩ hd_X4_charAtPosition ⟨Nat.le_of_ble_eq_true rfl, Nat.le_of_ble_eq_true rfl⟩ (kdlt9 ha) ((shI_9 ha) _) rfl rfl rfl hl.1 rfl (Nat.le_of_ble_eq_true rfl) dX4_readCharacter_2 ⟨Nat.le_of_ble_eq_true rfl, Nat.le_of_ble_eq_true rfl⟩) (fun H locs hI => ?_)
  refine lv_iload_n C0.1 C0.2.1 dX4_readCharacter_5 rfl (lv_at hl 2 rfl) ?_
  refine lv_icmp_eq (tgt := 11) C0.1 C0.2.1 dX4_readCharacter_6 (by decide) (fun c_3 => ?_) (fun c_3 => ?_)
  · have hf := (if_pos c_3).symm.trans hf
    refine lv_aload_n C0.1 C0.2.1 dX4_readCharacter_11 rfl (lv_at hl 0 rfl) ?_
    refine lv_dup C0.1 C0.2.1 dX4_readCharacter_12 rfl ?_
    refine r_get (C := RX4) (T := TX4) (N9 := 3) (ci := 6) C0 C1 hI iX4 rfl a 2 (kdlt9 ha) (by decide) ((shI_9 ha) _) rfl rfl w_347 dX4_readCharacter_13 ?_
    refine lv_iconst (v := 1) C0.1 C0.2.1 dX4_readCharacter_16 (by decide) ?_
    refine lv_iadd C0.1 C0.2.1 dX4_readCharacter_17 ?_
    refine r_put (C := RX4) (T := TX4) (N9 := 3) (ci := 6) (fs := fR b a) (ty := .int) C0 C1 hI iX4 tyX4 tyX4_ok nmX4 rfl a 2 (kdlt9 ha) (by decide) (shI_9 ha) rfl rfl rfl (by decide +kernel) ⟨rfl, rfl⟩ (Nat.le_of_ble_eq_true rfl) w_347 dX4_readCharacter_18 (fun H locs hI => ?_)
    obtain ⟨M_4, e_5⟩ : ∃ z : Mem, z = up2 M a 2 ((M a 2) + 1) := ⟨_, rfl⟩
    rw [← e_5] at hI
    have hf := lt_at e_5 hf
    refine lv_iconst (v := 1) C0.1 C0.2.1 dX4_readCharacter_21 (by decide) ?_
    exact ee_zm C0 hI hr hlocks rfl hf dX4_readCharacter_22
  · have hf := (if_neg c_3).symm.trans hf
    refine lv_iconst (v := 0) C0.1 C0.2.1 dX4_readCharacter_9 (by decide) ?_
    exact ee_zm C0 hI hr hlocks rfl hf dX4_readCharacter_10

def F_X4_readSign (n : Nat) (T : Mem) (a : Nat) (o2 : Nat) (M : Mem) : Option (Int32 × Mem) :=
  ob (F_X4_charAtPosition n T a M) (fun r_2 => (if r_2 = 43 then (if (1 : Int32) = 0 then ob (F_X3_addNumber n o2 0 M) (fun M_29 => (if (1 : Int32) = 0 then ob2 (F_X4_readCharacter n T a 45 M_29) (fun r_32 M_33 => chk (isB r_32) (some (r_32, M_33))) else ob2 (F_X4_readCharacter n T a 43 M_29) (fun r_36 M_37 => chk (isB r_36) (some (r_36, M_37))))) else ob (F_X3_addNumber n o2 1 M) (fun M_40 => (if (1 : Int32) = 0 then ob2 (F_X4_readCharacter n T a 45 M_40) (fun r_43 M_44 => chk (isB r_43) (some (r_43, M_44))) else ob2 (F_X4_readCharacter n T a 43 M_40) (fun r_47 M_48 => chk (isB r_47) (some (r_47, M_48)))))) else (if (0 : Int32) = 0 then ob (F_X3_addNumber n o2 0 M) (fun M_6 => (if (0 : Int32) = 0 then ob2 (F_X4_readCharacter n T a 45 M_6) (fun r_9 M_10 => chk (isB r_9) (some (r_9, M_10))) else ob2 (F_X4_readCharacter n T a 43 M_6) (fun r_13 M_14 => chk (isB r_13) (some (r_13, M_14))))) else ob (F_X3_addNumber n o2 1 M) (fun M_17 => (if (0 : Int32) = 0 then ob2 (F_X4_readCharacter n T a 45 M_17) (fun r_20 M_21 => chk (isB r_20) (some (r_20, M_21))) else ob2 (F_X4_readCharacter n T a 43 M_17) (fun r_24 M_25 => chk (isB r_24) (some (r_24, M_25))))))))
theorem hd_X4_readSign : yX4_readSign.cls ≠ "java/lang/invoke/MethodHandle" ∧ yX4_readSign.cls ≠ "java/lang/invoke/VarHandle" ∧ (parseMethodDescriptor yX4_readSign.desc).map (fun d => d.parameters.length) = some 2 := ⟨by decide +kernel, by decide +kernel, by decide +kernel⟩
set_option maxHeartbeats 4000000 in
set_option maxRecDepth 100000 in
theorem c_X4_readSign (l : Launch) (g : GG) (X : va_W) (r : Nat → Nat) (b : Nat → Nat) (sz n : Nat) (M : Mem) (T : Mem) (a : Nat) (ha : kdI a = 9) (o2 : Nat) (ho2 : kdI o2 = 11) {r0 : Int32} {M' : Mem} (hf : F_X4_readSign n T a o2 M = some (r0, M')) : Met l yX4_readSign (.code yX4_readSign cX4_readSign 4 (some .boolean) :: LWg) (rmD 6 0 0) (va_Pc [.ref (b a), .ref (b 370), .ref (b o2)] (PreP g (xb g r T ++ X) 372 (shI g r b) b sz M)) (Qi g (xb g r T ++ X) 372 (shI g r b) b sz r0 M') 0 0 (AA (xb g r T ++ X) b 372 sz) := by
  refine met_go (by decide +kernel) rfl (Nat.le_of_ble_eq_true rfl) ?_
  intro p e s m below meth c ls H locs C0 C1 hr hlocks hnm hsz hl hI
  subst hsz
  have hl : lv_has ls 4 [(0, .ref (b a)), (1, .ref (b 370)), (2, .ref (b o2))] := hl
  unfold F_X4_readSign at hf
  refine lv_aload_n C0.1 C0.2.1 dX4_readSign_0 rfl (lv_at hl 0 rfl) ?_
  refine lv_aload_n C0.1 C0.2.1 dX4_readSign_1 rfl (lv_at hl 1 rfl) ?_
  obtain ⟨r_2, h_1, hf⟩ := ob_some hf
  refine k_i C1 hI (q_V C0 C1 hI a (c_X4_charAtPosition l g X r b H.size n M T a ha h_1) w_1374 w_1376 w_59 w_122 w_1377 ⟨rfl, rfl⟩ hd_X4_charAtPosition ⟨Nat.le_of_ble_eq_true rfl, Nat.le_of_ble_eq_true rfl⟩ (kdlt9 ha) ((shI_9 ha) _) rfl rfl rfl hl.1 rfl (Nat.le_of_ble_eq_true rfl) dX4_readSign_2 ⟨Nat.le_of_ble_eq_true rfl, Nat.le_of_ble_eq_true rfl⟩) (fun H locs hI => ?_)
  refine lv_bipush (v := 43) C0.1 C0.2.1 dX4_readSign_5 (by decide) ?_
  refine lv_icmp_ne (tgt := 14) C0.1 C0.2.1 dX4_readSign_7 (by decide) (fun c_3 => ?_) (fun c_3 => ?_)
  · have hf := (if_neg c_3).symm.trans hf
    refine lv_iconst (v := 0) C0.1 C0.2.1 dX4_readSign_14 (by decide) ?_
    refine lv_istore_n (lv' := [(3, .int 0), (0, .ref (b a)), (1, .ref (b 370)), (2, .ref (b o2))]) C0.1 C0.2.1 dX4_readSign_15 rfl hl (by decide) rfl (fun ls hl => ?_)
    refine lv_aload_n C0.1 C0.2.1 dX4_readSign_16 rfl (lv_at hl 3 rfl) ?_
    refine lv_iload_n C0.1 C0.2.1 dX4_readSign_17 rfl (lv_at hl 0 rfl) ?_
    refine lv_if_eq (tgt := 25) C0.1 C0.2.1 dX4_readSign_18 (by decide) (fun c_4 => ?_) (fun c_4 => ?_)
    · have hf := (if_pos c_4).symm.trans hf
      refine lv_iconst (v := 0) C0.1 C0.2.1 dX4_readSign_25 (by decide) ?_
      obtain ⟨M_6, h_5, hf⟩ := ob_some hf
      refine k_v C1 hI (q_VN C0 C1 hI o2 (c_X3_addNumber l g (xb g r T ++ X) r b H.size n M o2 ho2 0 h_5) 58 rfl w_1394 w_60 w_123 w_1395 ⟨rfl, rfl⟩ hd_X3_addNumber ⟨Nat.le_of_ble_eq_true rfl, Nat.le_of_ble_eq_true rfl⟩ (kdlt11 ho2) ((shI_11 ho2) _) rfl rfl rfl hl.1 rfl (Nat.le_of_ble_eq_true rfl) dX4_readSign_26 ⟨Nat.le_of_ble_eq_true rfl, Nat.le_of_ble_eq_true rfl⟩) (fun H locs hI => ?_)
      refine lv_aload_n C0.1 C0.2.1 dX4_readSign_29 rfl (lv_at hl 1 rfl) ?_
      refine lv_aload_n C0.1 C0.2.1 dX4_readSign_30 rfl (lv_at hl 2 rfl) ?_
      refine lv_iload_n C0.1 C0.2.1 dX4_readSign_31 rfl (lv_at hl 0 rfl) ?_
      refine lv_if_eq (tgt := 40) C0.1 C0.2.1 dX4_readSign_32 (by decide) (fun c_7 => ?_) (fun c_7 => ?_)
      · have hf := (if_pos c_7).symm.trans hf
        refine lv_bipush (v := 45) C0.1 C0.2.1 dX4_readSign_40 (by decide) ?_
        obtain ⟨r_9, M_10, h_8, hf⟩ := ob2_some hf
        refine k_i C1 hI (q_V C0 C1 hI a (c_X4_readCharacter l g X r b H.size n M_6 T a ha 45 h_8) w_1400 w_1402 w_62 w_122 w_1403 ⟨rfl, rfl⟩ hd_X4_readCharacter ⟨Nat.le_of_ble_eq_true rfl, Nat.le_of_ble_eq_true rfl⟩ (kdlt9 ha) ((shI_9 ha) _) rfl rfl rfl hl.1 rfl (Nat.le_of_ble_eq_true rfl) dX4_readSign_42 ⟨Nat.le_of_ble_eq_true rfl, Nat.le_of_ble_eq_true rfl⟩) (fun H locs hI => ?_)
        obtain ⟨h_11, hf⟩ := chk_some hf
        exact ee_zm C0 hI hr hlocks (isB_n h_11).1 hf dX4_readSign_45
      · have hf := (if_neg c_7).symm.trans hf
        refine lv_bipush (v := 43) C0.1 C0.2.1 dX4_readSign_35 (by decide) ?_
        refine lv_goto (tgt := 42) C0.1 C0.2.1 dX4_readSign_37 (by decide) ?_
        obtain ⟨r_13, M_14, h_12, hf⟩ := ob2_some hf
        refine k_i C1 hI (q_V C0 C1 hI a (c_X4_readCharacter l g X r b H.size n M_6 T a ha 43 h_12) w_1400 w_1402 w_62 w_122 w_1403 ⟨rfl, rfl⟩ hd_X4_readCharacter ⟨Nat.le_of_ble_eq_true rfl, Nat.le_of_ble_eq_true rfl⟩ (kdlt9 ha) ((shI_9 ha) _) rfl rfl rfl hl.1 rfl (Nat.le_of_ble_eq_true rfl) dX4_readSign_42 ⟨Nat.le_of_ble_eq_true rfl, Nat.le_of_ble_eq_true rfl⟩) (fun H locs hI => ?_)
        obtain ⟨h_15, hf⟩ := chk_some hf
        exact ee_zm C0 hI hr hlocks (isB_n h_15).1 hf dX4_readSign_45
    · have hf := (if_neg c_4).symm.trans hf
      refine lv_iconst (v := 1) C0.1 C0.2.1 dX4_readSign_21 (by decide) ?_
      refine lv_goto (tgt := 26) C0.1 C0.2.1 dX4_readSign_22 (by decide) ?_
      obtain ⟨M_17, h_16, hf⟩ := ob_some hf
      refine k_v C1 hI (q_VN C0 C1 hI o2 (c_X3_addNumber l g (xb g r T ++ X) r b H.size n M o2 ho2 1 h_16) 58 rfl w_1394 w_60 w_123 w_1395 ⟨rfl, rfl⟩ hd_X3_addNumber ⟨Nat.le_of_ble_eq_true rfl, Nat.le_of_ble_eq_true rfl⟩ (kdlt11 ho2) ((shI_11 ho2) _) rfl rfl rfl hl.1 rfl (Nat.le_of_ble_eq_true rfl) dX4_readSign_26 ⟨Nat.le_of_ble_eq_true rfl, Nat.le_of_ble_eq_true rfl⟩) (fun H locs hI => ?_)
      refine lv_aload_n C0.1 C0.2.1 dX4_readSign_29 rfl (lv_at hl 1 rfl) ?_
      refine lv_aload_n C0.1 C0.2.1 dX4_readSign_30 rfl (lv_at hl 2 rfl) ?_
      refine lv_iload_n C0.1 C0.2.1 dX4_readSign_31 rfl (lv_at hl 0 rfl) ?_
      refine lv_if_eq (tgt := 40) C0.1 C0.2.1 dX4_readSign_32 (by decide) (fun c_18 => ?_) (fun c_18 => ?_)
      · have hf := (if_pos c_18).symm.trans hf
        refine lv_bipush (v := 45) C0.1 C0.2.1 dX4_readSign_40 (by decide) ?_
        obtain ⟨r_20, M_21, h_19, hf⟩ := ob2_some hf
        refine k_i C1 hI (q_V C0 C1 hI a (c_X4_readCharacter l g X r b H.size n M_17 T a ha 45 h_19) w_1400 w_1402 w_62 w_122 w_1403 ⟨rfl, rfl⟩ hd_X4_readCharacter ⟨Nat.le_of_ble_eq_true rfl, Nat.le_of_ble_eq_true rfl⟩ (kdlt9 ha) ((shI_9 ha) _) rfl rfl rfl hl.1 rfl (Nat.le_of_ble_eq_true rfl) dX4_readSign_42 ⟨Nat.le_of_ble_eq_true rfl, Nat.le_of_ble_eq_true rfl⟩) (fun H locs hI => ?_)
        obtain ⟨h_22, hf⟩ := chk_some hf
        exact ee_zm C0 hI hr hlocks (isB_n h_22).1 hf dX4_readSign_45
      · have hf := (if_neg c_18).symm.trans hf
        refine lv_bipush (v := 43) C0.1 C0.2.1 dX4_readSign_35 (by decide) ?_
        refine lv_goto (tgt := 42) C0.1 C0.2.1 dX4_readSign_37 (by decide) ?_
        obtain ⟨r_24, M_25, h_23, hf⟩ := ob2_some hf
        refine k_i C1 hI (q_V C0 C1 hI a (c_X4_readCharacter l g X r b H.size n M_17 T a ha 43 h_23) w_1400 w_1402 w_62 w_122 w_1403 ⟨rfl, rfl⟩ hd_X4_readCharacter ⟨Nat.le_of_ble_eq_true rfl, Nat.le_of_ble_eq_true rfl⟩ (kdlt9 ha) ((shI_9 ha) _) rfl rfl rfl hl.1 rfl (Nat.le_of_ble_eq_true rfl) dX4_readSign_42 ⟨Nat.le_of_ble_eq_true rfl, Nat.le_of_ble_eq_true rfl⟩) (fun H locs hI => ?_)
        obtain ⟨h_26, hf⟩ := chk_some hf
        exact ee_zm C0 hI hr hlocks (isB_n h_26).1 hf dX4_readSign_45
  · have hf := (if_pos c_3).symm.trans hf
    refine lv_iconst (v := 1) C0.1 C0.2.1 dX4_readSign_10 (by decide) ?_
    refine lv_goto (tgt := 15) C0.1 C0.2.1 dX4_readSign_11 (by decide) ?_
    refine lv_istore_n (lv' := [(3, .int 1), (0, .ref (b a)), (1, .ref (b 370)), (2, .ref (b o2))]) C0.1 C0.2.1 dX4_readSign_15 rfl hl (by decide) rfl (fun ls hl => ?_)
    refine lv_aload_n C0.1 C0.2.1 dX4_readSign_16 rfl (lv_at hl 3 rfl) ?_
    refine lv_iload_n C0.1 C0.2.1 dX4_readSign_17 rfl (lv_at hl 0 rfl) ?_
    refine lv_if_eq (tgt := 25) C0.1 C0.2.1 dX4_readSign_18 (by decide) (fun c_27 => ?_) (fun c_27 => ?_)
    · have hf := (if_pos c_27).symm.trans hf
      refine lv_iconst (v := 0) C0.1 C0.2.1 dX4_readSign_25 (by decide) ?_
      obtain ⟨M_29, h_28, hf⟩ := ob_some hf
      refine k_v C1 hI (q_VN C0 C1 hI o2 (c_X3_addNumber l g (xb g r T ++ X) r b H.size n M o2 ho2 0 h_28) 58 rfl w_1394 w_60 w_123 w_1395 ⟨rfl, rfl⟩ hd_X3_addNumber ⟨Nat.le_of_ble_eq_true rfl, Nat.le_of_ble_eq_true rfl⟩ (kdlt11 ho2) ((shI_11 ho2) _) rfl rfl rfl hl.1 rfl (Nat.le_of_ble_eq_true rfl) dX4_readSign_26 ⟨Nat.le_of_ble_eq_true rfl, Nat.le_of_ble_eq_true rfl⟩) (fun H locs hI => ?_)
      refine lv_aload_n C0.1 C0.2.1 dX4_readSign_29 rfl (lv_at hl 1 rfl) ?_
      refine lv_aload_n C0.1 C0.2.1 dX4_readSign_30 rfl (lv_at hl 2 rfl) ?_
      refine lv_iload_n C0.1 C0.2.1 dX4_readSign_31 rfl (lv_at hl 0 rfl) ?_
      refine lv_if_eq (tgt := 40) C0.1 C0.2.1 dX4_readSign_32 (by decide) (fun c_30 => ?_) (fun c_30 => ?_)
      · have hf := (if_pos c_30).symm.trans hf
        refine lv_bipush (v := 45) C0.1 C0.2.1 dX4_readSign_40 (by decide) ?_
        obtain ⟨r_32, M_33, h_31, hf⟩ := ob2_some hf
        refine k_i C1 hI (q_V C0 C1 hI a (c_X4_readCharacter l g X r b H.size n M_29 T a ha 45 h_31) w_1400 w_1402 w_62 w_122 w_1403 ⟨rfl, rfl⟩ hd_X4_readCharacter ⟨Nat.le_of_ble_eq_true rfl, Nat.le_of_ble_eq_true rfl⟩ (kdlt9 ha) ((shI_9 ha) _) rfl rfl rfl hl.1 rfl (Nat.le_of_ble_eq_true rfl) dX4_readSign_42 ⟨Nat.le_of_ble_eq_true rfl, Nat.le_of_ble_eq_true rfl⟩) (fun H locs hI => ?_)
        obtain ⟨h_34, hf⟩ := chk_some hf
        exact ee_zm C0 hI hr hlocks (isB_n h_34).1 hf dX4_readSign_45
      · have hf := (if_neg c_30).symm.trans hf
        refine lv_bipush (v := 43) C0.1 C0.2.1 dX4_readSign_35 (by decide) ?_
        refine lv_goto (tgt := 42) C0.1 C0.2.1 dX4_readSign_37 (by decide) ?_
        obtain ⟨r_36, M_37, h_35, hf⟩ := ob2_some hf
        refine k_i C1 hI (q_V C0 C1 hI a (c_X4_readCharacter l g X r b H.size n M_29 T a ha 43 h_35) w_1400 w_1402 w_62 w_122 w_1403 ⟨rfl, rfl⟩ hd_X4_readCharacter ⟨Nat.le_of_ble_eq_true rfl, Nat.le_of_ble_eq_true rfl⟩ (kdlt9 ha) ((shI_9 ha) _) rfl rfl rfl hl.1 rfl (Nat.le_of_ble_eq_true rfl) dX4_readSign_42 ⟨Nat.le_of_ble_eq_true rfl, Nat.le_of_ble_eq_true rfl⟩) (fun H locs hI => ?_)
        obtain ⟨h_38, hf⟩ := chk_some hf
        exact ee_zm C0 hI hr hlocks (isB_n h_38).1 hf dX4_readSign_45
    · have hf := (if_neg c_27).symm.trans hf
      refine lv_iconst (v := 1) C0.1 C0.2.1 dX4_readSign_21 (by decide) ?_
      refine lv_goto (tgt := 26) C0.1 C0.2.1 dX4_readSign_22 (by decide) ?_
      obtain ⟨M_40, h_39, hf⟩ := ob_some hf
      refine k_v C1 hI (q_VN C0 C1 hI o2 (c_X3_addNumber l g (xb g r T ++ X) r b H.size n M o2 ho2 1 h_39) 58 rfl w_1394 w_60 w_123 w_1395 ⟨rfl, rfl⟩ hd_X3_addNumber ⟨Nat.le_of_ble_eq_true rfl, Nat.le_of_ble_eq_true rfl⟩ (kdlt11 ho2) ((shI_11 ho2) _) rfl rfl rfl hl.1 rfl (Nat.le_of_ble_eq_true rfl) dX4_readSign_26 ⟨Nat.le_of_ble_eq_true rfl, Nat.le_of_ble_eq_true rfl⟩) (fun H locs hI => ?_)
      refine lv_aload_n C0.1 C0.2.1 dX4_readSign_29 rfl (lv_at hl 1 rfl) ?_
      refine lv_aload_n C0.1 C0.2.1 dX4_readSign_30 rfl (lv_at hl 2 rfl) ?_
      refine lv_iload_n C0.1 C0.2.1 dX4_readSign_31 rfl (lv_at hl 0 rfl) ?_
      refine lv_if_eq (tgt := 40) C0.1 C0.2.1 dX4_readSign_32 (by decide) (fun c_41 => ?_) (fun c_41 => ?_)
      · have hf := (if_pos c_41).symm.trans hf
        refine lv_bipush (v := 45) C0.1 C0.2.1 dX4_readSign_40 (by decide) ?_
        obtain ⟨r_43, M_44, h_42, hf⟩ := ob2_some hf
        refine k_i C1 hI (q_V C0 C1 hI a (c_X4_readCharacter l g X r b H.size n M_40 T a ha 45 h_42) w_1400 w_1402 w_62 w_122 w_1403 ⟨rfl, rfl⟩ hd_X4_readCharacter ⟨Nat.le_of_ble_eq_true rfl, Nat.le_of_ble_eq_true rfl⟩ (kdlt9 ha) ((shI_9 ha) _) rfl rfl rfl hl.1 rfl (Nat.le_of_ble_eq_true rfl) dX4_readSign_42 ⟨Nat.le_of_ble_eq_true rfl, Nat.le_of_ble_eq_true rfl⟩) (fun H locs hI => ?_)
        obtain ⟨h_45, hf⟩ := chk_some hf
        exact ee_zm C0 hI hr hlocks (isB_n h_45).1 hf dX4_readSign_45
      · have hf := (if_neg c_41).symm.trans hf
        refine lv_bipush (v := 43) C0.1 C0.2.1 dX4_readSign_35 (by decide) ?_
        refine lv_goto (tgt := 42) C0.1 C0.2.1 dX4_readSign_37 (by decide) ?_
        obtain ⟨r_47, M_48, h_46, hf⟩ := ob2_some hf
        refine k_i C1 hI (q_V C0 C1 hI a (c_X4_readCharacter l g X r b H.size n M_40 T a ha 43 h_46) w_1400 w_1402 w_62 w_122 w_1403 ⟨rfl, rfl⟩ hd_X4_readCharacter ⟨Nat.le_of_ble_eq_true rfl, Nat.le_of_ble_eq_true rfl⟩ (kdlt9 ha) ((shI_9 ha) _) rfl rfl rfl hl.1 rfl (Nat.le_of_ble_eq_true rfl) dX4_readSign_42 ⟨Nat.le_of_ble_eq_true rfl, Nat.le_of_ble_eq_true rfl⟩) (fun H locs hI => ?_)
        obtain ⟨h_49, hf⟩ := chk_some hf
        exact ee_zm C0 hI hr hlocks (isB_n h_49).1 hf dX4_readSign_45
