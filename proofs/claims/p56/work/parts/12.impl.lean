def F_X6_copyFrom (n : Nat) (a : Nat) (o1 : Nat) (M : Mem) : Option Mem :=
  lt' (up2 M a 0 (M o1 0)) (fun M_1 => lt' (upr M_1 (a + 1) (va_cpy (M_1 (o1 + 1)) (M_1 (a + 1)) 0 0 12)) (fun M_3 => lt' (up2 M_3 a 2 (M_3 o1 2)) (fun M_5 => chk (isB (M_5 o1 3)) (lt' (up2 M_5 a 3 (M_5 o1 3)) (fun M_8 => lt' (up2 M_8 a 4 (M_8 o1 4)) (fun M_10 => lt' (upr M_10 (a + 2) (va_cpy (M_10 (o1 + 2)) (M_10 (a + 2)) 0 0 12)) (fun M_12 => lt' (upr M_12 (a + 3) (va_cpy (M_12 (o1 + 3)) (M_12 (a + 3)) 0 0 12)) (fun M_14 => lt' (up2 M_14 a 7 (M_14 o1 7)) (fun M_16 => lt' (up2 M_16 a 8 (M_16 o1 8)) (fun M_18 => chk (isB (M_18 o1 9)) (lt' (up2 M_18 a 9 (M_18 o1 9)) (fun M_21 => chk (isB (M_21 o1 10)) (lt' (up2 M_21 a 10 (M_21 o1 10)) (fun M_24 => lt' (up2 M_24 a 11 (M_24 o1 11)) (fun M_26 => some M_26)))))))))))))))
theorem hd_X6_copyFrom : yX6_copyFrom.cls ≠ "java/lang/invoke/MethodHandle" ∧ yX6_copyFrom.cls ≠ "java/lang/invoke/VarHandle" ∧ (parseMethodDescriptor yX6_copyFrom.desc).map (fun d => d.parameters.length) = some 1 := ⟨by decide +kernel, by decide +kernel, by decide +kernel⟩
set_option maxHeartbeats 4000000 in
set_option maxRecDepth 100000 in
theorem c_X6_copyFrom (l : Launch) (g : GG) (X : va_W) (r : Nat → Nat) (b : Nat → Nat) (sz n : Nat) (M : Mem) (a : Nat) (ha : kdI a = 5) (o1 : Nat) (ho1 : kdI o1 = 5)  {M' : Mem} (hf : F_X6_copyFrom n a o1 M = some M') : Met l yX6_copyFrom (.code yX6_copyFrom cX6_copyFrom 2 none :: LWg) (rmD 3 0 0) (va_Pc [.ref (b a), .ref (b o1)] (PreP g X 372 (shI g r b) b sz M)) (Qv g X 372 (shI g r b) b sz M') 0 0 (AA X b 372 sz) := by
  refine met_go (by decide +kernel) rfl (Nat.le_of_ble_eq_true rfl) ?_
  intro p e s m below meth c ls H locs C0 C1 hr hlocks hnm hsz hl hI
  subst hsz
  have hl : lv_has ls 2 [(0, .ref (b a)), (1, .ref (b o1))] := hl
  unfold F_X6_copyFrom at hf
  refine lv_aload_n C0.1 C0.2.1 dX6_copyFrom_0 rfl (lv_at hl 0 rfl) ?_
  refine lv_aload_n C0.1 C0.2.1 dX6_copyFrom_1 rfl (lv_at hl 1 rfl) ?_
  refine r_get (C := RX6) (T := TX6) (N9 := 12) (ci := 8) C0 C1 hI iX6 rfl o1 0 (kdlt5 ho1) (by decide) ((shI_5 ho1) _) rfl rfl w_127 dX6_copyFrom_2 ?_
  refine r_put (C := RX6) (T := TX6) (N9 := 12) (ci := 8) (fs := fMo b a) (ty := .int) C0 C1 hI iX6 tyX6 tyX6_ok nmX6 rfl a 0 (kdlt5 ha) (by decide) (shI_5 ha) rfl rfl rfl (by decide +kernel) ⟨rfl, rfl⟩ (Nat.le_of_ble_eq_true rfl) w_127 dX6_copyFrom_5 (fun H locs hI => ?_)
  obtain ⟨M_1, e_2⟩ : ∃ z : Mem, z = up2 M a 0 (M o1 0) := ⟨_, rfl⟩
  rw [← e_2] at hI
  have hf := lt_at e_2 hf
  refine lv_aload_n C0.1 C0.2.1 dX6_copyFrom_8 rfl (lv_at hl 1 rfl) ?_
  refine r_get (C := RX6) (T := TX6) (N9 := 12) (ci := 8) C0 C1 hI iX6 rfl o1 1 (kdlt5 ho1) (by decide) ((shI_5 ho1) _) rfl rfl w_129 dX6_copyFrom_9 ?_
  refine lv_iconst (v := 0) C0.1 C0.2.1 dX6_copyFrom_12 (by decide) ?_
  refine lv_aload_n C0.1 C0.2.1 dX6_copyFrom_13 rfl (lv_at hl 0 rfl) ?_
  refine r_get (C := RX6) (T := TX6) (N9 := 12) (ci := 8) C0 C1 hI iX6 rfl a 1 (kdlt5 ha) (by decide) ((shI_5 ha) _) rfl rfl w_129 dX6_copyFrom_14 ?_
  refine lv_iconst (v := 0) C0.1 C0.2.1 dX6_copyFrom_17 (by decide) ?_
  refine lv_bipush (v := 12) C0.1 C0.2.1 dX6_copyFrom_18 (by decide) ?_
  refine r_copy C0 C1 hI hl.1 (o1 + 1) (a + 1) (kdlt2 (kd5_1 ho1)) (kdlt2 (kd5_1 ha)) (shI_2 (kd5_1 ho1)) (shI_2 (kd5_1 ha)) (by decide) w_736 w_731 w_730 w_88 (Nat.le_of_ble_eq_true rfl) (Nat.le_of_ble_eq_true rfl) dX6_copyFrom_20 (fun H locs hI => ?_)
  obtain ⟨M_3, e_4⟩ : ∃ z : Mem, z = upr M_1 (a + 1) (va_cpy (M_1 (o1 + 1)) (M_1 (a + 1)) 0 0 12) := ⟨_, rfl⟩
  rw [← e_4] at hI
  have hf := lt_at e_4 hf
  refine lv_aload_n C0.1 C0.2.1 dX6_copyFrom_23 rfl (lv_at hl 0 rfl) ?_
  refine lv_aload_n C0.1 C0.2.1 dX6_copyFrom_24 rfl (lv_at hl 1 rfl) ?_
  refine r_get (C := RX6) (T := TX6) (N9 := 12) (ci := 8) C0 C1 hI iX6 rfl o1 2 (kdlt5 ho1) (by decide) ((shI_5 ho1) _) rfl rfl w_132 dX6_copyFrom_25 ?_
  refine r_put (C := RX6) (T := TX6) (N9 := 12) (ci := 8) (fs := fMo b a) (ty := .int) C0 C1 hI iX6 tyX6 tyX6_ok nmX6 rfl a 2 (kdlt5 ha) (by decide) (shI_5 ha) rfl rfl rfl (by decide +kernel) ⟨rfl, rfl⟩ (Nat.le_of_ble_eq_true rfl) w_132 dX6_copyFrom_28 (fun H locs hI => ?_)
  obtain ⟨M_5, e_6⟩ : ∃ z : Mem, z = up2 M_3 a 2 (M_3 o1 2) := ⟨_, rfl⟩
  rw [← e_6] at hI
  have hf := lt_at e_6 hf
  refine lv_aload_n C0.1 C0.2.1 dX6_copyFrom_31 rfl (lv_at hl 0 rfl) ?_
  refine lv_aload_n C0.1 C0.2.1 dX6_copyFrom_32 rfl (lv_at hl 1 rfl) ?_
  refine r_get (C := RX6) (T := TX6) (N9 := 12) (ci := 8) C0 C1 hI iX6 rfl o1 3 (kdlt5 ho1) (by decide) ((shI_5 ho1) _) rfl rfl w_135 dX6_copyFrom_33 ?_
  obtain ⟨h_7, hf⟩ := chk_some hf
  refine r_put (C := RX6) (T := TX6) (N9 := 12) (ci := 8) (fs := fMo b a) (ty := .boolean) C0 C1 hI iX6 tyX6 tyX6_ok nmX6 rfl a 3 (kdlt5 ha) (by decide) (shI_5 ha) rfl rfl rfl (by decide +kernel) (isB_n h_7) (Nat.le_of_ble_eq_true rfl) w_135 dX6_copyFrom_36 (fun H locs hI => ?_)
  obtain ⟨M_8, e_9⟩ : ∃ z : Mem, z = up2 M_5 a 3 (M_5 o1 3) := ⟨_, rfl⟩
  rw [← e_9] at hI
  have hf := lt_at e_9 hf
  refine lv_aload_n C0.1 C0.2.1 dX6_copyFrom_39 rfl (lv_at hl 0 rfl) ?_
  refine lv_aload_n C0.1 C0.2.1 dX6_copyFrom_40 rfl (lv_at hl 1 rfl) ?_
  refine r_get (C := RX6) (T := TX6) (N9 := 12) (ci := 8) C0 C1 hI iX6 rfl o1 4 (kdlt5 ho1) (by decide) ((shI_5 ho1) _) rfl rfl w_138 dX6_copyFrom_41 ?_
  refine r_put (C := RX6) (T := TX6) (N9 := 12) (ci := 8) (fs := fMo b a) (ty := .int) C0 C1 hI iX6 tyX6 tyX6_ok nmX6 rfl a 4 (kdlt5 ha) (by decide) (shI_5 ha) rfl rfl rfl (by decide +kernel) ⟨rfl, rfl⟩ (Nat.le_of_ble_eq_true rfl) w_138 dX6_copyFrom_44 (fun H locs hI => ?_)
  obtain ⟨M_10, e_11⟩ : ∃ z : Mem, z = up2 M_8 a 4 (M_8 o1 4) := ⟨_, rfl⟩
  rw [← e_11] at hI
  have hf := lt_at e_11 hf
  refine lv_aload_n C0.1 C0.2.1 dX6_copyFrom_47 rfl (lv_at hl 1 rfl) ?_
  refine r_get (C := RX6) (T := TX6) (N9 := 12) (ci := 8) C0 C1 hI iX6 rfl o1 5 (kdlt5 ho1) (by decide) ((shI_5 ho1) _) rfl rfl w_141 dX6_copyFrom_48 ?_
  refine lv_iconst (v := 0) C0.1 C0.2.1 dX6_copyFrom_51 (by decide) ?_
  refine lv_aload_n C0.1 C0.2.1 dX6_copyFrom_52 rfl (lv_at hl 0 rfl) ?_
  refine r_get (C := RX6) (T := TX6) (N9 := 12) (ci := 8) C0 C1 hI iX6 rfl a 5 (kdlt5 ha) (by decide) ((shI_5 ha) _) rfl rfl w_141 dX6_copyFrom_53 ?_
  refine lv_iconst (v := 0) C0.1 C0.2.1 dX6_copyFrom_56 (by decide) ?_
  refine lv_bipush (v := 12) C0.1 C0.2.1 dX6_copyFrom_57 (by decide) ?_
  refine r_copy C0 C1 hI hl.1 (o1 + 2) (a + 2) (kdlt2 (kd5_2 ho1)) (kdlt2 (kd5_2 ha)) (shI_2 (kd5_2 ho1)) (shI_2 (kd5_2 ha)) (by decide) w_736 w_731 w_730 w_88 (Nat.le_of_ble_eq_true rfl) (Nat.le_of_ble_eq_true rfl) dX6_copyFrom_59 (fun H locs hI => ?_)
  obtain ⟨M_12, e_13⟩ : ∃ z : Mem, z = upr M_10 (a + 2) (va_cpy (M_10 (o1 + 2)) (M_10 (a + 2)) 0 0 12) := ⟨_, rfl⟩
  rw [← e_13] at hI
  have hf := lt_at e_13 hf
  refine lv_aload_n C0.1 C0.2.1 dX6_copyFrom_62 rfl (lv_at hl 1 rfl) ?_
  refine r_get (C := RX6) (T := TX6) (N9 := 12) (ci := 8) C0 C1 hI iX6 rfl o1 6 (kdlt5 ho1) (by decide) ((shI_5 ho1) _) rfl rfl w_144 dX6_copyFrom_63 ?_
  refine lv_iconst (v := 0) C0.1 C0.2.1 dX6_copyFrom_66 (by decide) ?_
  refine lv_aload_n C0.1 C0.2.1 dX6_copyFrom_67 rfl (lv_at hl 0 rfl) ?_
  refine r_get (C := RX6) (T := TX6) (N9 := 12) (ci := 8) C0 C1 hI iX6 rfl a 6 (kdlt5 ha) (by decide) ((shI_5 ha) _) rfl rfl w_144 dX6_copyFrom_68 ?_
  refine lv_iconst (v := 0) C0.1 C0.2.1 dX6_copyFrom_71 (by decide) ?_
  refine lv_bipush (v := 12) C0.1 C0.2.1 dX6_copyFrom_72 (by decide) ?_
  refine r_copy C0 C1 hI hl.1 (o1 + 3) (a + 3) (kdlt2 (kd5_3 ho1)) (kdlt2 (kd5_3 ha)) (shI_2 (kd5_3 ho1)) (shI_2 (kd5_3 ha)) (by decide) w_736 w_731 w_730 w_88 (Nat.le_of_ble_eq_true rfl) (Nat.le_of_ble_eq_true rfl) dX6_copyFrom_74 (fun H locs hI => ?_)
  obtain ⟨M_14, e_15⟩ : ∃ z : Mem, z = upr M_12 (a + 3) (va_cpy (M_12 (o1 + 3)) (M_12 (a + 3)) 0 0 12) := ⟨_, rfl⟩
  rw [← e_15] at hI
  have hf := lt_at e_15 hf
  refine lv_aload_n C0.1 C0.2.1 dX6_copyFrom_77 rfl (lv_at hl 0 rfl) ?_
  refine lv_aload_n C0.1 C0.2.1 dX6_copyFrom_78 rfl (lv_at hl 1 rfl) ?_
  refine r_get (C := RX6) (T := TX6) (N9 := 12) (ci := 8) C0 C1 hI iX6 rfl o1 7 (kdlt5 ho1) (by decide) ((shI_5 ho1) _) rfl rfl w_147 dX6_copyFrom_79 ?_
  refine r_put (C := RX6) (T := TX6) (N9 := 12) (ci := 8) (fs := fMo b a) (ty := .int) C0 C1 hI iX6 tyX6 tyX6_ok nmX6 rfl a 7 (kdlt5 ha) (by decide) (shI_5 ha) rfl rfl rfl (by decide +kernel) ⟨rfl, rfl⟩ (Nat.le_of_ble_eq_true rfl) w_147 dX6_copyFrom_82 (fun H locs hI => ?_)
  obtain ⟨M_16, e_17⟩ : ∃ z : Mem, z = up2 M_14 a 7 (M_14 o1 7) := ⟨_, rfl⟩
  rw [← e_17] at hI
  have hf := lt_at e_17 hf
  refine lv_aload_n C0.1 C0.2.1 dX6_copyFrom_85 rfl (lv_at hl 0 rfl) ?_
  refine lv_aload_n C0.1 C0.2.1 dX6_copyFrom_86 rfl (lv_at hl 1 rfl) ?_
  refine r_get (C := RX6) (T := TX6) (N9 := 12) (ci := 8) C0 C1 hI iX6 rfl o1 8 (kdlt5 ho1) (by decide) ((shI_5 ho1) _) rfl rfl w_150 dX6_copyFrom_87 ?_
  refine r_put (C := RX6) (T := TX6) (N9 := 12) (ci := 8) (fs := fMo b a) (ty := .int) C0 C1 hI iX6 tyX6 tyX6_ok nmX6 rfl a 8 (kdlt5 ha) (by decide) (shI_5 ha) rfl rfl rfl (by decide +kernel) ⟨rfl, rfl⟩ (Nat.le_of_ble_eq_true rfl) w_150 dX6_copyFrom_90 (fun H locs hI => ?_)
  obtain ⟨M_18, e_19⟩ : ∃ z : Mem, z = up2 M_16 a 8 (M_16 o1 8) := ⟨_, rfl⟩
  rw [← e_19] at hI
  have hf := lt_at e_19 hf
  refine lv_aload_n C0.1 C0.2.1 dX6_copyFrom_93 rfl (lv_at hl 0 rfl) ?_
  refine lv_aload_n C0.1 C0.2.1 dX6_copyFrom_94 rfl (lv_at hl 1 rfl) ?_
  refine r_get (C := RX6) (T := TX6) (N9 := 12) (ci := 8) C0 C1 hI iX6 rfl o1 9 (kdlt5 ho1) (by decide) ((shI_5 ho1) _) rfl rfl w_151 dX6_copyFrom_95 ?_
  obtain ⟨h_20, hf⟩ := chk_some hf
  refine r_put (C := RX6) (T := TX6) (N9 := 12) (ci := 8) (fs := fMo b a) (ty := .boolean) C0 C1 hI iX6 tyX6 tyX6_ok nmX6 rfl a 9 (kdlt5 ha) (by decide) (shI_5 ha) rfl rfl rfl (by decide +kernel) (isB_n h_20) (Nat.le_of_ble_eq_true rfl) w_151 dX6_copyFrom_98 (fun H locs hI => ?_)
  obtain ⟨M_21, e_22⟩ : ∃ z : Mem, z = up2 M_18 a 9 (M_18 o1 9) := ⟨_, rfl⟩
  rw [← e_22] at hI
  have hf := lt_at e_22 hf
  refine lv_aload_n C0.1 C0.2.1 dX6_copyFrom_101 rfl (lv_at hl 0 rfl) ?_
  refine lv_aload_n C0.1 C0.2.1 dX6_copyFrom_102 rfl (lv_at hl 1 rfl) ?_
  refine r_get (C := RX6) (T := TX6) (N9 := 12) (ci := 8) C0 C1 hI iX6 rfl o1 10 (kdlt5 ho1) (by decide) ((shI_5 ho1) _) rfl rfl w_154 dX6_copyFrom_103 ?_
  obtain ⟨h_23, hf⟩ := chk_some hf
  refine r_put (C := RX6) (T := TX6) (N9 := 12) (ci := 8) (fs := fMo b a) (ty := .boolean) C0 C1 hI iX6 tyX6 tyX6_ok nmX6 rfl a 10 (kdlt5 ha) (by decide) (shI_5 ha) rfl rfl rfl (by decide +kernel) (isB_n h_23) (Nat.le_of_ble_eq_true rfl) w_154 dX6_copyFrom_106 (fun H locs hI => ?_)
  obtain ⟨M_24, e_25⟩ : ∃ z : Mem, z = up2 M_21 a 10 (M_21 o1 10) := ⟨_, rfl⟩
  rw [← e_25] at hI
  have hf := lt_at e_25 hf
  refine lv_aload_n C0.1 C0.2.1 dX6_copyFrom_109 rfl (lv_at hl 0 rfl) ?_
  refine lv_aload_n C0.1 C0.2.1 dX6_copyFrom_110 rfl (lv_at hl 1 rfl) ?_
  refine r_get (C := RX6) (T := TX6) (N9 := 12) (ci := 8) C0 C1 hI iX6 rfl o1 11 (kdlt5 ho1) (by decide) ((shI_5 ho1) _) rfl rfl w_157 dX6_copyFrom_111 ?_
  refine r_put (C := RX6) (T := TX6) (N9 := 12) (ci := 8) (fs := fMo b a) (ty := .int) C0 C1 hI iX6 tyX6 tyX6_ok nmX6 rfl a 11 (kdlt5 ha) (by decide) (shI_5 ha) rfl rfl rfl (by decide +kernel) ⟨rfl, rfl⟩ (Nat.le_of_ble_eq_true rfl) w_157 dX6_copyFrom_114 (fun H locs hI => ?_)
  obtain ⟨M_26, e_27⟩ : ∃ z : Mem, z = up2 M_24 a 11 (M_24 o1 11) := ⟨_, rfl⟩
  rw [← e_27] at hI
  have hf := lt_at e_27 hf
  exact ee_vm C0 hI hr hlocks hf dX6_copyFrom_117

def F_X2_copyFrom_L109 (n : Nat) (a : Nat) (o1 : Nat) : Nat → Int32 → Mem → Option Mem
  | 0, _, _ => none
  | k109 + 1, x2_109, M =>
    (if 6 ≤ x2_109 then lt' (up2 M a 10 (M o1 10)) (fun M_109_2 => lt' (up2 M_109_2 a 11 (M_109_2 o1 11)) (fun M_109_4 => some M_109_4)) else chk (inb x2_109 6) (chk (inb x2_109 6) (ob (F_X6_copyFrom n (a + 6 + 1 + 4 * ix x2_109) (o1 + 6 + 1 + 4 * ix x2_109) M) (fun M_109_9 => lt' (x2_109 + 1) (fun x2_109_10 => F_X2_copyFrom_L109 n a o1 k109 x2_109_10 M_109_9)))))
def F_X2_copyFrom (n : Nat) (a : Nat) (o1 : Nat) (M : Mem) : Option Mem :=
  lt' (up2 M a 0 (M o1 0)) (fun M_1 => lt' (upr M_1 (a + 1) (va_cpy (M_1 (o1 + 1)) (M_1 (a + 1)) 0 0 12)) (fun M_3 => lt' (upr M_3 (a + 2) (va_cpy (M_3 (o1 + 2)) (M_3 (a + 2)) 0 0 12)) (fun M_5 => lt' (upr M_5 (a + 3) (va_cpy (M_5 (o1 + 3)) (M_5 (a + 3)) 0 0 12)) (fun M_7 => lt' (upr M_7 (a + 4) (va_cpy (M_7 (o1 + 4)) (M_7 (a + 4)) 0 0 12)) (fun M_9 => lt' (up2 M_9 a 5 (M_9 o1 5)) (fun M_11 => lt' (up2 M_11 a 6 (M_11 o1 6)) (fun M_13 => lt' (upr M_13 (a + 5) (va_cpy (M_13 (o1 + 5)) (M_13 (a + 5)) 0 0 6)) (fun M_15 => lt' (up2 M_15 a 8 (M_15 o1 8)) (fun M_17 => F_X2_copyFrom_L109 n a o1 n 0 M_17)))))))))
theorem hd_X2_copyFrom : yX2_copyFrom.cls ≠ "java/lang/invoke/MethodHandle" ∧ yX2_copyFrom.cls ≠ "java/lang/invoke/VarHandle" ∧ (parseMethodDescriptor yX2_copyFrom.desc).map (fun d => d.parameters.length) = some 1 := ⟨by decide +kernel, by decide +kernel, by decide +kernel⟩
set_option maxHeartbeats 4000000 in
set_option maxRecDepth 100000 in
theorem c_X2_copyFrom (l : Launch) (g : GG) (X : va_W) (r : Nat → Nat) (b : Nat → Nat) (sz n : Nat) (M : Mem) (a : Nat) (ha : kdI a = 1) (o1 : Nat) (ho1 : kdI o1 = 1)  {M' : Mem} (hf : F_X2_copyFrom n a o1 M = some M') : Met l yX2_copyFrom (.code yX2_copyFrom cX2_copyFrom 3 none :: LWg) (rmD 4 0 0) (va_Pc [.ref (b a), .ref (b o1)] (PreP g X 372 (shI g r b) b sz M)) (Qv g X 372 (shI g r b) b sz M') 0 0 (AA X b 372 sz) := by
  refine met_go (by decide +kernel) rfl (Nat.le_of_ble_eq_true rfl) ?_
  intro p e s m below meth c ls H locs C0 C1 hr hlocks hnm hsz hl hI
  subst hsz
  have hl : lv_has ls 3 [(0, .ref (b a)), (1, .ref (b o1))] := hl
  unfold F_X2_copyFrom at hf
  refine lv_aload_n C0.1 C0.2.1 dX2_copyFrom_0 rfl (lv_at hl 0 rfl) ?_
  refine lv_aload_n C0.1 C0.2.1 dX2_copyFrom_1 rfl (lv_at hl 1 rfl) ?_
  refine r_get (C := RX2) (T := TX2) (N9 := 12) (ci := 4) C0 C1 hI iX2 rfl o1 0 (kdlt1 ho1) (by decide) ((shI_1 ho1) _) rfl rfl w_186 dX2_copyFrom_2 ?_
  refine r_put (C := RX2) (T := TX2) (N9 := 12) (ci := 4) (fs := fA b a) (ty := .int) C0 C1 hI iX2 tyX2 tyX2_ok nmX2 rfl a 0 (kdlt1 ha) (by decide) (shI_1 ha) rfl rfl rfl (by decide +kernel) ⟨rfl, rfl⟩ (Nat.le_of_ble_eq_true rfl) w_186 dX2_copyFrom_5 (fun H locs hI => ?_)
  obtain ⟨M_1, e_2⟩ : ∃ z : Mem, z = up2 M a 0 (M o1 0) := ⟨_, rfl⟩
  rw [← e_2] at hI
  have hf := lt_at e_2 hf
  refine lv_aload_n C0.1 C0.2.1 dX2_copyFrom_8 rfl (lv_at hl 1 rfl) ?_
  refine r_get (C := RX2) (T := TX2) (N9 := 12) (ci := 4) C0 C1 hI iX2 rfl o1 1 (kdlt1 ho1) (by decide) ((shI_1 ho1) _) rfl rfl w_188 dX2_copyFrom_9 ?_
  refine lv_iconst (v := 0) C0.1 C0.2.1 dX2_copyFrom_12 (by decide) ?_
  refine lv_aload_n C0.1 C0.2.1 dX2_copyFrom_13 rfl (lv_at hl 0 rfl) ?_
  refine r_get (C := RX2) (T := TX2) (N9 := 12) (ci := 4) C0 C1 hI iX2 rfl a 1 (kdlt1 ha) (by decide) ((shI_1 ha) _) rfl rfl w_188 dX2_copyFrom_14 ?_
  refine lv_iconst (v := 0) C0.1 C0.2.1 dX2_copyFrom_17 (by decide) ?_
  refine lv_bipush (v := 12) C0.1 C0.2.1 dX2_copyFrom_18 (by decide) ?_
  refine r_copy C0 C1 hI hl.1 (o1 + 1) (a + 1) (kdlt2 (kd1_1 ho1)) (kdlt2 (kd1_1 ha)) (shI_2 (kd1_1 ho1)) (shI_2 (kd1_1 ha)) (by decide) w_729 w_731 w_730 w_88 (Nat.le_of_ble_eq_true rfl) (Nat.le_of_ble_eq_true rfl) dX2_copyFrom_20 (fun H locs hI => ?_)
  obtain ⟨M_3, e_4⟩ : ∃ z : Mem, z = upr M_1 (a + 1) (va_cpy (M_1 (o1 + 1)) (M_1 (a + 1)) 0 0 12) := ⟨_, rfl⟩
  rw [← e_4] at hI
  have hf := lt_at e_4 hf
  refine lv_aload_n C0.1 C0.2.1 dX2_copyFrom_23 rfl (lv_at hl 1 rfl) ?_
  refine r_get (C := RX2) (T := TX2) (N9 := 12) (ci := 4) C0 C1 hI iX2 rfl o1 2 (kdlt1 ho1) (by decide) ((shI_1 ho1) _) rfl rfl w_190 dX2_copyFrom_24 ?_
  refine lv_iconst (v := 0) C0.1 C0.2.1 dX2_copyFrom_27 (by decide) ?_
  refine lv_aload_n C0.1 C0.2.1 dX2_copyFrom_28 rfl (lv_at hl 0 rfl) ?_
  refine r_get (C := RX2) (T := TX2) (N9 := 12) (ci := 4) C0 C1 hI iX2 rfl a 2 (kdlt1 ha) (by decide) ((shI_1 ha) _) rfl rfl w_190 dX2_copyFrom_29 ?_
  refine lv_iconst (v := 0) C0.1 C0.2.1 dX2_copyFrom_32 (by decide) ?_
  refine lv_bipush (v := 12) C0.1 C0.2.1 dX2_copyFrom_33 (by decide) ?_
  refine r_copy C0 C1 hI hl.1 (o1 + 2) (a + 2) (kdlt2 (kd1_2 ho1)) (kdlt2 (kd1_2 ha)) (shI_2 (kd1_2 ho1)) (shI_2 (kd1_2 ha)) (by decide) w_729 w_731 w_730 w_88 (Nat.le_of_ble_eq_true rfl) (Nat.le_of_ble_eq_true rfl) dX2_copyFrom_35 (fun H locs hI => ?_)
  obtain ⟨M_5, e_6⟩ : ∃ z : Mem, z = upr M_3 (a + 2) (va_cpy (M_3 (o1 + 2)) (M_3 (a + 2)) 0 0 12) := ⟨_, rfl⟩
  rw [← e_6] at hI
  have hf := lt_at e_6 hf
  refine lv_aload_n C0.1 C0.2.1 dX2_copyFrom_38 rfl (lv_at hl 1 rfl) ?_
  refine r_get (C := RX2) (T := TX2) (N9 := 12) (ci := 4) C0 C1 hI iX2 rfl o1 3 (kdlt1 ho1) (by decide) ((shI_1 ho1) _) rfl rfl w_192 dX2_copyFrom_39 ?_
  refine lv_iconst (v := 0) C0.1 C0.2.1 dX2_copyFrom_42 (by decide) ?_
  refine lv_aload_n C0.1 C0.2.1 dX2_copyFrom_43 rfl (lv_at hl 0 rfl) ?_
  refine r_get (C := RX2) (T := TX2) (N9 := 12) (ci := 4) C0 C1 hI iX2 rfl a 3 (kdlt1 ha) (by decide) ((shI_1 ha) _) rfl rfl w_192 dX2_copyFrom_44 ?_
  refine lv_iconst (v := 0) C0.1 C0.2.1 dX2_copyFrom_47 (by decide) ?_
  refine lv_bipush (v := 12) C0.1 C0.2.1 dX2_copyFrom_48 (by decide) ?_
  refine r_copy C0 C1 hI hl.1 (o1 + 3) (a + 3) (kdlt2 (kd1_3 ho1)) (kdlt2 (kd1_3 ha)) (shI_2 (kd1_3 ho1)) (shI_2 (kd1_3 ha)) (by decide) w_729 w_731 w_730 w_88 (Nat.le_of_ble_eq_true rfl) (Nat.le_of_ble_eq_true rfl) dX2_copyFrom_50 (fun H locs hI => ?_)
  obtain ⟨M_7, e_8⟩ : ∃ z : Mem, z = upr M_5 (a + 3) (va_cpy (M_5 (o1 + 3)) (M_5 (a + 3)) 0 0 12) := ⟨_, rfl⟩
  rw [← e_8] at hI
  have hf := lt_at e_8 hf
  refine lv_aload_n C0.1 C0.2.1 dX2_copyFrom_53 rfl (lv_at hl 1 rfl) ?_
  refine r_get (C := RX2) (T := TX2) (N9 := 12) (ci := 4) C0 C1 hI iX2 rfl o1 4 (kdlt1 ho1) (by decide) ((shI_1 ho1) _) rfl rfl w_194 dX2_copyFrom_54 ?_
  refine lv_iconst (v := 0) C0.1 C0.2.1 dX2_copyFrom_57 (by decide) ?_
  refine lv_aload_n C0.1 C0.2.1 dX2_copyFrom_58 rfl (lv_at hl 0 rfl) ?_
  refine r_get (C := RX2) (T := TX2) (N9 := 12) (ci := 4) C0 C1 hI iX2 rfl a 4 (kdlt1 ha) (by decide) ((shI_1 ha) _) rfl rfl w_194 dX2_copyFrom_59 ?_
  refine lv_iconst (v := 0) C0.1 C0.2.1 dX2_copyFrom_62 (by decide) ?_
  refine lv_bipush (v := 12) C0.1 C0.2.1 dX2_copyFrom_63 (by decide) ?_
  refine r_copy C0 C1 hI hl.1 (o1 + 4) (a + 4) (kdlt2 (kd1_4 ho1)) (kdlt2 (kd1_4 ha)) (shI_2 (kd1_4 ho1)) (shI_2 (kd1_4 ha)) (by decide) w_729 w_731 w_730 w_88 (Nat.le_of_ble_eq_true rfl) (Nat.le_of_ble_eq_true rfl) dX2_copyFrom_65 (fun H locs hI => ?_)
  obtain ⟨M_9, e_10⟩ : ∃ z : Mem, z = upr M_7 (a + 4) (va_cpy (M_7 (o1 + 4)) (M_7 (a + 4)) 0 0 12) := ⟨_, rfl⟩
  rw [← e_10] at hI
  have hf := lt_at e_10 hf
  refine lv_aload_n C0.1 C0.2.1 dX2_copyFrom_68 rfl (lv_at hl 0 rfl) ?_
  refine lv_aload_n C0.1 C0.2.1 dX2_copyFrom_69 rfl (lv_at hl 1 rfl) ?_
  refine r_get (C := RX2) (T := TX2) (N9 := 12) (ci := 4) C0 C1 hI iX2 rfl o1 5 (kdlt1 ho1) (by decide) ((shI_1 ho1) _) rfl rfl w_196 dX2_copyFrom_70 ?_
  refine r_put (C := RX2) (T := TX2) (N9 := 12) (ci := 4) (fs := fA b a) (ty := .int) C0 C1 hI iX2 tyX2 tyX2_ok nmX2 rfl a 5 (kdlt1 ha) (by decide) (shI_1 ha) rfl rfl rfl (by decide +kernel) ⟨rfl, rfl⟩ (Nat.le_of_ble_eq_true rfl) w_196 dX2_copyFrom_73 (fun H locs hI => ?_)
  obtain ⟨M_11, e_12⟩ : ∃ z : Mem, z = up2 M_9 a 5 (M_9 o1 5) := ⟨_, rfl⟩
  rw [← e_12] at hI
  have hf := lt_at e_12 hf
  refine lv_aload_n C0.1 C0.2.1 dX2_copyFrom_76 rfl (lv_at hl 0 rfl) ?_
  refine lv_aload_n C0.1 C0.2.1 dX2_copyFrom_77 rfl (lv_at hl 1 rfl) ?_
  refine r_get (C := RX2) (T := TX2) (N9 := 12) (ci := 4) C0 C1 hI iX2 rfl o1 6 (kdlt1 ho1) (by decide) ((shI_1 ho1) _) rfl rfl w_198 dX2_copyFrom_78 ?_
  refine r_put (C := RX2) (T := TX2) (N9 := 12) (ci := 4) (fs := fA b a) (ty := .int) C0 C1 hI iX2 tyX2 tyX2_ok nmX2 rfl a 6 (kdlt1 ha) (by decide) (shI_1 ha) rfl rfl rfl (by decide +kernel) ⟨rfl, rfl⟩ (Nat.le_of_ble_eq_true rfl) w_198 dX2_copyFrom_81 (fun H locs hI => ?_)
  obtain ⟨M_13, e_14⟩ : ∃ z : Mem, z = up2 M_11 a 6 (M_11 o1 6) := ⟨_, rfl⟩
  rw [← e_14] at hI
  have hf := lt_at e_14 hf
  refine lv_aload_n C0.1 C0.2.1 dX2_copyFrom_84 rfl (lv_at hl 1 rfl) ?_
  refine r_get (C := RX2) (T := TX2) (N9 := 12) (ci := 4) C0 C1 hI iX2 rfl o1 7 (kdlt1 ho1) (by decide) ((shI_1 ho1) _) rfl rfl w_200 dX2_copyFrom_85 ?_
  refine lv_iconst (v := 0) C0.1 C0.2.1 dX2_copyFrom_88 (by decide) ?_
  refine lv_aload_n C0.1 C0.2.1 dX2_copyFrom_89 rfl (lv_at hl 0 rfl) ?_
  refine r_get (C := RX2) (T := TX2) (N9 := 12) (ci := 4) C0 C1 hI iX2 rfl a 7 (kdlt1 ha) (by decide) ((shI_1 ha) _) rfl rfl w_200 dX2_copyFrom_90 ?_
  refine lv_iconst (v := 0) C0.1 C0.2.1 dX2_copyFrom_93 (by decide) ?_
  refine lv_bipush (v := 6) C0.1 C0.2.1 dX2_copyFrom_94 (by decide) ?_
  refine r_copy C0 C1 hI hl.1 (o1 + 5) (a + 5) (kdlt3 (kd1_5 ho1)) (kdlt3 (kd1_5 ha)) (shI_3 (kd1_5 ho1)) (shI_3 (kd1_5 ha)) (by decide) w_729 w_731 w_730 w_88 (Nat.le_of_ble_eq_true rfl) (Nat.le_of_ble_eq_true rfl) dX2_copyFrom_96 (fun H locs hI => ?_)
  obtain ⟨M_15, e_16⟩ : ∃ z : Mem, z = upr M_13 (a + 5) (va_cpy (M_13 (o1 + 5)) (M_13 (a + 5)) 0 0 6) := ⟨_, rfl⟩
  rw [← e_16] at hI
  have hf := lt_at e_16 hf
  refine lv_aload_n C0.1 C0.2.1 dX2_copyFrom_99 rfl (lv_at hl 0 rfl) ?_
  refine lv_aload_n C0.1 C0.2.1 dX2_copyFrom_100 rfl (lv_at hl 1 rfl) ?_
  refine r_get (C := RX2) (T := TX2) (N9 := 12) (ci := 4) C0 C1 hI iX2 rfl o1 8 (kdlt1 ho1) (by decide) ((shI_1 ho1) _) rfl rfl w_201 dX2_copyFrom_101 ?_
  refine r_put (C := RX2) (T := TX2) (N9 := 12) (ci := 4) (fs := fA b a) (ty := .int) C0 C1 hI iX2 tyX2 tyX2_ok nmX2 rfl a 8 (kdlt1 ha) (by decide) (shI_1 ha) rfl rfl rfl (by decide +kernel) ⟨rfl, rfl⟩ (Nat.le_of_ble_eq_true rfl) w_201 dX2_copyFrom_104 (fun H locs hI => ?_)
  obtain ⟨M_17, e_18⟩ : ∃ z : Mem, z = up2 M_15 a 8 (M_15 o1 8) := ⟨_, rfl⟩
  rw [← e_18] at hI
  have hf := lt_at e_18 hf
  refine lv_iconst (v := 0) C0.1 C0.2.1 dX2_copyFrom_107 (by decide) ?_
  refine lv_istore_n (lv' := [(2, .int 0), (0, .ref (b a)), (1, .ref (b o1))]) C0.1 C0.2.1 dX2_copyFrom_108 rfl hl (by decide) rfl (fun ls hl => ?_)
  have L109 : ∀ (k109 : Nat) (x2_109 : Int32) (M : Mem), F_X2_copyFrom_L109 n a o1 k109 x2_109 M = some M' → ∀ (H : Heap) (locs : List Loc) (ls : Array Slot), PI g X 372 (shI g r b) b s M H locs → lv_has ls 3 [(0, .ref (b a)), (1, .ref (b o1)), (2, .int x2_109)] → W p l e (rmD 4 0 0) s m ([.ref (b a), .ref (b o1)] : List Value).toArray below meth c H locs 0 0 (MQ below (Qv g X 372 (shI g r b) b s.heap.size M') ([.ref (b a), .ref (b o1)] : List Value).toArray s 0 0 (AA X b 372 s.heap.size)) (F0 m 109 ls []) := by
    intro k109
    induction k109 with
    | zero => intro x2_109 M hf; exact absurd (show (none : Option Mem) = some M' from hf) (fun h => by cases h)
    | succ k109 ih109 =>
      intro x2_109 M hf H locs ls hI hl
      unfold F_X2_copyFrom_L109 at hf
      refine lv_iload_n C0.1 C0.2.1 dX2_copyFrom_109 rfl (lv_at hl 2 rfl) ?_
      refine lv_bipush (v := 6) C0.1 C0.2.1 dX2_copyFrom_110 (by decide) ?_
      refine lv_icmp_ge (tgt := 136) C0.1 C0.2.1 dX2_copyFrom_112 (by decide) (fun c_109_1 => ?_) (fun c_109_1 => ?_)
      · have hf := (if_pos c_109_1).symm.trans hf
        refine lv_aload_n C0.1 C0.2.1 dX2_copyFrom_136 rfl (lv_at hl 0 rfl) ?_
        refine lv_aload_n C0.1 C0.2.1 dX2_copyFrom_137 rfl (lv_at hl 1 rfl) ?_
        refine r_get (C := RX2) (T := TX2) (N9 := 12) (ci := 4) C0 C1 hI iX2 rfl o1 10 (kdlt1 ho1) (by decide) ((shI_1 ho1) _) rfl rfl w_205 dX2_copyFrom_138 ?_
        refine r_put (C := RX2) (T := TX2) (N9 := 12) (ci := 4) (fs := fA b a) (ty := .int) C0 C1 hI iX2 tyX2 tyX2_ok nmX2 rfl a 10 (kdlt1 ha) (by decide) (shI_1 ha) rfl rfl rfl (by decide +kernel) ⟨rfl, rfl⟩ (Nat.le_of_ble_eq_true rfl) w_205 dX2_copyFrom_141 (fun H locs hI => ?_)
        obtain ⟨M_109_2, e_109_3⟩ : ∃ z : Mem, z = up2 M a 10 (M o1 10) := ⟨_, rfl⟩
        rw [← e_109_3] at hI
        have hf := lt_at e_109_3 hf
        refine lv_aload_n C0.1 C0.2.1 dX2_copyFrom_144 rfl (lv_at hl 0 rfl) ?_
        refine lv_aload_n C0.1 C0.2.1 dX2_copyFrom_145 rfl (lv_at hl 1 rfl) ?_
        refine r_get (C := RX2) (T := TX2) (N9 := 12) (ci := 4) C0 C1 hI iX2 rfl o1 11 (kdlt1 ho1) (by decide) ((shI_1 ho1) _) rfl rfl w_207 dX2_copyFrom_146 ?_
        refine r_put (C := RX2) (T := TX2) (N9 := 12) (ci := 4) (fs := fA b a) (ty := .int) C0 C1 hI iX2 tyX2 tyX2_ok nmX2 rfl a 11 (kdlt1 ha) (by decide) (shI_1 ha) rfl rfl rfl (by decide +kernel) ⟨rfl, rfl⟩ (Nat.le_of_ble_eq_true rfl) w_207 dX2_copyFrom_149 (fun H locs hI => ?_)
        obtain ⟨M_109_4, e_109_5⟩ : ∃ z : Mem, z = up2 M_109_2 a 11 (M_109_2 o1 11) := ⟨_, rfl⟩
        rw [← e_109_5] at hI
        have hf := lt_at e_109_5 hf
        exact ee_vm C0 hI hr hlocks hf dX2_copyFrom_152
      · have hf := (if_neg c_109_1).symm.trans hf
        refine lv_aload_n C0.1 C0.2.1 dX2_copyFrom_115 rfl (lv_at hl 0 rfl) ?_
        refine r_get (C := RX2) (T := TX2) (N9 := 12) (ci := 4) C0 C1 hI iX2 rfl a 9 (kdlt1 ha) (by decide) ((shI_1 ha) _) rfl rfl w_203 dX2_copyFrom_116 ?_
        refine lv_iload_n C0.1 C0.2.1 dX2_copyFrom_119 rfl (lv_at hl 2 rfl) ?_
        obtain ⟨h_109_6, hf⟩ := chk_some hf
        refine r_aald (t0 := 1) C0 C1 hI (a + 6) (kdlt4 (kd1_6 ha)) (shI_4 (kd1_6 ha)) rfl h_109_6 rfl dX2_copyFrom_120 ?_
        refine lv_aload_n C0.1 C0.2.1 dX2_copyFrom_121 rfl (lv_at hl 1 rfl) ?_
        refine r_get (C := RX2) (T := TX2) (N9 := 12) (ci := 4) C0 C1 hI iX2 rfl o1 9 (kdlt1 ho1) (by decide) ((shI_1 ho1) _) rfl rfl w_203 dX2_copyFrom_122 ?_
        refine lv_iload_n C0.1 C0.2.1 dX2_copyFrom_125 rfl (lv_at hl 2 rfl) ?_
        obtain ⟨h_109_7, hf⟩ := chk_some hf
        refine r_aald (t0 := 1) C0 C1 hI (o1 + 6) (kdlt4 (kd1_6 ho1)) (shI_4 (kd1_6 ho1)) rfl h_109_7 rfl dX2_copyFrom_126 ?_
        obtain ⟨M_109_9, h_109_8, hf⟩ := ob_some hf
        refine k_v C1 hI (q_VN C0 C1 hI (a + 6 + 1 + 4 * ix x2_109) (c_X6_copyFrom l g X r b H.size n M (a + 6 + 1 + 4 * ix x2_109) (kd4_i (kd1_6 ha) h_109_6) (o1 + 6 + 1 + 4 * ix x2_109) (kd4_i (kd1_6 ho1) h_109_7) h_109_8) 20 rfl w_734 w_19 w_73 w_735 ⟨rfl, rfl⟩ hd_X6_copyFrom ⟨Nat.le_of_ble_eq_true rfl, Nat.le_of_ble_eq_true rfl⟩ (kdlt5 (kd4_i (kd1_6 ha) h_109_6)) ((shI_5 (kd4_i (kd1_6 ha) h_109_6)) _) rfl rfl rfl hl.1 rfl (Nat.le_of_ble_eq_true rfl) dX2_copyFrom_127 ⟨Nat.le_of_ble_eq_true rfl, Nat.le_of_ble_eq_true rfl⟩) (fun H locs hI => ?_)
        obtain ⟨x2_109_10, e_109_11⟩ : ∃ z : Int32, z = x2_109 + 1 := ⟨_, rfl⟩
        have hf := lt_at e_109_11 hf
        refine lv_iinc (v := x2_109_10) (lv' := [(2, .int x2_109_10), (0, .ref (b a)), (1, .ref (b o1))]) C0.1 C0.2.1 dX2_copyFrom_130 hl (k := 2) rfl (by rw [e_109_11]; rfl) (by decide) rfl (fun ls hl => ?_)
        refine lv_goto (tgt := 109) C0.1 C0.2.1 dX2_copyFrom_133 (by decide) ?_
        exact ih109 x2_109_10 M_109_9 hf H locs ls hI (lv_sub hl [1, 2, 0] rfl)
  exact L109 n 0 M_17 hf H locs ls hI (lv_sub hl [1, 2, 0] rfl)

def F_X2_hasFrog (n : Nat) (a : Nat) (x1 : Int32) (M : Mem) : Option Int32 :=
  (if x1 < 0 then some 0 else (if (M a 0) ≤ x1 then some 0 else some 1))
theorem hd_X2_hasFrog : yX2_hasFrog.cls ≠ "java/lang/invoke/MethodHandle" ∧ yX2_hasFrog.cls ≠ "java/lang/invoke/VarHandle" ∧ (parseMethodDescriptor yX2_hasFrog.desc).map (fun d => d.parameters.length) = some 1 := ⟨by decide +kernel, by decide +kernel, by decide +kernel⟩
set_option maxHeartbeats 4000000 in
set_option maxRecDepth 100000 in
theorem c_X2_hasFrog (l : Launch) (g : GG) (X : va_W) (r : Nat → Nat) (b : Nat → Nat) (sz n : Nat) (M : Mem) (a : Nat) (ha : kdI a = 1) (x1 : Int32) {r0 : Int32} (hf : F_X2_hasFrog n a x1 M = some r0) : Met l yX2_hasFrog (.code yX2_hasFrog cX2_hasFrog 2 (some .boolean) :: LWg) (rmD 0 0 0) (va_Pc [.ref (b a), .int x1] (PreP g X 372 (shI g r b) b sz M)) (Qi g X 372 (shI g r b) b sz r0 M) 0 0 (AA X b 372 sz) := by
  refine met_go (by decide +kernel) rfl (Nat.le_of_ble_eq_true rfl) ?_
  intro p e s m below meth c ls H locs C0 C1 hr hlocks hnm hsz hl hI
  subst hsz
  have hl : lv_has ls 2 [(0, .ref (b a)), (1, .int x1)] := hl
  unfold F_X2_hasFrog at hf
  refine lv_iload_n C0.1 C0.2.1 dX2_hasFrog_0 rfl (lv_at hl 1 rfl) ?_
  refine lv_if_lt (tgt := 16) C0.1 C0.2.1 dX2_hasFrog_1 (by decide) (fun c_1 => ?_) (fun c_1 => ?_)
  · have hf := (if_pos c_1).symm.trans hf
    refine lv_iconst (v := 0) C0.1 C0.2.1 dX2_hasFrog_16 (by decide) ?_
    exact ee_z C0 hI hr hlocks rfl hf dX2_hasFrog_17
  · have hf := (if_neg c_1).symm.trans hf
    refine lv_iload_n C0.1 C0.2.1 dX2_hasFrog_4 rfl (lv_at hl 1 rfl) ?_
    refine lv_aload_n C0.1 C0.2.1 dX2_hasFrog_5 rfl (lv_at hl 0 rfl) ?_
    refine r_get (C := RX2) (T := TX2) (N9 := 12) (ci := 4) C0 C1 hI iX2 rfl a 0 (kdlt1 ha) (by decide) ((shI_1 ha) _) rfl rfl w_186 dX2_hasFrog_6 ?_
    refine lv_icmp_ge (tgt := 16) C0.1 C0.2.1 dX2_hasFrog_9 (by decide) (fun c_2 => ?_) (fun c_2 => ?_)
    · have hf := (if_pos c_2).symm.trans hf
      refine lv_iconst (v := 0) C0.1 C0.2.1 dX2_hasFrog_16 (by decide) ?_
      exact ee_z C0 hI hr hlocks rfl hf dX2_hasFrog_17
    · have hf := (if_neg c_2).symm.trans hf
      refine lv_iconst (v := 1) C0.1 C0.2.1 dX2_hasFrog_12 (by decide) ?_
      refine lv_goto (tgt := 17) C0.1 C0.2.1 dX2_hasFrog_13 (by decide) ?_
      exact ee_z C0 hI hr hlocks rfl hf dX2_hasFrog_17

def F_X2_hasPad (n : Nat) (a : Nat) (x1 : Int32) (M : Mem) : Option Int32 :=
  (if x1 < 0 then some 0 else (if (M a 6) ≤ x1 then some 0 else some 1))
theorem hd_X2_hasPad : yX2_hasPad.cls ≠ "java/lang/invoke/MethodHandle" ∧ yX2_hasPad.cls ≠ "java/lang/invoke/VarHandle" ∧ (parseMethodDescriptor yX2_hasPad.desc).map (fun d => d.parameters.length) = some 1 := ⟨by decide +kernel, by decide +kernel, by decide +kernel⟩
set_option maxHeartbeats 4000000 in
set_option maxRecDepth 100000 in
theorem c_X2_hasPad (l : Launch) (g : GG) (X : va_W) (r : Nat → Nat) (b : Nat → Nat) (sz n : Nat) (M : Mem) (a : Nat) (ha : kdI a = 1) (x1 : Int32) {r0 : Int32} (hf : F_X2_hasPad n a x1 M = some r0) : Met l yX2_hasPad (.code yX2_hasPad cX2_hasPad 2 (some .boolean) :: LWg) (rmD 0 0 0) (va_Pc [.ref (b a), .int x1] (PreP g X 372 (shI g r b) b sz M)) (Qi g X 372 (shI g r b) b sz r0 M) 0 0 (AA X b 372 sz) := by
  refine met_go (by decide +kernel) rfl (Nat.le_of_ble_eq_true rfl) ?_
  intro p e s m below meth c ls H locs C0 C1 hr hlocks hnm hsz hl hI
  subst hsz
  have hl : lv_has ls 2 [(0, .ref (b a)), (1, .int x1)] := hl
  unfold F_X2_hasPad at hf
  refine lv_iload_n C0.1 C0.2.1 dX2_hasPad_0 rfl (lv_at hl 1 rfl) ?_
  refine lv_if_lt (tgt := 16) C0.1 C0.2.1 dX2_hasPad_1 (by decide) (fun c_1 => ?_) (fun c_1 => ?_)
  · have hf := (if_pos c_1).symm.trans hf
    refine lv_iconst (v := 0) C0.1 C0.2.1 dX2_hasPad_16 (by decide) ?_
    exact ee_z C0 hI hr hlocks rfl hf dX2_hasPad_17
  · have hf := (if_neg c_1).symm.trans hf
    refine lv_iload_n C0.1 C0.2.1 dX2_hasPad_4 rfl (lv_at hl 1 rfl) ?_
    refine lv_aload_n C0.1 C0.2.1 dX2_hasPad_5 rfl (lv_at hl 0 rfl) ?_
    refine r_get (C := RX2) (T := TX2) (N9 := 12) (ci := 4) C0 C1 hI iX2 rfl a 6 (kdlt1 ha) (by decide) ((shI_1 ha) _) rfl rfl w_198 dX2_hasPad_6 ?_
    refine lv_icmp_ge (tgt := 16) C0.1 C0.2.1 dX2_hasPad_9 (by decide) (fun c_2 => ?_) (fun c_2 => ?_)
    · have hf := (if_pos c_2).symm.trans hf
      refine lv_iconst (v := 0) C0.1 C0.2.1 dX2_hasPad_16 (by decide) ?_
      exact ee_z C0 hI hr hlocks rfl hf dX2_hasPad_17
    · have hf := (if_neg c_2).symm.trans hf
      refine lv_iconst (v := 1) C0.1 C0.2.1 dX2_hasPad_12 (by decide) ?_
      refine lv_goto (tgt := 17) C0.1 C0.2.1 dX2_hasPad_13 (by decide) ?_
      exact ee_z C0 hI hr hlocks rfl hf dX2_hasPad_17

def F_X2_hasMotion (n : Nat) (a : Nat) (x1 : Int32) (M : Mem) : Option Int32 :=
  (if x1 < 0 then some 0 else (if (M a 8) ≤ x1 then some 0 else some 1))
theorem hd_X2_hasMotion : yX2_hasMotion.cls ≠ "java/lang/invoke/MethodHandle" ∧ yX2_hasMotion.cls ≠ "java/lang/invoke/VarHandle" ∧ (parseMethodDescriptor yX2_hasMotion.desc).map (fun d => d.parameters.length) = some 1 := ⟨by decide +kernel, by decide +kernel, by decide +kernel⟩
set_option maxHeartbeats 4000000 in
set_option maxRecDepth 100000 in
theorem c_X2_hasMotion (l : Launch) (g : GG) (X : va_W) (r : Nat → Nat) (b : Nat → Nat) (sz n : Nat) (M : Mem) (a : Nat) (ha : kdI a = 1) (x1 : Int32) {r0 : Int32} (hf : F_X2_hasMotion n a x1 M = some r0) : Met l yX2_hasMotion (.code yX2_hasMotion cX2_hasMotion 2 (some .boolean) :: LWg) (rmD 0 0 0) (va_Pc [.ref (b a), .int x1] (PreP g X 372 (shI g r b) b sz M)) (Qi g X 372 (shI g r b) b sz r0 M) 0 0 (AA X b 372 sz) := by
  refine met_go (by decide +kernel) rfl (Nat.le_of_ble_eq_true rfl) ?_
  intro p e s m below meth c ls H locs C0 C1 hr hlocks hnm hsz hl hI
  subst hsz
  have hl : lv_has ls 2 [(0, .ref (b a)), (1, .int x1)] := hl
  unfold F_X2_hasMotion at hf
  refine lv_iload_n C0.1 C0.2.1 dX2_hasMotion_0 rfl (lv_at hl 1 rfl) ?_
  refine lv_if_lt (tgt := 16) C0.1 C0.2.1 dX2_hasMotion_1 (by decide) (fun c_1 => ?_) (fun c_1 => ?_)
  · have hf := (if_pos c_1).symm.trans hf
    refine lv_iconst (v := 0) C0.1 C0.2.1 dX2_hasMotion_16 (by decide) ?_
    exact ee_z C0 hI hr hlocks rfl hf dX2_hasMotion_17
  · have hf := (if_neg c_1).symm.trans hf
    refine lv_iload_n C0.1 C0.2.1 dX2_hasMotion_4 rfl (lv_at hl 1 rfl) ?_
    refine lv_aload_n C0.1 C0.2.1 dX2_hasMotion_5 rfl (lv_at hl 0 rfl) ?_
    refine r_get (C := RX2) (T := TX2) (N9 := 12) (ci := 4) C0 C1 hI iX2 rfl a 8 (kdlt1 ha) (by decide) ((shI_1 ha) _) rfl rfl w_201 dX2_hasMotion_6 ?_
    refine lv_icmp_ge (tgt := 16) C0.1 C0.2.1 dX2_hasMotion_9 (by decide) (fun c_2 => ?_) (fun c_2 => ?_)
    · have hf := (if_pos c_2).symm.trans hf
      refine lv_iconst (v := 0) C0.1 C0.2.1 dX2_hasMotion_16 (by decide) ?_
      exact ee_z C0 hI hr hlocks rfl hf dX2_hasMotion_17
    · have hf := (if_neg c_2).symm.trans hf
      refine lv_iconst (v := 1) C0.1 C0.2.1 dX2_hasMotion_12 (by decide) ?_
      refine lv_goto (tgt := 17) C0.1 C0.2.1 dX2_hasMotion_13 (by decide) ?_
      exact ee_z C0 hI hr hlocks rfl hf dX2_hasMotion_17

def F_X2_refusalOfPair (n : Nat) (a : Nat) (x1 : Int32) (x2 : Int32) (M : Mem) : Option Nat :=
  ob (F_X2_hasMotion n a x1 M) (fun r_2 => (if r_2 = 0 then some 4 else ob (F_X2_hasFrog n a x2 M) (fun r_5 => (if r_5 = 0 then some 2 else some 0))))
theorem hd_X2_refusalOfPair : yX2_refusalOfPair.cls ≠ "java/lang/invoke/MethodHandle" ∧ yX2_refusalOfPair.cls ≠ "java/lang/invoke/VarHandle" ∧ (parseMethodDescriptor yX2_refusalOfPair.desc).map (fun d => d.parameters.length) = some 2 := ⟨by decide +kernel, by decide +kernel, by decide +kernel⟩
set_option maxHeartbeats 4000000 in
set_option maxRecDepth 100000 in
theorem c_X2_refusalOfPair (l : Launch) (g : GG) (X : va_W) (r : Nat → Nat) (b : Nat → Nat) (sz n : Nat) (M : Mem) (a : Nat) (ha : kdI a = 1) (x1 : Int32) (x2 : Int32) {r0 : Nat} (hf : F_X2_refusalOfPair n a x1 x2 M = some r0) : Met l yX2_refusalOfPair (.code yX2_refusalOfPair cX2_refusalOfPair 3 (some (.object "FrogParliament$Refusal")) :: LWg) (rmD 1 0 0) (va_Pc [.ref (b a), .int x1, .int x2] (PreP g X 372 (shI g r b) b sz M)) (Qe g X 372 (shI g r b) b sz r0 M) 0 0 (AA X b 372 sz) := by
  refine met_go (by decide +kernel) rfl (Nat.le_of_ble_eq_true rfl) ?_
  intro p e s m below meth c ls H locs C0 C1 hr hlocks hnm hsz hl hI
  subst hsz
  have hl : lv_has ls 3 [(0, .ref (b a)), (1, .int x1), (2, .int x2)] := hl
  unfold F_X2_refusalOfPair at hf
  refine lv_aload_n C0.1 C0.2.1 dX2_refusalOfPair_0 rfl (lv_at hl 0 rfl) ?_
  refine lv_iload_n C0.1 C0.2.1 dX2_refusalOfPair_1 rfl (lv_at hl 1 rfl) ?_
  obtain ⟨r_2, h_1, hf⟩ := ob_some hf
  refine k_i C1 hI (q_V C0 C1 hI a (c_X2_hasMotion l g X r b H.size n M a ha x1 h_1) w_597 w_417 w_3 w_72 w_418 ⟨rfl, rfl⟩ hd_X2_hasMotion ⟨Nat.le_of_ble_eq_true rfl, Nat.le_of_ble_eq_true rfl⟩ (kdlt1 ha) ((shI_1 ha) _) rfl rfl rfl hl.1 rfl (Nat.le_of_ble_eq_true rfl) dX2_refusalOfPair_2 ⟨Nat.le_of_ble_eq_true rfl, Nat.le_of_ble_eq_true rfl⟩) (fun H locs hI => ?_)
  refine lv_if_ne (tgt := 12) C0.1 C0.2.1 dX2_refusalOfPair_5 (by decide) (fun c_3 => ?_) (fun c_3 => ?_)
  · have hf := (if_neg c_3).symm.trans hf
    refine lv_aload_n C0.1 C0.2.1 dX2_refusalOfPair_12 rfl (lv_at hl 0 rfl) ?_
    refine lv_iload_n C0.1 C0.2.1 dX2_refusalOfPair_13 rfl (lv_at hl 2 rfl) ?_
    obtain ⟨r_5, h_4, hf⟩ := ob_some hf
    refine k_i C1 hI (q_V C0 C1 hI a (c_X2_hasFrog l g X r b H.size n M a ha x2 h_4) w_769 w_771 w_24 w_72 w_772 ⟨rfl, rfl⟩ hd_X2_hasFrog ⟨Nat.le_of_ble_eq_true rfl, Nat.le_of_ble_eq_true rfl⟩ (kdlt1 ha) ((shI_1 ha) _) rfl rfl rfl hl.1 rfl (Nat.le_of_ble_eq_true rfl) dX2_refusalOfPair_14 ⟨Nat.le_of_ble_eq_true rfl, Nat.le_of_ble_eq_true rfl⟩) (fun H locs hI => ?_)
    refine lv_if_eq (tgt := 26) C0.1 C0.2.1 dX2_refusalOfPair_17 (by decide) (fun c_6 => ?_) (fun c_6 => ?_)
    · have hf := (if_pos c_6).symm.trans hf
      refine r_refu C0 C1 hI 2 (by decide) (n := "NO_SUCH_FROG") rfl w_773 dX2_refusalOfPair_26 ?_
      exact ee_e C0 hI hr hlocks hf dX2_refusalOfPair_29
    · have hf := (if_neg c_6).symm.trans hf
      refine r_refu C0 C1 hI 0 (by decide) (n := "NOTHING") rfl w_599 dX2_refusalOfPair_20 ?_
      refine lv_goto (tgt := 29) C0.1 C0.2.1 dX2_refusalOfPair_23 (by decide) ?_
      exact ee_e C0 hI hr hlocks hf dX2_refusalOfPair_29
  · have hf := (if_pos c_3).symm.trans hf
    refine r_refu C0 C1 hI 4 (by decide) (n := "NO_SUCH_MOTION") rfl w_598 dX2_refusalOfPair_8 ?_
    exact ee_e C0 hI hr hlocks hf dX2_refusalOfPair_11

def F_X2_refusalToAdmit (n : Nat) (a : Nat) (x1 : Int32) (x2 : Int32) (M : Mem) : Option Nat :=
  (if x1 < 0 then some 1 else (if x1 < 4 then (if x2 < 1 then some 5 else (if x2 ≤ 9 then (if 12 ≤ (M a 0) then some 10 else some 0) else some 5)) else some 1))
theorem hd_X2_refusalToAdmit : yX2_refusalToAdmit.cls ≠ "java/lang/invoke/MethodHandle" ∧ yX2_refusalToAdmit.cls ≠ "java/lang/invoke/VarHandle" ∧ (parseMethodDescriptor yX2_refusalToAdmit.desc).map (fun d => d.parameters.length) = some 2 := ⟨by decide +kernel, by decide +kernel, by decide +kernel⟩
set_option maxHeartbeats 4000000 in
set_option maxRecDepth 100000 in
theorem c_X2_refusalToAdmit (l : Launch) (g : GG) (X : va_W) (r : Nat → Nat) (b : Nat → Nat) (sz n : Nat) (M : Mem) (a : Nat) (ha : kdI a = 1) (x1 : Int32) (x2 : Int32) {r0 : Nat} (hf : F_X2_refusalToAdmit n a x1 x2 M = some r0) : Met l yX2_refusalToAdmit (.code yX2_refusalToAdmit cX2_refusalToAdmit 3 (some (.object "FrogParliament$Refusal")) :: LWg) (rmD 0 0 0) (va_Pc [.ref (b a), .int x1, .int x2] (PreP g X 372 (shI g r b) b sz M)) (Qe g X 372 (shI g r b) b sz r0 M) 0 0 (AA X b 372 sz) := by
  refine met_go (by decide +kernel) rfl (Nat.le_of_ble_eq_true rfl) ?_
  intro p e s m below meth c ls H locs C0 C1 hr hlocks hnm hsz hl hI
  subst hsz
  have hl : lv_has ls 3 [(0, .ref (b a)), (1, .int x1), (2, .int x2)] := hl
  unfold F_X2_refusalToAdmit at hf
  refine lv_iload_n C0.1 C0.2.1 dX2_refusalToAdmit_0 rfl (lv_at hl 1 rfl) ?_
  refine lv_if_lt (tgt := 9) C0.1 C0.2.1 dX2_refusalToAdmit_1 (by decide) (fun c_1 => ?_) (fun c_1 => ?_)
  · have hf := (if_pos c_1).symm.trans hf
    refine r_refu C0 C1 hI 1 (by decide) (n := "NO_SUCH_POND") rfl w_715 dX2_refusalToAdmit_9 ?_
    exact ee_e C0 hI hr hlocks hf dX2_refusalToAdmit_12
  · have hf := (if_neg c_1).symm.trans hf
    refine lv_iload_n C0.1 C0.2.1 dX2_refusalToAdmit_4 rfl (lv_at hl 1 rfl) ?_
    refine lv_iconst (v := 4) C0.1 C0.2.1 dX2_refusalToAdmit_5 (by decide) ?_
    refine lv_icmp_lt (tgt := 13) C0.1 C0.2.1 dX2_refusalToAdmit_6 (by decide) (fun c_2 => ?_) (fun c_2 => ?_)
    · have hf := (if_pos c_2).symm.trans hf
      refine lv_iload_n C0.1 C0.2.1 dX2_refusalToAdmit_13 rfl (lv_at hl 2 rfl) ?_
      refine lv_iconst (v := 1) C0.1 C0.2.1 dX2_refusalToAdmit_14 (by decide) ?_
      refine lv_icmp_lt (tgt := 24) C0.1 C0.2.1 dX2_refusalToAdmit_15 (by decide) (fun c_3 => ?_) (fun c_3 => ?_)
      · have hf := (if_pos c_3).symm.trans hf
        refine r_refu C0 C1 hI 5 (by decide) (n := "WRONG_WEIGHT") rfl w_717 dX2_refusalToAdmit_24 ?_
        exact ee_e C0 hI hr hlocks hf dX2_refusalToAdmit_27
      · have hf := (if_neg c_3).symm.trans hf
        refine lv_iload_n C0.1 C0.2.1 dX2_refusalToAdmit_18 rfl (lv_at hl 2 rfl) ?_
        refine lv_bipush (v := 9) C0.1 C0.2.1 dX2_refusalToAdmit_19 (by decide) ?_
        refine lv_icmp_le (tgt := 28) C0.1 C0.2.1 dX2_refusalToAdmit_21 (by decide) (fun c_4 => ?_) (fun c_4 => ?_)
        · have hf := (if_pos c_4).symm.trans hf
          refine lv_aload_n C0.1 C0.2.1 dX2_refusalToAdmit_28 rfl (lv_at hl 0 rfl) ?_
          refine r_get (C := RX2) (T := TX2) (N9 := 12) (ci := 4) C0 C1 hI iX2 rfl a 0 (kdlt1 ha) (by decide) ((shI_1 ha) _) rfl rfl w_186 dX2_refusalToAdmit_29 ?_
          refine lv_bipush (v := 12) C0.1 C0.2.1 dX2_refusalToAdmit_32 (by decide) ?_
          refine lv_icmp_ge (tgt := 43) C0.1 C0.2.1 dX2_refusalToAdmit_34 (by decide) (fun c_5 => ?_) (fun c_5 => ?_)
          · have hf := (if_pos c_5).symm.trans hf
            refine r_refu C0 C1 hI 10 (by decide) (n := "TOO_MANY") rfl w_719 dX2_refusalToAdmit_43 ?_
            exact ee_e C0 hI hr hlocks hf dX2_refusalToAdmit_46
          · have hf := (if_neg c_5).symm.trans hf
            refine r_refu C0 C1 hI 0 (by decide) (n := "NOTHING") rfl w_599 dX2_refusalToAdmit_37 ?_
            refine lv_goto (tgt := 46) C0.1 C0.2.1 dX2_refusalToAdmit_40 (by decide) ?_
            exact ee_e C0 hI hr hlocks hf dX2_refusalToAdmit_46
        · have hf := (if_neg c_4).symm.trans hf
          refine r_refu C0 C1 hI 5 (by decide) (n := "WRONG_WEIGHT") rfl w_717 dX2_refusalToAdmit_24 ?_
          exact ee_e C0 hI hr hlocks hf dX2_refusalToAdmit_27
    · have hf := (if_neg c_2).symm.trans hf
      refine r_refu C0 C1 hI 1 (by decide) (n := "NO_SUCH_POND") rfl w_715 dX2_refusalToAdmit_9 ?_
      exact ee_e C0 hI hr hlocks hf dX2_refusalToAdmit_12

def F_X2_admit (n : Nat) (a : Nat) (x1 : Int32) (x2 : Int32) (M : Mem) : Option (Int32 × Mem) :=
  lt' (M a 0) (fun x3_1 => chk (inb x3_1 12) (lt' (up2 M (a + 1) (ix x3_1) x1) (fun M_6 => chk (inb x3_1 12) (lt' (up2 M_6 (a + 2) (ix x3_1) x2) (fun M_11 => chk (inb x3_1 12) (lt' (up2 M_11 (a + 3) (ix x3_1) (-1)) (fun M_16 => lt' (up2 M_16 a 0 ((M_16 a 0) + 1)) (fun M_18 => some (x3_1, M_18)))))))))
theorem hd_X2_admit : yX2_admit.cls ≠ "java/lang/invoke/MethodHandle" ∧ yX2_admit.cls ≠ "java/lang/invoke/VarHandle" ∧ (parseMethodDescriptor yX2_admit.desc).map (fun d => d.parameters.length) = some 2 := ⟨by decide +kernel, by decide +kernel, by decide +kernel⟩
set_option maxHeartbeats 4000000 in
set_option maxRecDepth 100000 in
theorem c_X2_admit (l : Launch) (g : GG) (X : va_W) (r : Nat → Nat) (b : Nat → Nat) (sz n : Nat) (M : Mem) (a : Nat) (ha : kdI a = 1) (x1 : Int32) (x2 : Int32) {r0 : Int32} {M' : Mem} (hf : F_X2_admit n a x1 x2 M = some (r0, M')) : Met l yX2_admit (.code yX2_admit cX2_admit 4 (some .int) :: LWg) (rmD 0 0 0) (va_Pc [.ref (b a), .int x1, .int x2] (PreP g X 372 (shI g r b) b sz M)) (Qi g X 372 (shI g r b) b sz r0 M') 0 0 (AA X b 372 sz) := by
  refine met_go (by decide +kernel) rfl (Nat.le_of_ble_eq_true rfl) ?_
  intro p e s m below meth c ls H locs C0 C1 hr hlocks hnm hsz hl hI
  subst hsz
  have hl : lv_has ls 4 [(0, .ref (b a)), (1, .int x1), (2, .int x2)] := hl
  unfold F_X2_admit at hf
  refine lv_aload_n C0.1 C0.2.1 dX2_admit_0 rfl (lv_at hl 0 rfl) ?_
  refine r_get (C := RX2) (T := TX2) (N9 := 12) (ci := 4) C0 C1 hI iX2 rfl a 0 (kdlt1 ha) (by decide) ((shI_1 ha) _) rfl rfl w_186 dX2_admit_1 ?_
  refine lv_topi (fun x3_1 e_2 => ?_)
  have hf := lt_at e_2 hf
  refine lv_istore_n (lv' := [(3, .int x3_1), (0, .ref (b a)), (1, .int x1), (2, .int x2)]) C0.1 C0.2.1 dX2_admit_4 rfl hl (by decide) rfl (fun ls hl => ?_)
  refine lv_aload_n C0.1 C0.2.1 dX2_admit_5 rfl (lv_at hl 1 rfl) ?_
  refine r_get (C := RX2) (T := TX2) (N9 := 12) (ci := 4) C0 C1 hI iX2 rfl a 1 (kdlt1 ha) (by decide) ((shI_1 ha) _) rfl rfl w_188 dX2_admit_6 ?_
  refine lv_iload_n C0.1 C0.2.1 dX2_admit_9 rfl (lv_at hl 0 rfl) ?_
  refine lv_iload_n C0.1 C0.2.1 dX2_admit_10 rfl (lv_at hl 2 rfl) ?_
  obtain ⟨h_3, hf⟩ := chk_some hf
  refine r_iast C0 C1 hI (a + 1) (kdlt2 (kd1_1 ha)) (shI_2 (kd1_1 ha)) h_3 dX2_admit_11 (fun H locs hI => ?_)
  obtain ⟨M_6, e_7⟩ : ∃ z : Mem, z = up2 M (a + 1) (ix x3_1) x1 := ⟨_, rfl⟩
  rw [← e_7] at hI
  have hf := lt_at e_7 hf
  refine lv_aload_n C0.1 C0.2.1 dX2_admit_12 rfl (lv_at hl 1 rfl) ?_
  refine r_get (C := RX2) (T := TX2) (N9 := 12) (ci := 4) C0 C1 hI iX2 rfl a 2 (kdlt1 ha) (by decide) ((shI_1 ha) _) rfl rfl w_190 dX2_admit_13 ?_
  refine lv_iload_n C0.1 C0.2.1 dX2_admit_16 rfl (lv_at hl 0 rfl) ?_
  refine lv_iload_n C0.1 C0.2.1 dX2_admit_17 rfl (lv_at hl 3 rfl) ?_
  obtain ⟨h_8, hf⟩ := chk_some hf
  refine r_iast C0 C1 hI (a + 2) (kdlt2 (kd1_2 ha)) (shI_2 (kd1_2 ha)) h_8 dX2_admit_18 (fun H locs hI => ?_)
  obtain ⟨M_11, e_12⟩ : ∃ z : Mem, z = up2 M_6 (a + 2) (ix x3_1) x2 := ⟨_, rfl⟩
  rw [← e_12] at hI
  have hf := lt_at e_12 hf
  refine lv_aload_n C0.1 C0.2.1 dX2_admit_19 rfl (lv_at hl 1 rfl) ?_
  refine r_get (C := RX2) (T := TX2) (N9 := 12) (ci := 4) C0 C1 hI iX2 rfl a 3 (kdlt1 ha) (by decide) ((shI_1 ha) _) rfl rfl w_192 dX2_admit_20 ?_
  refine lv_iload_n C0.1 C0.2.1 dX2_admit_23 rfl (lv_at hl 0 rfl) ?_
  refine lv_iconst (v := (-1)) C0.1 C0.2.1 dX2_admit_24 (by decide) ?_
  obtain ⟨h_13, hf⟩ := chk_some hf
  refine r_iast C0 C1 hI (a + 3) (kdlt2 (kd1_3 ha)) (shI_2 (kd1_3 ha)) h_13 dX2_admit_25 (fun H locs hI => ?_)
  obtain ⟨M_16, e_17⟩ : ∃ z : Mem, z = up2 M_11 (a + 3) (ix x3_1) (-1) := ⟨_, rfl⟩
  rw [← e_17] at hI
  have hf := lt_at e_17 hf
  refine lv_aload_n C0.1 C0.2.1 dX2_admit_26 rfl (lv_at hl 1 rfl) ?_
  refine lv_dup C0.1 C0.2.1 dX2_admit_27 rfl ?_
  refine r_get (C := RX2) (T := TX2) (N9 := 12) (ci := 4) C0 C1 hI iX2 rfl a 0 (kdlt1 ha) (by decide) ((shI_1 ha) _) rfl rfl w_186 dX2_admit_28 ?_
  refine lv_iconst (v := 1) C0.1 C0.2.1 dX2_admit_31 (by decide) ?_
  refine lv_iadd C0.1 C0.2.1 dX2_admit_32 ?_
  refine r_put (C := RX2) (T := TX2) (N9 := 12) (ci := 4) (fs := fA b a) (ty := .int) C0 C1 hI iX2 tyX2 tyX2_ok nmX2 rfl a 0 (kdlt1 ha) (by decide) (shI_1 ha) rfl rfl rfl (by decide +kernel) ⟨rfl, rfl⟩ (Nat.le_of_ble_eq_true rfl) w_186 dX2_admit_33 (fun H locs hI => ?_)
  obtain ⟨M_18, e_19⟩ : ∃ z : Mem, z = up2 M_16 a 0 ((M_16 a 0) + 1) := ⟨_, rfl⟩
  rw [← e_19] at hI
  have hf := lt_at e_19 hf
  refine lv_iload_n C0.1 C0.2.1 dX2_admit_36 rfl (lv_at hl 0 rfl) ?_
  exact ee_im C0 hI hr hlocks hf dX2_admit_37

def F_X2_refusalToLay (n : Nat) (a : Nat) (x1 : Int32) (M : Mem) : Option Nat :=
  (if x1 < 1 then some 6 else (if x1 ≤ 4 then (if 6 ≤ (M a 6) then some 10 else some 0) else some 6))
theorem hd_X2_refusalToLay : yX2_refusalToLay.cls ≠ "java/lang/invoke/MethodHandle" ∧ yX2_refusalToLay.cls ≠ "java/lang/invoke/VarHandle" ∧ (parseMethodDescriptor yX2_refusalToLay.desc).map (fun d => d.parameters.length) = some 1 := ⟨by decide +kernel, by decide +kernel, by decide +kernel⟩
set_option maxHeartbeats 4000000 in
set_option maxRecDepth 100000 in
theorem c_X2_refusalToLay (l : Launch) (g : GG) (X : va_W) (r : Nat → Nat) (b : Nat → Nat) (sz n : Nat) (M : Mem) (a : Nat) (ha : kdI a = 1) (x1 : Int32) {r0 : Nat} (hf : F_X2_refusalToLay n a x1 M = some r0) : Met l yX2_refusalToLay (.code yX2_refusalToLay cX2_refusalToLay 2 (some (.object "FrogParliament$Refusal")) :: LWg) (rmD 0 0 0) (va_Pc [.ref (b a), .int x1] (PreP g X 372 (shI g r b) b sz M)) (Qe g X 372 (shI g r b) b sz r0 M) 0 0 (AA X b 372 sz) := by
  refine met_go (by decide +kernel) rfl (Nat.le_of_ble_eq_true rfl) ?_
  intro p e s m below meth c ls H locs C0 C1 hr hlocks hnm hsz hl hI
  subst hsz
  have hl : lv_has ls 2 [(0, .ref (b a)), (1, .int x1)] := hl
  unfold F_X2_refusalToLay at hf
  refine lv_iload_n C0.1 C0.2.1 dX2_refusalToLay_0 rfl (lv_at hl 1 rfl) ?_
  refine lv_iconst (v := 1) C0.1 C0.2.1 dX2_refusalToLay_1 (by decide) ?_
  refine lv_icmp_lt (tgt := 10) C0.1 C0.2.1 dX2_refusalToLay_2 (by decide) (fun c_1 => ?_) (fun c_1 => ?_)
  · have hf := (if_pos c_1).symm.trans hf
    refine r_refu C0 C1 hI 6 (by decide) (n := "WRONG_CAPACITY") rfl w_752 dX2_refusalToLay_10 ?_
    exact ee_e C0 hI hr hlocks hf dX2_refusalToLay_13
  · have hf := (if_neg c_1).symm.trans hf
    refine lv_iload_n C0.1 C0.2.1 dX2_refusalToLay_5 rfl (lv_at hl 1 rfl) ?_
    refine lv_iconst (v := 4) C0.1 C0.2.1 dX2_refusalToLay_6 (by decide) ?_
    refine lv_icmp_le (tgt := 14) C0.1 C0.2.1 dX2_refusalToLay_7 (by decide) (fun c_2 => ?_) (fun c_2 => ?_)
    · have hf := (if_pos c_2).symm.trans hf
      refine lv_aload_n C0.1 C0.2.1 dX2_refusalToLay_14 rfl (lv_at hl 0 rfl) ?_
      refine r_get (C := RX2) (T := TX2) (N9 := 12) (ci := 4) C0 C1 hI iX2 rfl a 6 (kdlt1 ha) (by decide) ((shI_1 ha) _) rfl rfl w_198 dX2_refusalToLay_15 ?_
      refine lv_bipush (v := 6) C0.1 C0.2.1 dX2_refusalToLay_18 (by decide) ?_
      refine lv_icmp_ge (tgt := 29) C0.1 C0.2.1 dX2_refusalToLay_20 (by decide) (fun c_3 => ?_) (fun c_3 => ?_)
      · have hf := (if_pos c_3).symm.trans hf
        refine r_refu C0 C1 hI 10 (by decide) (n := "TOO_MANY") rfl w_719 dX2_refusalToLay_29 ?_
        exact ee_e C0 hI hr hlocks hf dX2_refusalToLay_32
      · have hf := (if_neg c_3).symm.trans hf
        refine r_refu C0 C1 hI 0 (by decide) (n := "NOTHING") rfl w_599 dX2_refusalToLay_23 ?_
        refine lv_goto (tgt := 32) C0.1 C0.2.1 dX2_refusalToLay_26 (by decide) ?_
        exact ee_e C0 hI hr hlocks hf dX2_refusalToLay_32
    · have hf := (if_neg c_2).symm.trans hf
      refine r_refu C0 C1 hI 6 (by decide) (n := "WRONG_CAPACITY") rfl w_752 dX2_refusalToLay_10 ?_
      exact ee_e C0 hI hr hlocks hf dX2_refusalToLay_13

def F_X2_lay (n : Nat) (a : Nat) (x1 : Int32) (M : Mem) : Option (Int32 × Mem) :=
  lt' (M a 6) (fun x2_1 => chk (inb x2_1 6) (lt' (up2 M (a + 5) (ix x2_1) x1) (fun M_6 => lt' (up2 M_6 a 6 ((M_6 a 6) + 1)) (fun M_8 => some (x2_1, M_8)))))
theorem hd_X2_lay : yX2_lay.cls ≠ "java/lang/invoke/MethodHandle" ∧ yX2_lay.cls ≠ "java/lang/invoke/VarHandle" ∧ (parseMethodDescriptor yX2_lay.desc).map (fun d => d.parameters.length) = some 1 := ⟨by decide +kernel, by decide +kernel, by decide +kernel⟩
set_option maxHeartbeats 4000000 in
set_option maxRecDepth 100000 in
theorem c_X2_lay (l : Launch) (g : GG) (X : va_W) (r : Nat → Nat) (b : Nat → Nat) (sz n : Nat) (M : Mem) (a : Nat) (ha : kdI a = 1) (x1 : Int32) {r0 : Int32} {M' : Mem} (hf : F_X2_lay n a x1 M = some (r0, M')) : Met l yX2_lay (.code yX2_lay cX2_lay 3 (some .int) :: LWg) (rmD 0 0 0) (va_Pc [.ref (b a), .int x1] (PreP g X 372 (shI g r b) b sz M)) (Qi g X 372 (shI g r b) b sz r0 M') 0 0 (AA X b 372 sz) := by
  refine met_go (by decide +kernel) rfl (Nat.le_of_ble_eq_true rfl) ?_
  intro p e s m below meth c ls H locs C0 C1 hr hlocks hnm hsz hl hI
  subst hsz
  have hl : lv_has ls 3 [(0, .ref (b a)), (1, .int x1)] := hl
  unfold F_X2_lay at hf
  refine lv_aload_n C0.1 C0.2.1 dX2_lay_0 rfl (lv_at hl 0 rfl) ?_
  refine r_get (C := RX2) (T := TX2) (N9 := 12) (ci := 4) C0 C1 hI iX2 rfl a 6 (kdlt1 ha) (by decide) ((shI_1 ha) _) rfl rfl w_198 dX2_lay_1 ?_
  refine lv_topi (fun x2_1 e_2 => ?_)
  have hf := lt_at e_2 hf
  refine lv_istore_n (lv' := [(2, .int x2_1), (0, .ref (b a)), (1, .int x1)]) C0.1 C0.2.1 dX2_lay_4 rfl hl (by decide) rfl (fun ls hl => ?_)
  refine lv_aload_n C0.1 C0.2.1 dX2_lay_5 rfl (lv_at hl 1 rfl) ?_
  refine r_get (C := RX2) (T := TX2) (N9 := 12) (ci := 4) C0 C1 hI iX2 rfl a 7 (kdlt1 ha) (by decide) ((shI_1 ha) _) rfl rfl w_200 dX2_lay_6 ?_
  refine lv_iload_n C0.1 C0.2.1 dX2_lay_9 rfl (lv_at hl 0 rfl) ?_
  refine lv_iload_n C0.1 C0.2.1 dX2_lay_10 rfl (lv_at hl 2 rfl) ?_
  obtain ⟨h_3, hf⟩ := chk_some hf
  refine r_iast C0 C1 hI (a + 5) (kdlt3 (kd1_5 ha)) (shI_3 (kd1_5 ha)) h_3 dX2_lay_11 (fun H locs hI => ?_)
  obtain ⟨M_6, e_7⟩ : ∃ z : Mem, z = up2 M (a + 5) (ix x2_1) x1 := ⟨_, rfl⟩
  rw [← e_7] at hI
  have hf := lt_at e_7 hf
  refine lv_aload_n C0.1 C0.2.1 dX2_lay_12 rfl (lv_at hl 1 rfl) ?_
  refine lv_dup C0.1 C0.2.1 dX2_lay_13 rfl ?_
  refine r_get (C := RX2) (T := TX2) (N9 := 12) (ci := 4) C0 C1 hI iX2 rfl a 6 (kdlt1 ha) (by decide) ((shI_1 ha) _) rfl rfl w_198 dX2_lay_14 ?_
  refine lv_iconst (v := 1) C0.1 C0.2.1 dX2_lay_17 (by decide) ?_
  refine lv_iadd C0.1 C0.2.1 dX2_lay_18 ?_
  refine r_put (C := RX2) (T := TX2) (N9 := 12) (ci := 4) (fs := fA b a) (ty := .int) C0 C1 hI iX2 tyX2 tyX2_ok nmX2 rfl a 6 (kdlt1 ha) (by decide) (shI_1 ha) rfl rfl rfl (by decide +kernel) ⟨rfl, rfl⟩ (Nat.le_of_ble_eq_true rfl) w_198 dX2_lay_19 (fun H locs hI => ?_)
  obtain ⟨M_8, e_9⟩ : ∃ z : Mem, z = up2 M_6 a 6 ((M_6 a 6) + 1) := ⟨_, rfl⟩
  rw [← e_9] at hI
  have hf := lt_at e_9 hf
  refine lv_iload_n C0.1 C0.2.1 dX2_lay_22 rfl (lv_at hl 0 rfl) ?_
  exact ee_im C0 hI hr hlocks hf dX2_lay_23

def F_X2_sittersOf_L4 (n : Nat) (a : Nat) (M : Mem) : Nat → Int32 → Int32 → Int32 → Option Int32
  | 0, _, _, _ => none
  | k4 + 1, x1_4, x2_4, x3_4 =>
    (if (M a 0) ≤ x3_4 then some x2_4 else chk (inb x3_4 12) ((if (M (a + 3) (ix x3_4)) = x1_4 then lt' (x2_4 ||| (1 <<< (x3_4 &&& 31))) (fun x2_4_6 => lt' (x3_4 + 1) (fun x3_4_8 => F_X2_sittersOf_L4 n a M k4 x1_4 x2_4_6 x3_4_8)) else lt' (x3_4 + 1) (fun x3_4_4 => F_X2_sittersOf_L4 n a M k4 x1_4 x2_4 x3_4_4))))
def F_X2_sittersOf (n : Nat) (a : Nat) (x1 : Int32) (M : Mem) : Option Int32 :=
  F_X2_sittersOf_L4 n a M n x1 0 0
theorem hd_X2_sittersOf : yX2_sittersOf.cls ≠ "java/lang/invoke/MethodHandle" ∧ yX2_sittersOf.cls ≠ "java/lang/invoke/VarHandle" ∧ (parseMethodDescriptor yX2_sittersOf.desc).map (fun d => d.parameters.length) = some 1 := ⟨by decide +kernel, by decide +kernel, by decide +kernel⟩
set_option maxHeartbeats 4000000 in
set_option maxRecDepth 100000 in
theorem c_X2_sittersOf (l : Launch) (g : GG) (X : va_W) (r : Nat → Nat) (b : Nat → Nat) (sz n : Nat) (M : Mem) (a : Nat) (ha : kdI a = 1) (x1 : Int32) {r0 : Int32} (hf : F_X2_sittersOf n a x1 M = some r0) : Met l yX2_sittersOf (.code yX2_sittersOf cX2_sittersOf 4 (some .int) :: LWg) (rmD 0 0 0) (va_Pc [.ref (b a), .int x1] (PreP g X 372 (shI g r b) b sz M)) (Qi g X 372 (shI g r b) b sz r0 M) 0 0 (AA X b 372 sz) := by
  refine met_go (by decide +kernel) rfl (Nat.le_of_ble_eq_true rfl) ?_
  intro p e s m below meth c ls H locs C0 C1 hr hlocks hnm hsz hl hI
  subst hsz
  have hl : lv_has ls 4 [(0, .ref (b a)), (1, .int x1)] := hl
  unfold F_X2_sittersOf at hf
  refine lv_iconst (v := 0) C0.1 C0.2.1 dX2_sittersOf_0 (by decide) ?_
  refine lv_istore_n (lv' := [(2, .int 0), (0, .ref (b a)), (1, .int x1)]) C0.1 C0.2.1 dX2_sittersOf_1 rfl hl (by decide) rfl (fun ls hl => ?_)
  refine lv_iconst (v := 0) C0.1 C0.2.1 dX2_sittersOf_2 (by decide) ?_
  refine lv_istore_n (lv' := [(3, .int 0), (2, .int 0), (0, .ref (b a)), (1, .int x1)]) C0.1 C0.2.1 dX2_sittersOf_3 rfl hl (by decide) rfl (fun ls hl => ?_)
  have L4 : ∀ (k4 : Nat) (x1_4 : Int32) (x2_4 : Int32) (x3_4 : Int32), F_X2_sittersOf_L4 n a M k4 x1_4 x2_4 x3_4 = some r0 → ∀ (H : Heap) (locs : List Loc) (ls : Array Slot), PI g X 372 (shI g r b) b s M H locs → lv_has ls 4 [(0, .ref (b a)), (1, .int x1_4), (2, .int x2_4), (3, .int x3_4)] → W p l e (rmD 0 0 0) s m ([.ref (b a), .int x1] : List Value).toArray below meth c H locs 0 0 (MQ below (Qi g X 372 (shI g r b) b s.heap.size r0 M) ([.ref (b a), .int x1] : List Value).toArray s 0 0 (AA X b 372 s.heap.size)) (F0 m 4 ls []) := by
    intro k4
    induction k4 with
    | zero => intro x1_4 x2_4 x3_4 hf; exact absurd (show (none : Option Int32) = some r0 from hf) (fun h => by cases h)
    | succ k4 ih4 =>
      intro x1_4 x2_4 x3_4 hf H locs ls hI hl
      unfold F_X2_sittersOf_L4 at hf
      refine lv_iload_n C0.1 C0.2.1 dX2_sittersOf_4 rfl (lv_at hl 3 rfl) ?_
      refine lv_aload_n C0.1 C0.2.1 dX2_sittersOf_5 rfl (lv_at hl 0 rfl) ?_
      refine r_get (C := RX2) (T := TX2) (N9 := 12) (ci := 4) C0 C1 hI iX2 rfl a 0 (kdlt1 ha) (by decide) ((shI_1 ha) _) rfl rfl w_186 dX2_sittersOf_6 ?_
      refine lv_icmp_ge (tgt := 34) C0.1 C0.2.1 dX2_sittersOf_9 (by decide) (fun c_4_1 => ?_) (fun c_4_1 => ?_)
      · have hf := (if_pos c_4_1).symm.trans hf
        refine lv_iload_n C0.1 C0.2.1 dX2_sittersOf_34 rfl (lv_at hl 2 rfl) ?_
        exact ee_i C0 hI hr hlocks hf dX2_sittersOf_35
      · have hf := (if_neg c_4_1).symm.trans hf
        refine lv_aload_n C0.1 C0.2.1 dX2_sittersOf_12 rfl (lv_at hl 0 rfl) ?_
        refine r_get (C := RX2) (T := TX2) (N9 := 12) (ci := 4) C0 C1 hI iX2 rfl a 3 (kdlt1 ha) (by decide) ((shI_1 ha) _) rfl rfl w_192 dX2_sittersOf_13 ?_
        refine lv_iload_n C0.1 C0.2.1 dX2_sittersOf_16 rfl (lv_at hl 3 rfl) ?_
        obtain ⟨h_4_2, hf⟩ := chk_some hf
        refine r_iald C0 C1 hI (a + 3) (kdlt2 (kd1_3 ha)) (shI_2 (kd1_3 ha)) h_4_2 dX2_sittersOf_17 ?_
        refine lv_iload_n C0.1 C0.2.1 dX2_sittersOf_18 rfl (lv_at hl 1 rfl) ?_
        refine lv_icmp_ne (tgt := 28) C0.1 C0.2.1 dX2_sittersOf_19 (by decide) (fun c_4_3 => ?_) (fun c_4_3 => ?_)
        · have hf := (if_neg c_4_3).symm.trans hf
          obtain ⟨x3_4_4, e_4_5⟩ : ∃ z : Int32, z = x3_4 + 1 := ⟨_, rfl⟩
          have hf := lt_at e_4_5 hf
          refine lv_iinc (v := x3_4_4) (lv' := [(3, .int x3_4_4), (0, .ref (b a)), (1, .int x1_4), (2, .int x2_4)]) C0.1 C0.2.1 dX2_sittersOf_28 hl (k := 3) rfl (by rw [e_4_5]; rfl) (by decide) rfl (fun ls hl => ?_)
          refine lv_goto (tgt := 4) C0.1 C0.2.1 dX2_sittersOf_31 (by decide) ?_
          exact ih4 x1_4 x2_4 x3_4_4 hf H locs ls hI (lv_sub hl [1, 2, 3, 0] rfl)
        · have hf := (if_pos c_4_3).symm.trans hf
          refine lv_iload_n C0.1 C0.2.1 dX2_sittersOf_22 rfl (lv_at hl 2 rfl) ?_
          refine lv_iconst (v := 1) C0.1 C0.2.1 dX2_sittersOf_23 (by decide) ?_
          refine lv_iload_n C0.1 C0.2.1 dX2_sittersOf_24 rfl (lv_at hl 3 rfl) ?_
          refine lv_ishl C0.1 C0.2.1 dX2_sittersOf_25 ?_
          refine lv_ior C0.1 C0.2.1 dX2_sittersOf_26 ?_
          refine lv_topi (fun x2_4_6 e_4_7 => ?_)
          have hf := lt_at e_4_7 hf
          refine lv_istore_n (lv' := [(2, .int x2_4_6), (0, .ref (b a)), (1, .int x1_4), (3, .int x3_4)]) C0.1 C0.2.1 dX2_sittersOf_27 rfl hl (by decide) rfl (fun ls hl => ?_)
          obtain ⟨x3_4_8, e_4_9⟩ : ∃ z : Int32, z = x3_4 + 1 := ⟨_, rfl⟩
          have hf := lt_at e_4_9 hf
          refine lv_iinc (v := x3_4_8) (lv' := [(3, .int x3_4_8), (2, .int x2_4_6), (0, .ref (b a)), (1, .int x1_4)]) C0.1 C0.2.1 dX2_sittersOf_28 hl (k := 3) rfl (by rw [e_4_9]; rfl) (by decide) rfl (fun ls hl => ?_)
          refine lv_goto (tgt := 4) C0.1 C0.2.1 dX2_sittersOf_31 (by decide) ?_
          exact ih4 x1_4 x2_4_6 x3_4_8 hf H locs ls hI (lv_sub hl [2, 3, 1, 0] rfl)
  exact L4 n x1 0 0 hf H locs ls hI (lv_sub hl [2, 3, 1, 0] rfl)

def F_J6_bitCount_0f7a4 (n : Nat) (x0 : Int32) (M : Mem) : Option Int32 :=
  lt' (x0 - (((x0.toUInt32 >>> ((1 : Int32).toUInt32 &&& Int32.toUInt32 31)).toInt32) &&& 1431655765)) (fun x0_1 => lt' ((x0_1 &&& 858993459) + (((x0_1.toUInt32 >>> ((2 : Int32).toUInt32 &&& Int32.toUInt32 31)).toInt32) &&& 858993459)) (fun x0_3 => lt' ((x0_3 + ((x0_3.toUInt32 >>> ((4 : Int32).toUInt32 &&& Int32.toUInt32 31)).toInt32)) &&& 252645135) (fun x0_5 => lt' (x0_5 + ((x0_5.toUInt32 >>> ((8 : Int32).toUInt32 &&& Int32.toUInt32 31)).toInt32)) (fun x0_7 => lt' (x0_7 + ((x0_7.toUInt32 >>> ((16 : Int32).toUInt32 &&& Int32.toUInt32 31)).toInt32)) (fun x0_9 => some (x0_9 &&& 63))))))
theorem hd_J6_bitCount_0f7a4 : yJ6_bitCount_0f7a4.cls ≠ "java/lang/invoke/MethodHandle" ∧ yJ6_bitCount_0f7a4.cls ≠ "java/lang/invoke/VarHandle" ∧ (parseMethodDescriptor yJ6_bitCount_0f7a4.desc).map (fun d => d.parameters.length) = some 1 := ⟨by decide +kernel, by decide +kernel, by decide +kernel⟩
set_option maxHeartbeats 4000000 in
set_option maxRecDepth 100000 in
theorem c_J6_bitCount_0f7a4 (l : Launch) (g : GG) (X : va_W) (r : Nat → Nat) (b : Nat → Nat) (sz n : Nat) (M : Mem) (x0 : Int32) {r0 : Int32} (hf : F_J6_bitCount_0f7a4 n x0 M = some r0) : Met l yJ6_bitCount_0f7a4 (.code yJ6_bitCount_0f7a4 cJ6_bitCount_0f7a4 1 (some .int) :: LWg) (rmD 0 0 0) (va_Pc [.int x0] (PreP g X 372 (shI g r b) b sz M)) (Qi g X 372 (shI g r b) b sz r0 M) 0 0 (AA X b 372 sz) := by
  refine met_go (by decide +kernel) rfl (Nat.le_of_ble_eq_true rfl) ?_
  intro p e s m below meth c ls H locs C0 C1 hr hlocks hnm hsz hl hI
  subst hsz
  have hl : lv_has ls 1 [(0, .int x0)] := hl
  unfold F_J6_bitCount_0f7a4 at hf
  refine lv_iload_n C0.1 C0.2.1 dJ6_bitCount_0f7a4_0 rfl (lv_at hl 0 rfl) ?_
  refine lv_iload_n C0.1 C0.2.1 dJ6_bitCount_0f7a4_1 rfl (lv_at hl 0 rfl) ?_
  refine lv_iconst (v := 1) C0.1 C0.2.1 dJ6_bitCount_0f7a4_2 (by decide) ?_
  refine lv_iushr C0.1 C0.2.1 dJ6_bitCount_0f7a4_3 rfl ?_
  refine lv_ldcw (v := 1431655765) C0.1 C0.2.1 C0.2.2.2.1 (C0.2.2.2.2 _ w_399) dJ6_bitCount_0f7a4_4 ?_
  refine lv_iand C0.1 C0.2.1 dJ6_bitCount_0f7a4_7 ?_
  refine lv_isub C0.1 C0.2.1 dJ6_bitCount_0f7a4_8 ?_
  refine lv_topi (fun x0_1 e_2 => ?_)
  have hf := lt_at e_2 hf
  refine lv_istore_n (lv' := [(0, .int x0_1)]) C0.1 C0.2.1 dJ6_bitCount_0f7a4_9 rfl hl (by decide) rfl (fun ls hl => ?_)
  refine lv_iload_n C0.1 C0.2.1 dJ6_bitCount_0f7a4_10 rfl (lv_at hl 0 rfl) ?_
  refine lv_ldcw (v := 858993459) C0.1 C0.2.1 C0.2.2.2.1 (C0.2.2.2.2 _ w_400) dJ6_bitCount_0f7a4_11 ?_
  refine lv_iand C0.1 C0.2.1 dJ6_bitCount_0f7a4_14 ?_
  refine lv_iload_n C0.1 C0.2.1 dJ6_bitCount_0f7a4_15 rfl (lv_at hl 0 rfl) ?_
  refine lv_iconst (v := 2) C0.1 C0.2.1 dJ6_bitCount_0f7a4_16 (by decide) ?_
  refine lv_iushr C0.1 C0.2.1 dJ6_bitCount_0f7a4_17 rfl ?_
  refine lv_ldcw (v := 858993459) C0.1 C0.2.1 C0.2.2.2.1 (C0.2.2.2.2 _ w_400) dJ6_bitCount_0f7a4_18 ?_
  refine lv_iand C0.1 C0.2.1 dJ6_bitCount_0f7a4_21 ?_
  refine lv_iadd C0.1 C0.2.1 dJ6_bitCount_0f7a4_22 ?_
  refine lv_topi (fun x0_3 e_4 => ?_)
  have hf := lt_at e_4 hf
  refine lv_istore_n (lv' := [(0, .int x0_3)]) C0.1 C0.2.1 dJ6_bitCount_0f7a4_23 rfl hl (by decide) rfl (fun ls hl => ?_)
  refine lv_iload_n C0.1 C0.2.1 dJ6_bitCount_0f7a4_24 rfl (lv_at hl 0 rfl) ?_
  refine lv_iload_n C0.1 C0.2.1 dJ6_bitCount_0f7a4_25 rfl (lv_at hl 0 rfl) ?_
  refine lv_iconst (v := 4) C0.1 C0.2.1 dJ6_bitCount_0f7a4_26 (by decide) ?_
  refine lv_iushr C0.1 C0.2.1 dJ6_bitCount_0f7a4_27 rfl ?_
  refine lv_iadd C0.1 C0.2.1 dJ6_bitCount_0f7a4_28 ?_
  refine lv_ldcw (v := 252645135) C0.1 C0.2.1 C0.2.2.2.1 (C0.2.2.2.2 _ w_401) dJ6_bitCount_0f7a4_29 ?_
  refine lv_iand C0.1 C0.2.1 dJ6_bitCount_0f7a4_32 ?_
  refine lv_topi (fun x0_5 e_6 => ?_)
  have hf := lt_at e_6 hf
  refine lv_istore_n (lv' := [(0, .int x0_5)]) C0.1 C0.2.1 dJ6_bitCount_0f7a4_33 rfl hl (by decide) rfl (fun ls hl => ?_)
  refine lv_iload_n C0.1 C0.2.1 dJ6_bitCount_0f7a4_34 rfl (lv_at hl 0 rfl) ?_
  refine lv_iload_n C0.1 C0.2.1 dJ6_bitCount_0f7a4_35 rfl (lv_at hl 0 rfl) ?_
  refine lv_bipush (v := 8) C0.1 C0.2.1 dJ6_bitCount_0f7a4_36 (by decide) ?_
  refine lv_iushr C0.1 C0.2.1 dJ6_bitCount_0f7a4_38 rfl ?_
  refine lv_iadd C0.1 C0.2.1 dJ6_bitCount_0f7a4_39 ?_
  refine lv_topi (fun x0_7 e_8 => ?_)
  have hf := lt_at e_8 hf
  refine lv_istore_n (lv' := [(0, .int x0_7)]) C0.1 C0.2.1 dJ6_bitCount_0f7a4_40 rfl hl (by decide) rfl (fun ls hl => ?_)
  refine lv_iload_n C0.1 C0.2.1 dJ6_bitCount_0f7a4_41 rfl (lv_at hl 0 rfl) ?_
  refine lv_iload_n C0.1 C0.2.1 dJ6_bitCount_0f7a4_42 rfl (lv_at hl 0 rfl) ?_
  refine lv_bipush (v := 16) C0.1 C0.2.1 dJ6_bitCount_0f7a4_43 (by decide) ?_
  refine lv_iushr C0.1 C0.2.1 dJ6_bitCount_0f7a4_45 rfl ?_
  refine lv_iadd C0.1 C0.2.1 dJ6_bitCount_0f7a4_46 ?_
  refine lv_topi (fun x0_9 e_10 => ?_)
  have hf := lt_at e_10 hf
  refine lv_istore_n (lv' := [(0, .int x0_9)]) C0.1 C0.2.1 dJ6_bitCount_0f7a4_47 rfl hl (by decide) rfl (fun ls hl => ?_)
  refine lv_iload_n C0.1 C0.2.1 dJ6_bitCount_0f7a4_48 rfl (lv_at hl 0 rfl) ?_
  refine lv_bipush (v := 63) C0.1 C0.2.1 dJ6_bitCount_0f7a4_49 (by decide) ?_
  refine lv_iand C0.1 C0.2.1 dJ6_bitCount_0f7a4_51 ?_
  exact ee_i C0 hI hr hlocks hf dJ6_bitCount_0f7a4_52

def F_X2_countOn (n : Nat) (a : Nat) (x1 : Int32) (M : Mem) : Option Int32 :=
  ob (F_X2_sittersOf n a x1 M) (fun r_2 => ob (F_J6_bitCount_0f7a4 n r_2 M) (fun r_4 => some r_4))
theorem hd_X2_countOn : yX2_countOn.cls ≠ "java/lang/invoke/MethodHandle" ∧ yX2_countOn.cls ≠ "java/lang/invoke/VarHandle" ∧ (parseMethodDescriptor yX2_countOn.desc).map (fun d => d.parameters.length) = some 1 := ⟨by decide +kernel, by decide +kernel, by decide +kernel⟩
set_option maxHeartbeats 4000000 in
set_option maxRecDepth 100000 in
theorem c_X2_countOn (l : Launch) (g : GG) (X : va_W) (r : Nat → Nat) (b : Nat → Nat) (sz n : Nat) (M : Mem) (a : Nat) (ha : kdI a = 1) (x1 : Int32) {r0 : Int32} (hf : F_X2_countOn n a x1 M = some r0) : Met l yX2_countOn (.code yX2_countOn cX2_countOn 2 (some .int) :: LWg) (rmD 1 0 0) (va_Pc [.ref (b a), .int x1] (PreP g X 372 (shI g r b) b sz M)) (Qi g X 372 (shI g r b) b sz r0 M) 0 0 (AA X b 372 sz) := by
  refine met_go (by decide +kernel) rfl (Nat.le_of_ble_eq_true rfl) ?_
  intro p e s m below meth c ls H locs C0 C1 hr hlocks hnm hsz hl hI
  subst hsz
  have hl : lv_has ls 2 [(0, .ref (b a)), (1, .int x1)] := hl
  unfold F_X2_countOn at hf
  refine lv_aload_n C0.1 C0.2.1 dX2_countOn_0 rfl (lv_at hl 0 rfl) ?_
  refine lv_iload_n C0.1 C0.2.1 dX2_countOn_1 rfl (lv_at hl 1 rfl) ?_
  obtain ⟨r_2, h_1, hf⟩ := ob_some hf
  refine k_i C1 hI (q_V C0 C1 hI a (c_X2_sittersOf l g X r b H.size n M a ha x1 h_1) w_392 w_394 w_1 w_72 w_395 ⟨rfl, rfl⟩ hd_X2_sittersOf ⟨Nat.le_of_ble_eq_true rfl, Nat.le_of_ble_eq_true rfl⟩ (kdlt1 ha) ((shI_1 ha) _) rfl rfl rfl hl.1 rfl (Nat.le_of_ble_eq_true rfl) dX2_countOn_2 ⟨Nat.le_of_ble_eq_true rfl, Nat.le_of_ble_eq_true rfl⟩) (fun H locs hI => ?_)
  obtain ⟨r_4, h_3, hf⟩ := ob_some hf
  refine k_i C1 hI (q_S C0 C1 hI (c_J6_bitCount_0f7a4 l g X r b H.size n M r_2 h_3) w_396 w_397 w_98 w_398 ⟨rfl, rfl⟩ hd_J6_bitCount_0f7a4 ⟨Nat.le_of_ble_eq_true rfl, Nat.le_of_ble_eq_true rfl⟩ rfl hl.1 rfl (Nat.le_of_ble_eq_true rfl) dX2_countOn_5 ⟨Nat.le_of_ble_eq_true rfl, Nat.le_of_ble_eq_true rfl⟩) (fun H locs hI => ?_)
  exact ee_i C0 hI hr hlocks hf dX2_countOn_8

def F_X2_refusalToSeat (n : Nat) (a : Nat) (x1 : Int32) (x2 : Int32) (M : Mem) : Option Nat :=
  ob (F_X2_hasFrog n a x1 M) (fun r_2 => (if r_2 = 0 then some 2 else ob (F_X2_hasPad n a x2 M) (fun r_5 => (if r_5 = 0 then some 3 else chk (inb x1 12) ((if (M (a + 3) (ix x1)) = x2 then some 11 else ob (F_X2_countOn n a x2 M) (fun r_10 => chk (inb x2 6) ((if (M (a + 5) (ix x2)) ≤ r_10 then some 12 else some 0)))))))))
theorem hd_X2_refusalToSeat : yX2_refusalToSeat.cls ≠ "java/lang/invoke/MethodHandle" ∧ yX2_refusalToSeat.cls ≠ "java/lang/invoke/VarHandle" ∧ (parseMethodDescriptor yX2_refusalToSeat.desc).map (fun d => d.parameters.length) = some 2 := ⟨by decide +kernel, by decide +kernel, by decide +kernel⟩
set_option maxHeartbeats 4000000 in
set_option maxRecDepth 100000 in
theorem c_X2_refusalToSeat (l : Launch) (g : GG) (X : va_W) (r : Nat → Nat) (b : Nat → Nat) (sz n : Nat) (M : Mem) (a : Nat) (ha : kdI a = 1) (x1 : Int32) (x2 : Int32) {r0 : Nat} (hf : F_X2_refusalToSeat n a x1 x2 M = some r0) : Met l yX2_refusalToSeat (.code yX2_refusalToSeat cX2_refusalToSeat 3 (some (.object "FrogParliament$Refusal")) :: LWg) (rmD 2 0 0) (va_Pc [.ref (b a), .int x1, .int x2] (PreP g X 372 (shI g r b) b sz M)) (Qe g X 372 (shI g r b) b sz r0 M) 0 0 (AA X b 372 sz) := by
  refine met_go (by decide +kernel) rfl (Nat.le_of_ble_eq_true rfl) ?_
  intro p e s m below meth c ls H locs C0 C1 hr hlocks hnm hsz hl hI
  subst hsz
  have hl : lv_has ls 3 [(0, .ref (b a)), (1, .int x1), (2, .int x2)] := hl
  unfold F_X2_refusalToSeat at hf
  refine lv_aload_n C0.1 C0.2.1 dX2_refusalToSeat_0 rfl (lv_at hl 0 rfl) ?_
  refine lv_iload_n C0.1 C0.2.1 dX2_refusalToSeat_1 rfl (lv_at hl 1 rfl) ?_
  obtain ⟨r_2, h_1, hf⟩ := ob_some hf
  refine k_i C1 hI (q_V C0 C1 hI a (c_X2_hasFrog l g X r b H.size n M a ha x1 h_1) w_769 w_771 w_24 w_72 w_772 ⟨rfl, rfl⟩ hd_X2_hasFrog ⟨Nat.le_of_ble_eq_true rfl, Nat.le_of_ble_eq_true rfl⟩ (kdlt1 ha) ((shI_1 ha) _) rfl rfl rfl hl.1 rfl (Nat.le_of_ble_eq_true rfl) dX2_refusalToSeat_2 ⟨Nat.le_of_ble_eq_true rfl, Nat.le_of_ble_eq_true rfl⟩) (fun H locs hI => ?_)
  refine lv_if_ne (tgt := 12) C0.1 C0.2.1 dX2_refusalToSeat_5 (by decide) (fun c_3 => ?_) (fun c_3 => ?_)
  · have hf := (if_neg c_3).symm.trans hf
    refine lv_aload_n C0.1 C0.2.1 dX2_refusalToSeat_12 rfl (lv_at hl 0 rfl) ?_
    refine lv_iload_n C0.1 C0.2.1 dX2_refusalToSeat_13 rfl (lv_at hl 2 rfl) ?_
    obtain ⟨r_5, h_4, hf⟩ := ob_some hf
    refine k_i C1 hI (q_V C0 C1 hI a (c_X2_hasPad l g X r b H.size n M a ha x2 h_4) w_775 w_777 w_25 w_72 w_778 ⟨rfl, rfl⟩ hd_X2_hasPad ⟨Nat.le_of_ble_eq_true rfl, Nat.le_of_ble_eq_true rfl⟩ (kdlt1 ha) ((shI_1 ha) _) rfl rfl rfl hl.1 rfl (Nat.le_of_ble_eq_true rfl) dX2_refusalToSeat_14 ⟨Nat.le_of_ble_eq_true rfl, Nat.le_of_ble_eq_true rfl⟩) (fun H locs hI => ?_)
    refine lv_if_ne (tgt := 24) C0.1 C0.2.1 dX2_refusalToSeat_17 (by decide) (fun c_6 => ?_) (fun c_6 => ?_)
    · have hf := (if_neg c_6).symm.trans hf
      refine lv_aload_n C0.1 C0.2.1 dX2_refusalToSeat_24 rfl (lv_at hl 0 rfl) ?_
      refine r_get (C := RX2) (T := TX2) (N9 := 12) (ci := 4) C0 C1 hI iX2 rfl a 3 (kdlt1 ha) (by decide) ((shI_1 ha) _) rfl rfl w_192 dX2_refusalToSeat_25 ?_
      refine lv_iload_n C0.1 C0.2.1 dX2_refusalToSeat_28 rfl (lv_at hl 1 rfl) ?_
      obtain ⟨h_7, hf⟩ := chk_some hf
      refine r_iald C0 C1 hI (a + 3) (kdlt2 (kd1_3 ha)) (shI_2 (kd1_3 ha)) h_7 dX2_refusalToSeat_29 ?_
      refine lv_iload_n C0.1 C0.2.1 dX2_refusalToSeat_30 rfl (lv_at hl 2 rfl) ?_
      refine lv_icmp_ne (tgt := 38) C0.1 C0.2.1 dX2_refusalToSeat_31 (by decide) (fun c_8 => ?_) (fun c_8 => ?_)
      · have hf := (if_neg c_8).symm.trans hf
        refine lv_aload_n C0.1 C0.2.1 dX2_refusalToSeat_38 rfl (lv_at hl 0 rfl) ?_
        refine lv_iload_n C0.1 C0.2.1 dX2_refusalToSeat_39 rfl (lv_at hl 2 rfl) ?_
        obtain ⟨r_10, h_9, hf⟩ := ob_some hf
        refine k_i C1 hI (q_V C0 C1 hI a (c_X2_countOn l g X r b H.size n M a ha x2 h_9) w_783 w_390 w_0 w_72 w_391 ⟨rfl, rfl⟩ hd_X2_countOn ⟨Nat.le_of_ble_eq_true rfl, Nat.le_of_ble_eq_true rfl⟩ (kdlt1 ha) ((shI_1 ha) _) rfl rfl rfl hl.1 rfl (Nat.le_of_ble_eq_true rfl) dX2_refusalToSeat_40 ⟨Nat.le_of_ble_eq_true rfl, Nat.le_of_ble_eq_true rfl⟩) (fun H locs hI => ?_)
        refine lv_aload_n C0.1 C0.2.1 dX2_refusalToSeat_43 rfl (lv_at hl 0 rfl) ?_
        refine r_get (C := RX2) (T := TX2) (N9 := 12) (ci := 4) C0 C1 hI iX2 rfl a 7 (kdlt1 ha) (by decide) ((shI_1 ha) _) rfl rfl w_200 dX2_refusalToSeat_44 ?_
        refine lv_iload_n C0.1 C0.2.1 dX2_refusalToSeat_47 rfl (lv_at hl 2 rfl) ?_
        obtain ⟨h_11, hf⟩ := chk_some hf
        refine r_iald C0 C1 hI (a + 5) (kdlt3 (kd1_5 ha)) (shI_3 (kd1_5 ha)) h_11 dX2_refusalToSeat_48 ?_
        refine lv_icmp_ge (tgt := 58) C0.1 C0.2.1 dX2_refusalToSeat_49 (by decide) (fun c_12 => ?_) (fun c_12 => ?_)
        · have hf := (if_pos c_12).symm.trans hf
          refine r_refu C0 C1 hI 12 (by decide) (n := "PAD_FULL") rfl w_784 dX2_refusalToSeat_58 ?_
          exact ee_e C0 hI hr hlocks hf dX2_refusalToSeat_61
        · have hf := (if_neg c_12).symm.trans hf
          refine r_refu C0 C1 hI 0 (by decide) (n := "NOTHING") rfl w_599 dX2_refusalToSeat_52 ?_
          refine lv_goto (tgt := 61) C0.1 C0.2.1 dX2_refusalToSeat_55 (by decide) ?_
          exact ee_e C0 hI hr hlocks hf dX2_refusalToSeat_61
      · have hf := (if_pos c_8).symm.trans hf
        refine r_refu C0 C1 hI 11 (by decide) (n := "SITS_THERE") rfl w_781 dX2_refusalToSeat_34 ?_
        exact ee_e C0 hI hr hlocks hf dX2_refusalToSeat_37
    · have hf := (if_pos c_6).symm.trans hf
      refine r_refu C0 C1 hI 3 (by decide) (n := "NO_SUCH_PAD") rfl w_779 dX2_refusalToSeat_20 ?_
      exact ee_e C0 hI hr hlocks hf dX2_refusalToSeat_23
  · have hf := (if_pos c_3).symm.trans hf
    refine r_refu C0 C1 hI 2 (by decide) (n := "NO_SUCH_FROG") rfl w_773 dX2_refusalToSeat_8 ?_
    exact ee_e C0 hI hr hlocks hf dX2_refusalToSeat_11

def F_X2_seat (n : Nat) (a : Nat) (x1 : Int32) (x2 : Int32) (M : Mem) : Option (Int32 × Mem) :=
  chk (inb x1 12) (lt' (up2 M (a + 3) (ix x1) x2) (fun M_4 => lt' (up2 M_4 a 5 ((M_4 a 5) ||| (1 <<< (x1 &&& 31)))) (fun M_6 => ob (F_X2_countOn n a x2 M_6) (fun r_9 => some (r_9, M_6)))))
theorem hd_X2_seat : yX2_seat.cls ≠ "java/lang/invoke/MethodHandle" ∧ yX2_seat.cls ≠ "java/lang/invoke/VarHandle" ∧ (parseMethodDescriptor yX2_seat.desc).map (fun d => d.parameters.length) = some 2 := ⟨by decide +kernel, by decide +kernel, by decide +kernel⟩
set_option maxHeartbeats 4000000 in
set_option maxRecDepth 100000 in
theorem c_X2_seat (l : Launch) (g : GG) (X : va_W) (r : Nat → Nat) (b : Nat → Nat) (sz n : Nat) (M : Mem) (a : Nat) (ha : kdI a = 1) (x1 : Int32) (x2 : Int32) {r0 : Int32} {M' : Mem} (hf : F_X2_seat n a x1 x2 M = some (r0, M')) : Met l yX2_seat (.code yX2_seat cX2_seat 3 (some .int) :: LWg) (rmD 2 0 0) (va_Pc [.ref (b a), .int x1, .int x2] (PreP g X 372 (shI g r b) b sz M)) (Qi g X 372 (shI g r b) b sz r0 M') 0 0 (AA X b 372 sz) := by
  refine met_go (by decide +kernel) rfl (Nat.le_of_ble_eq_true rfl) ?_
  intro p e s m below meth c ls H locs C0 C1 hr hlocks hnm hsz hl hI
  subst hsz
  have hl : lv_has ls 3 [(0, .ref (b a)), (1, .int x1), (2, .int x2)] := hl
  unfold F_X2_seat at hf
  refine lv_aload_n C0.1 C0.2.1 dX2_seat_0 rfl (lv_at hl 0 rfl) ?_
  refine r_get (C := RX2) (T := TX2) (N9 := 12) (ci := 4) C0 C1 hI iX2 rfl a 3 (kdlt1 ha) (by decide) ((shI_1 ha) _) rfl rfl w_192 dX2_seat_1 ?_
  refine lv_iload_n C0.1 C0.2.1 dX2_seat_4 rfl (lv_at hl 1 rfl) ?_
  refine lv_iload_n C0.1 C0.2.1 dX2_seat_5 rfl (lv_at hl 2 rfl) ?_
  obtain ⟨h_1, hf⟩ := chk_some hf
  refine r_iast C0 C1 hI (a + 3) (kdlt2 (kd1_3 ha)) (shI_2 (kd1_3 ha)) h_1 dX2_seat_6 (fun H locs hI => ?_)
  obtain ⟨M_4, e_5⟩ : ∃ z : Mem, z = up2 M (a + 3) (ix x1) x2 := ⟨_, rfl⟩
  rw [← e_5] at hI
  have hf := lt_at e_5 hf
  refine lv_aload_n C0.1 C0.2.1 dX2_seat_7 rfl (lv_at hl 0 rfl) ?_
  refine lv_dup C0.1 C0.2.1 dX2_seat_8 rfl ?_
  refine r_get (C := RX2) (T := TX2) (N9 := 12) (ci := 4) C0 C1 hI iX2 rfl a 5 (kdlt1 ha) (by decide) ((shI_1 ha) _) rfl rfl w_196 dX2_seat_9 ?_
  refine lv_iconst (v := 1) C0.1 C0.2.1 dX2_seat_12 (by decide) ?_
  refine lv_iload_n C0.1 C0.2.1 dX2_seat_13 rfl (lv_at hl 1 rfl) ?_
  refine lv_ishl C0.1 C0.2.1 dX2_seat_14 ?_
  refine lv_ior C0.1 C0.2.1 dX2_seat_15 ?_
  refine r_put (C := RX2) (T := TX2) (N9 := 12) (ci := 4) (fs := fA b a) (ty := .int) C0 C1 hI iX2 tyX2 tyX2_ok nmX2 rfl a 5 (kdlt1 ha) (by decide) (shI_1 ha) rfl rfl rfl (by decide +kernel) ⟨rfl, rfl⟩ (Nat.le_of_ble_eq_true rfl) w_196 dX2_seat_16 (fun H locs hI => ?_)
  obtain ⟨M_6, e_7⟩ : ∃ z : Mem, z = up2 M_4 a 5 ((M_4 a 5) ||| (1 <<< (x1 &&& 31))) := ⟨_, rfl⟩
  rw [← e_7] at hI
  have hf := lt_at e_7 hf
  refine lv_aload_n C0.1 C0.2.1 dX2_seat_19 rfl (lv_at hl 0 rfl) ?_
  refine lv_iload_n C0.1 C0.2.1 dX2_seat_20 rfl (lv_at hl 2 rfl) ?_
  obtain ⟨r_9, h_8, hf⟩ := ob_some hf
  refine k_i C1 hI (q_V C0 C1 hI a (c_X2_countOn l g X r b H.size n M_6 a ha x2 h_8) w_783 w_390 w_0 w_72 w_391 ⟨rfl, rfl⟩ hd_X2_countOn ⟨Nat.le_of_ble_eq_true rfl, Nat.le_of_ble_eq_true rfl⟩ (kdlt1 ha) ((shI_1 ha) _) rfl rfl rfl hl.1 rfl (Nat.le_of_ble_eq_true rfl) dX2_seat_21 ⟨Nat.le_of_ble_eq_true rfl, Nat.le_of_ble_eq_true rfl⟩) (fun H locs hI => ?_)
  exact ee_im C0 hI hr hlocks hf dX2_seat_24

def F_X2_sits (n : Nat) (a : Nat) (x1 : Int32) (M : Mem) : Option Int32 :=
  (if (((M a 5) >>> (x1 &&& 31)) &&& 1) = 0 then some 0 else some 1)
theorem hd_X2_sits : yX2_sits.cls ≠ "java/lang/invoke/MethodHandle" ∧ yX2_sits.cls ≠ "java/lang/invoke/VarHandle" ∧ (parseMethodDescriptor yX2_sits.desc).map (fun d => d.parameters.length) = some 1 := ⟨by decide +kernel, by decide +kernel, by decide +kernel⟩
set_option maxHeartbeats 4000000 in
set_option maxRecDepth 100000 in
theorem c_X2_sits (l : Launch) (g : GG) (X : va_W) (r : Nat → Nat) (b : Nat → Nat) (sz n : Nat) (M : Mem) (a : Nat) (ha : kdI a = 1) (x1 : Int32) {r0 : Int32} (hf : F_X2_sits n a x1 M = some r0) : Met l yX2_sits (.code yX2_sits cX2_sits 2 (some .boolean) :: LWg) (rmD 0 0 0) (va_Pc [.ref (b a), .int x1] (PreP g X 372 (shI g r b) b sz M)) (Qi g X 372 (shI g r b) b sz r0 M) 0 0 (AA X b 372 sz) := by
  refine met_go (by decide +kernel) rfl (Nat.le_of_ble_eq_true rfl) ?_
  intro p e s m below meth c ls H locs C0 C1 hr hlocks hnm hsz hl hI
  subst hsz
  have hl : lv_has ls 2 [(0, .ref (b a)), (1, .int x1)] := hl
  unfold F_X2_sits at hf
  refine lv_aload_n C0.1 C0.2.1 dX2_sits_0 rfl (lv_at hl 0 rfl) ?_
  refine r_get (C := RX2) (T := TX2) (N9 := 12) (ci := 4) C0 C1 hI iX2 rfl a 5 (kdlt1 ha) (by decide) ((shI_1 ha) _) rfl rfl w_196 dX2_sits_1 ?_
  refine lv_iload_n C0.1 C0.2.1 dX2_sits_4 rfl (lv_at hl 1 rfl) ?_
  refine lv_ishr C0.1 C0.2.1 dX2_sits_5 ?_
  refine lv_iconst (v := 1) C0.1 C0.2.1 dX2_sits_6 (by decide) ?_
  refine lv_iand C0.1 C0.2.1 dX2_sits_7 ?_
  refine lv_if_eq (tgt := 15) C0.1 C0.2.1 dX2_sits_8 (by decide) (fun c_1 => ?_) (fun c_1 => ?_)
  · have hf := (if_pos c_1).symm.trans hf
    refine lv_iconst (v := 0) C0.1 C0.2.1 dX2_sits_15 (by decide) ?_
    exact ee_z C0 hI hr hlocks rfl hf dX2_sits_16
  · have hf := (if_neg c_1).symm.trans hf
    refine lv_iconst (v := 1) C0.1 C0.2.1 dX2_sits_11 (by decide) ?_
    refine lv_goto (tgt := 16) C0.1 C0.2.1 dX2_sits_12 (by decide) ?_
    exact ee_z C0 hI hr hlocks rfl hf dX2_sits_16

def F_X2_refusalToUnseat (n : Nat) (a : Nat) (x1 : Int32) (M : Mem) : Option Nat :=
  ob (F_X2_hasFrog n a x1 M) (fun r_2 => (if r_2 = 0 then some 2 else ob (F_X2_sits n a x1 M) (fun r_5 => (if r_5 = 0 then some 13 else some 0))))
theorem hd_X2_refusalToUnseat : yX2_refusalToUnseat.cls ≠ "java/lang/invoke/MethodHandle" ∧ yX2_refusalToUnseat.cls ≠ "java/lang/invoke/VarHandle" ∧ (parseMethodDescriptor yX2_refusalToUnseat.desc).map (fun d => d.parameters.length) = some 1 := ⟨by decide +kernel, by decide +kernel, by decide +kernel⟩
set_option maxHeartbeats 4000000 in
set_option maxRecDepth 100000 in
theorem c_X2_refusalToUnseat (l : Launch) (g : GG) (X : va_W) (r : Nat → Nat) (b : Nat → Nat) (sz n : Nat) (M : Mem) (a : Nat) (ha : kdI a = 1) (x1 : Int32) {r0 : Nat} (hf : F_X2_refusalToUnseat n a x1 M = some r0) : Met l yX2_refusalToUnseat (.code yX2_refusalToUnseat cX2_refusalToUnseat 2 (some (.object "FrogParliament$Refusal")) :: LWg) (rmD 1 0 0) (va_Pc [.ref (b a), .int x1] (PreP g X 372 (shI g r b) b sz M)) (Qe g X 372 (shI g r b) b sz r0 M) 0 0 (AA X b 372 sz) := by
  refine met_go (by decide +kernel) rfl (Nat.le_of_ble_eq_true rfl) ?_
  intro p e s m below meth c ls H locs C0 C1 hr hlocks hnm hsz hl hI
  subst hsz
  have hl : lv_has ls 2 [(0, .ref (b a)), (1, .int x1)] := hl
  unfold F_X2_refusalToUnseat at hf
  refine lv_aload_n C0.1 C0.2.1 dX2_refusalToUnseat_0 rfl (lv_at hl 0 rfl) ?_
  refine lv_iload_n C0.1 C0.2.1 dX2_refusalToUnseat_1 rfl (lv_at hl 1 rfl) ?_
  obtain ⟨r_2, h_1, hf⟩ := ob_some hf
  refine k_i C1 hI (q_V C0 C1 hI a (c_X2_hasFrog l g X r b H.size n M a ha x1 h_1) w_769 w_771 w_24 w_72 w_772 ⟨rfl, rfl⟩ hd_X2_hasFrog ⟨Nat.le_of_ble_eq_true rfl, Nat.le_of_ble_eq_true rfl⟩ (kdlt1 ha) ((shI_1 ha) _) rfl rfl rfl hl.1 rfl (Nat.le_of_ble_eq_true rfl) dX2_refusalToUnseat_2 ⟨Nat.le_of_ble_eq_true rfl, Nat.le_of_ble_eq_true rfl⟩) (fun H locs hI => ?_)
  refine lv_if_ne (tgt := 12) C0.1 C0.2.1 dX2_refusalToUnseat_5 (by decide) (fun c_3 => ?_) (fun c_3 => ?_)
  · have hf := (if_neg c_3).symm.trans hf
    refine lv_aload_n C0.1 C0.2.1 dX2_refusalToUnseat_12 rfl (lv_at hl 0 rfl) ?_
    refine lv_iload_n C0.1 C0.2.1 dX2_refusalToUnseat_13 rfl (lv_at hl 1 rfl) ?_
    obtain ⟨r_5, h_4, hf⟩ := ob_some hf
    refine k_i C1 hI (q_V C0 C1 hI a (c_X2_sits l g X r b H.size n M a ha x1 h_4) w_801 w_803 w_28 w_72 w_804 ⟨rfl, rfl⟩ hd_X2_sits ⟨Nat.le_of_ble_eq_true rfl, Nat.le_of_ble_eq_true rfl⟩ (kdlt1 ha) ((shI_1 ha) _) rfl rfl rfl hl.1 rfl (Nat.le_of_ble_eq_true rfl) dX2_refusalToUnseat_14 ⟨Nat.le_of_ble_eq_true rfl, Nat.le_of_ble_eq_true rfl⟩) (fun H locs hI => ?_)
    refine lv_if_eq (tgt := 26) C0.1 C0.2.1 dX2_refusalToUnseat_17 (by decide) (fun c_6 => ?_) (fun c_6 => ?_)
    · have hf := (if_pos c_6).symm.trans hf
      refine r_refu C0 C1 hI 13 (by decide) (n := "IN_WATER") rfl w_805 dX2_refusalToUnseat_26 ?_
      exact ee_e C0 hI hr hlocks hf dX2_refusalToUnseat_29
    · have hf := (if_neg c_6).symm.trans hf
      refine r_refu C0 C1 hI 0 (by decide) (n := "NOTHING") rfl w_599 dX2_refusalToUnseat_20 ?_
      refine lv_goto (tgt := 29) C0.1 C0.2.1 dX2_refusalToUnseat_23 (by decide) ?_
      exact ee_e C0 hI hr hlocks hf dX2_refusalToUnseat_29
  · have hf := (if_pos c_3).symm.trans hf
    refine r_refu C0 C1 hI 2 (by decide) (n := "NO_SUCH_FROG") rfl w_773 dX2_refusalToUnseat_8 ?_
    exact ee_e C0 hI hr hlocks hf dX2_refusalToUnseat_11

def F_X2_unseat (n : Nat) (a : Nat) (x1 : Int32) (M : Mem) : Option (Int32 × Mem) :=
  chk (inb x1 12) (lt' (M (a + 3) (ix x1)) (fun x2_2 => chk (inb x1 12) (lt' (up2 M (a + 3) (ix x1) (-1)) (fun M_7 => lt' (up2 M_7 a 5 ((M_7 a 5) &&& ((1 <<< (x1 &&& 31)) ^^^ (-1)))) (fun M_9 => some (x2_2, M_9))))))
theorem hd_X2_unseat : yX2_unseat.cls ≠ "java/lang/invoke/MethodHandle" ∧ yX2_unseat.cls ≠ "java/lang/invoke/VarHandle" ∧ (parseMethodDescriptor yX2_unseat.desc).map (fun d => d.parameters.length) = some 1 := ⟨by decide +kernel, by decide +kernel, by decide +kernel⟩
set_option maxHeartbeats 4000000 in
set_option maxRecDepth 100000 in
theorem c_X2_unseat (l : Launch) (g : GG) (X : va_W) (r : Nat → Nat) (b : Nat → Nat) (sz n : Nat) (M : Mem) (a : Nat) (ha : kdI a = 1) (x1 : Int32) {r0 : Int32} {M' : Mem} (hf : F_X2_unseat n a x1 M = some (r0, M')) : Met l yX2_unseat (.code yX2_unseat cX2_unseat 3 (some .int) :: LWg) (rmD 0 0 0) (va_Pc [.ref (b a), .int x1] (PreP g X 372 (shI g r b) b sz M)) (Qi g X 372 (shI g r b) b sz r0 M') 0 0 (AA X b 372 sz) := by
  refine met_go (by decide +kernel) rfl (Nat.le_of_ble_eq_true rfl) ?_
  intro p e s m below meth c ls H locs C0 C1 hr hlocks hnm hsz hl hI
  subst hsz
  have hl : lv_has ls 3 [(0, .ref (b a)), (1, .int x1)] := hl
  unfold F_X2_unseat at hf
  refine lv_aload_n C0.1 C0.2.1 dX2_unseat_0 rfl (lv_at hl 0 rfl) ?_
  refine r_get (C := RX2) (T := TX2) (N9 := 12) (ci := 4) C0 C1 hI iX2 rfl a 3 (kdlt1 ha) (by decide) ((shI_1 ha) _) rfl rfl w_192 dX2_unseat_1 ?_
  refine lv_iload_n C0.1 C0.2.1 dX2_unseat_4 rfl (lv_at hl 1 rfl) ?_
  obtain ⟨h_1, hf⟩ := chk_some hf
  refine r_iald C0 C1 hI (a + 3) (kdlt2 (kd1_3 ha)) (shI_2 (kd1_3 ha)) h_1 dX2_unseat_5 ?_
  refine lv_topi (fun x2_2 e_3 => ?_)
  have hf := lt_at e_3 hf
  refine lv_istore_n (lv' := [(2, .int x2_2), (0, .ref (b a)), (1, .int x1)]) C0.1 C0.2.1 dX2_unseat_6 rfl hl (by decide) rfl (fun ls hl => ?_)
  refine lv_aload_n C0.1 C0.2.1 dX2_unseat_7 rfl (lv_at hl 1 rfl) ?_
  refine r_get (C := RX2) (T := TX2) (N9 := 12) (ci := 4) C0 C1 hI iX2 rfl a 3 (kdlt1 ha) (by decide) ((shI_1 ha) _) rfl rfl w_192 dX2_unseat_8 ?_
  refine lv_iload_n C0.1 C0.2.1 dX2_unseat_11 rfl (lv_at hl 2 rfl) ?_
  refine lv_iconst (v := (-1)) C0.1 C0.2.1 dX2_unseat_12 (by decide) ?_
  obtain ⟨h_4, hf⟩ := chk_some hf
  refine r_iast C0 C1 hI (a + 3) (kdlt2 (kd1_3 ha)) (shI_2 (kd1_3 ha)) h_4 dX2_unseat_13 (fun H locs hI => ?_)
  obtain ⟨M_7, e_8⟩ : ∃ z : Mem, z = up2 M (a + 3) (ix x1) (-1) := ⟨_, rfl⟩
  rw [← e_8] at hI
  have hf := lt_at e_8 hf
  refine lv_aload_n C0.1 C0.2.1 dX2_unseat_14 rfl (lv_at hl 1 rfl) ?_
  refine lv_dup C0.1 C0.2.1 dX2_unseat_15 rfl ?_
  refine r_get (C := RX2) (T := TX2) (N9 := 12) (ci := 4) C0 C1 hI iX2 rfl a 5 (kdlt1 ha) (by decide) ((shI_1 ha) _) rfl rfl w_196 dX2_unseat_16 ?_
  refine lv_iconst (v := 1) C0.1 C0.2.1 dX2_unseat_19 (by decide) ?_
  refine lv_iload_n C0.1 C0.2.1 dX2_unseat_20 rfl (lv_at hl 2 rfl) ?_
  refine lv_ishl C0.1 C0.2.1 dX2_unseat_21 ?_
  refine lv_iconst (v := (-1)) C0.1 C0.2.1 dX2_unseat_22 (by decide) ?_
  refine lv_ixor C0.1 C0.2.1 dX2_unseat_23 ?_
  refine lv_iand C0.1 C0.2.1 dX2_unseat_24 ?_
  refine r_put (C := RX2) (T := TX2) (N9 := 12) (ci := 4) (fs := fA b a) (ty := .int) C0 C1 hI iX2 tyX2 tyX2_ok nmX2 rfl a 5 (kdlt1 ha) (by decide) (shI_1 ha) rfl rfl rfl (by decide +kernel) ⟨rfl, rfl⟩ (Nat.le_of_ble_eq_true rfl) w_196 dX2_unseat_25 (fun H locs hI => ?_)
  obtain ⟨M_9, e_10⟩ : ∃ z : Mem, z = up2 M_7 a 5 ((M_7 a 5) &&& ((1 <<< (x1 &&& 31)) ^^^ (-1))) := ⟨_, rfl⟩
  rw [← e_10] at hI
  have hf := lt_at e_10 hf
  refine lv_iload_n C0.1 C0.2.1 dX2_unseat_28 rfl (lv_at hl 0 rfl) ?_
  exact ee_im C0 hI hr hlocks hf dX2_unseat_29

def F_X2_weightOfSet_L4 (n : Nat) (a : Nat) (M : Mem) : Nat → Int32 → Int32 → Int32 → Option Int32
  | 0, _, _, _ => none
  | k4 + 1, x1_4, x2_4, x3_4 =>
    (if (M a 0) ≤ x3_4 then some x2_4 else (if ((x1_4 >>> (x3_4 &&& 31)) &&& 1) = 0 then lt' (x3_4 + 1) (fun x3_4_3 => F_X2_weightOfSet_L4 n a M k4 x1_4 x2_4 x3_4_3) else chk (inb x3_4 12) (lt' (x2_4 + (M (a + 2) (ix x3_4))) (fun x2_4_6 => lt' (x3_4 + 1) (fun x3_4_8 => F_X2_weightOfSet_L4 n a M k4 x1_4 x2_4_6 x3_4_8)))))
def F_X2_weightOfSet (n : Nat) (a : Nat) (x1 : Int32) (M : Mem) : Option Int32 :=
  F_X2_weightOfSet_L4 n a M n x1 0 0
theorem hd_X2_weightOfSet : yX2_weightOfSet.cls ≠ "java/lang/invoke/MethodHandle" ∧ yX2_weightOfSet.cls ≠ "java/lang/invoke/VarHandle" ∧ (parseMethodDescriptor yX2_weightOfSet.desc).map (fun d => d.parameters.length) = some 1 := ⟨by decide +kernel, by decide +kernel, by decide +kernel⟩
set_option maxHeartbeats 4000000 in
set_option maxRecDepth 100000 in
theorem c_X2_weightOfSet (l : Launch) (g : GG) (X : va_W) (r : Nat → Nat) (b : Nat → Nat) (sz n : Nat) (M : Mem) (a : Nat) (ha : kdI a = 1) (x1 : Int32) {r0 : Int32} (hf : F_X2_weightOfSet n a x1 M = some r0) : Met l yX2_weightOfSet (.code yX2_weightOfSet cX2_weightOfSet 4 (some .int) :: LWg) (rmD 0 0 0) (va_Pc [.ref (b a), .int x1] (PreP g X 372 (shI g r b) b sz M)) (Qi g X 372 (shI g r b) b sz r0 M) 0 0 (AA X b 372 sz) := by
  refine met_go (by decide +kernel) rfl (Nat.le_of_ble_eq_true rfl) ?_
  intro p e s m below meth c ls H locs C0 C1 hr hlocks hnm hsz hl hI
  subst hsz
  have hl : lv_has ls 4 [(0, .ref (b a)), (1, .int x1)] := hl
  unfold F_X2_weightOfSet at hf
  refine lv_iconst (v := 0) C0.1 C0.2.1 dX2_weightOfSet_0 (by decide) ?_
  refine lv_istore_n (lv' := [(2, .int 0), (0, .ref (b a)), (1, .int x1)]) C0.1 C0.2.1 dX2_weightOfSet_1 rfl hl (by decide) rfl (fun ls hl => ?_)
  refine lv_iconst (v := 0) C0.1 C0.2.1 dX2_weightOfSet_2 (by decide) ?_
  refine lv_istore_n (lv' := [(3, .int 0), (2, .int 0), (0, .ref (b a)), (1, .int x1)]) C0.1 C0.2.1 dX2_weightOfSet_3 rfl hl (by decide) rfl (fun ls hl => ?_)
  have L4 : ∀ (k4 : Nat) (x1_4 : Int32) (x2_4 : Int32) (x3_4 : Int32), F_X2_weightOfSet_L4 n a M k4 x1_4 x2_4 x3_4 = some r0 → ∀ (H : Heap) (locs : List Loc) (ls : Array Slot), PI g X 372 (shI g r b) b s M H locs → lv_has ls 4 [(0, .ref (b a)), (1, .int x1_4), (2, .int x2_4), (3, .int x3_4)] → W p l e (rmD 0 0 0) s m ([.ref (b a), .int x1] : List Value).toArray below meth c H locs 0 0 (MQ below (Qi g X 372 (shI g r b) b s.heap.size r0 M) ([.ref (b a), .int x1] : List Value).toArray s 0 0 (AA X b 372 s.heap.size)) (F0 m 4 ls []) := by
    intro k4
    induction k4 with
    | zero => intro x1_4 x2_4 x3_4 hf; exact absurd (show (none : Option Int32) = some r0 from hf) (fun h => by cases h)
    | succ k4 ih4 =>
      intro x1_4 x2_4 x3_4 hf H locs ls hI hl
      unfold F_X2_weightOfSet_L4 at hf
      refine lv_iload_n C0.1 C0.2.1 dX2_weightOfSet_4 rfl (lv_at hl 3 rfl) ?_
      refine lv_aload_n C0.1 C0.2.1 dX2_weightOfSet_5 rfl (lv_at hl 0 rfl) ?_
      refine r_get (C := RX2) (T := TX2) (N9 := 12) (ci := 4) C0 C1 hI iX2 rfl a 0 (kdlt1 ha) (by decide) ((shI_1 ha) _) rfl rfl w_186 dX2_weightOfSet_6 ?_
      refine lv_icmp_ge (tgt := 35) C0.1 C0.2.1 dX2_weightOfSet_9 (by decide) (fun c_4_1 => ?_) (fun c_4_1 => ?_)
      · have hf := (if_pos c_4_1).symm.trans hf
        refine lv_iload_n C0.1 C0.2.1 dX2_weightOfSet_35 rfl (lv_at hl 2 rfl) ?_
        exact ee_i C0 hI hr hlocks hf dX2_weightOfSet_36
      · have hf := (if_neg c_4_1).symm.trans hf
        refine lv_iload_n C0.1 C0.2.1 dX2_weightOfSet_12 rfl (lv_at hl 1 rfl) ?_
        refine lv_iload_n C0.1 C0.2.1 dX2_weightOfSet_13 rfl (lv_at hl 3 rfl) ?_
        refine lv_ishr C0.1 C0.2.1 dX2_weightOfSet_14 ?_
        refine lv_iconst (v := 1) C0.1 C0.2.1 dX2_weightOfSet_15 (by decide) ?_
        refine lv_iand C0.1 C0.2.1 dX2_weightOfSet_16 ?_
        refine lv_if_eq (tgt := 29) C0.1 C0.2.1 dX2_weightOfSet_17 (by decide) (fun c_4_2 => ?_) (fun c_4_2 => ?_)
        · have hf := (if_pos c_4_2).symm.trans hf
          obtain ⟨x3_4_3, e_4_4⟩ : ∃ z : Int32, z = x3_4 + 1 := ⟨_, rfl⟩
          have hf := lt_at e_4_4 hf
          refine lv_iinc (v := x3_4_3) (lv' := [(3, .int x3_4_3), (0, .ref (b a)), (1, .int x1_4), (2, .int x2_4)]) C0.1 C0.2.1 dX2_weightOfSet_29 hl (k := 3) rfl (by rw [e_4_4]; rfl) (by decide) rfl (fun ls hl => ?_)
          refine lv_goto (tgt := 4) C0.1 C0.2.1 dX2_weightOfSet_32 (by decide) ?_
          exact ih4 x1_4 x2_4 x3_4_3 hf H locs ls hI (lv_sub hl [1, 2, 3, 0] rfl)
        · have hf := (if_neg c_4_2).symm.trans hf
          refine lv_iload_n C0.1 C0.2.1 dX2_weightOfSet_20 rfl (lv_at hl 2 rfl) ?_
          refine lv_aload_n C0.1 C0.2.1 dX2_weightOfSet_21 rfl (lv_at hl 0 rfl) ?_
          refine r_get (C := RX2) (T := TX2) (N9 := 12) (ci := 4) C0 C1 hI iX2 rfl a 2 (kdlt1 ha) (by decide) ((shI_1 ha) _) rfl rfl w_190 dX2_weightOfSet_22 ?_
          refine lv_iload_n C0.1 C0.2.1 dX2_weightOfSet_25 rfl (lv_at hl 3 rfl) ?_
          obtain ⟨h_4_5, hf⟩ := chk_some hf
          refine r_iald C0 C1 hI (a + 2) (kdlt2 (kd1_2 ha)) (shI_2 (kd1_2 ha)) h_4_5 dX2_weightOfSet_26 ?_
          refine lv_iadd C0.1 C0.2.1 dX2_weightOfSet_27 ?_
          refine lv_topi (fun x2_4_6 e_4_7 => ?_)
          have hf := lt_at e_4_7 hf
          refine lv_istore_n (lv' := [(2, .int x2_4_6), (0, .ref (b a)), (1, .int x1_4), (3, .int x3_4)]) C0.1 C0.2.1 dX2_weightOfSet_28 rfl hl (by decide) rfl (fun ls hl => ?_)
          obtain ⟨x3_4_8, e_4_9⟩ : ∃ z : Int32, z = x3_4 + 1 := ⟨_, rfl⟩
          have hf := lt_at e_4_9 hf
          refine lv_iinc (v := x3_4_8) (lv' := [(3, .int x3_4_8), (2, .int x2_4_6), (0, .ref (b a)), (1, .int x1_4)]) C0.1 C0.2.1 dX2_weightOfSet_29 hl (k := 3) rfl (by rw [e_4_9]; rfl) (by decide) rfl (fun ls hl => ?_)
          refine lv_goto (tgt := 4) C0.1 C0.2.1 dX2_weightOfSet_32 (by decide) ?_
          exact ih4 x1_4 x2_4_6 x3_4_8 hf H locs ls hI (lv_sub hl [2, 3, 1, 0] rfl)
  exact L4 n x1 0 0 hf H locs ls hI (lv_sub hl [2, 3, 1, 0] rfl)

def F_X2_refusalToPropose (n : Nat) (a : Nat) (x1 : Int32) (M : Mem) : Option Nat :=
  (if x1 < 1 then some 7 else (if x1 ≤ 15 then (if 6 ≤ (M a 8) then some 10 else some 0) else some 7))
theorem hd_X2_refusalToPropose : yX2_refusalToPropose.cls ≠ "java/lang/invoke/MethodHandle" ∧ yX2_refusalToPropose.cls ≠ "java/lang/invoke/VarHandle" ∧ (parseMethodDescriptor yX2_refusalToPropose.desc).map (fun d => d.parameters.length) = some 1 := ⟨by decide +kernel, by decide +kernel, by decide +kernel⟩
set_option maxHeartbeats 4000000 in
set_option maxRecDepth 100000 in
theorem c_X2_refusalToPropose (l : Launch) (g : GG) (X : va_W) (r : Nat → Nat) (b : Nat → Nat) (sz n : Nat) (M : Mem) (a : Nat) (ha : kdI a = 1) (x1 : Int32) {r0 : Nat} (hf : F_X2_refusalToPropose n a x1 M = some r0) : Met l yX2_refusalToPropose (.code yX2_refusalToPropose cX2_refusalToPropose 2 (some (.object "FrogParliament$Refusal")) :: LWg) (rmD 0 0 0) (va_Pc [.ref (b a), .int x1] (PreP g X 372 (shI g r b) b sz M)) (Qe g X 372 (shI g r b) b sz r0 M) 0 0 (AA X b 372 sz) := by
  refine met_go (by decide +kernel) rfl (Nat.le_of_ble_eq_true rfl) ?_
  intro p e s m below meth c ls H locs C0 C1 hr hlocks hnm hsz hl hI
  subst hsz
  have hl : lv_has ls 2 [(0, .ref (b a)), (1, .int x1)] := hl
  unfold F_X2_refusalToPropose at hf
  refine lv_iload_n C0.1 C0.2.1 dX2_refusalToPropose_0 rfl (lv_at hl 1 rfl) ?_
  refine lv_iconst (v := 1) C0.1 C0.2.1 dX2_refusalToPropose_1 (by decide) ?_
  refine lv_icmp_lt (tgt := 11) C0.1 C0.2.1 dX2_refusalToPropose_2 (by decide) (fun c_1 => ?_) (fun c_1 => ?_)
  · have hf := (if_pos c_1).symm.trans hf
    refine r_refu C0 C1 hI 7 (by decide) (n := "WRONG_MASK") rfl w_822 dX2_refusalToPropose_11 ?_
    exact ee_e C0 hI hr hlocks hf dX2_refusalToPropose_14
  · have hf := (if_neg c_1).symm.trans hf
    refine lv_iload_n C0.1 C0.2.1 dX2_refusalToPropose_5 rfl (lv_at hl 1 rfl) ?_
    refine lv_bipush (v := 15) C0.1 C0.2.1 dX2_refusalToPropose_6 (by decide) ?_
    refine lv_icmp_le (tgt := 15) C0.1 C0.2.1 dX2_refusalToPropose_8 (by decide) (fun c_2 => ?_) (fun c_2 => ?_)
    · have hf := (if_pos c_2).symm.trans hf
      refine lv_aload_n C0.1 C0.2.1 dX2_refusalToPropose_15 rfl (lv_at hl 0 rfl) ?_
      refine r_get (C := RX2) (T := TX2) (N9 := 12) (ci := 4) C0 C1 hI iX2 rfl a 8 (kdlt1 ha) (by decide) ((shI_1 ha) _) rfl rfl w_201 dX2_refusalToPropose_16 ?_
      refine lv_bipush (v := 6) C0.1 C0.2.1 dX2_refusalToPropose_19 (by decide) ?_
      refine lv_icmp_ge (tgt := 30) C0.1 C0.2.1 dX2_refusalToPropose_21 (by decide) (fun c_3 => ?_) (fun c_3 => ?_)
      · have hf := (if_pos c_3).symm.trans hf
        refine r_refu C0 C1 hI 10 (by decide) (n := "TOO_MANY") rfl w_719 dX2_refusalToPropose_30 ?_
        exact ee_e C0 hI hr hlocks hf dX2_refusalToPropose_33
      · have hf := (if_neg c_3).symm.trans hf
        refine r_refu C0 C1 hI 0 (by decide) (n := "NOTHING") rfl w_599 dX2_refusalToPropose_24 ?_
        refine lv_goto (tgt := 33) C0.1 C0.2.1 dX2_refusalToPropose_27 (by decide) ?_
        exact ee_e C0 hI hr hlocks hf dX2_refusalToPropose_33
    · have hf := (if_neg c_2).symm.trans hf
      refine r_refu C0 C1 hI 7 (by decide) (n := "WRONG_MASK") rfl w_822 dX2_refusalToPropose_11 ?_
      exact ee_e C0 hI hr hlocks hf dX2_refusalToPropose_14

def F_X2_propose (n : Nat) (a : Nat) (x1 : Int32) (M : Mem) : Option (Int32 × Mem) :=
  lt' (M a 8) (fun x2_1 => chk (inb x2_1 6) (lt' (up2 M (a + 6 + 1 + 4 * ix x2_1) 0 x1) (fun M_4 => lt' (up2 M_4 a 8 ((M_4 a 8) + 1)) (fun M_6 => some (x2_1, M_6)))))
theorem hd_X2_propose : yX2_propose.cls ≠ "java/lang/invoke/MethodHandle" ∧ yX2_propose.cls ≠ "java/lang/invoke/VarHandle" ∧ (parseMethodDescriptor yX2_propose.desc).map (fun d => d.parameters.length) = some 1 := ⟨by decide +kernel, by decide +kernel, by decide +kernel⟩
set_option maxHeartbeats 4000000 in
set_option maxRecDepth 100000 in
theorem c_X2_propose (l : Launch) (g : GG) (X : va_W) (r : Nat → Nat) (b : Nat → Nat) (sz n : Nat) (M : Mem) (a : Nat) (ha : kdI a = 1) (x1 : Int32) {r0 : Int32} {M' : Mem} (hf : F_X2_propose n a x1 M = some (r0, M')) : Met l yX2_propose (.code yX2_propose cX2_propose 3 (some .int) :: LWg) (rmD 0 0 0) (va_Pc [.ref (b a), .int x1] (PreP g X 372 (shI g r b) b sz M)) (Qi g X 372 (shI g r b) b sz r0 M') 0 0 (AA X b 372 sz) := by
  refine met_go (by decide +kernel) rfl (Nat.le_of_ble_eq_true rfl) ?_
  intro p e s m below meth c ls H locs C0 C1 hr hlocks hnm hsz hl hI
  subst hsz
  have hl : lv_has ls 3 [(0, .ref (b a)), (1, .int x1)] := hl
  unfold F_X2_propose at hf
  refine lv_aload_n C0.1 C0.2.1 dX2_propose_0 rfl (lv_at hl 0 rfl) ?_
  refine r_get (C := RX2) (T := TX2) (N9 := 12) (ci := 4) C0 C1 hI iX2 rfl a 8 (kdlt1 ha) (by decide) ((shI_1 ha) _) rfl rfl w_201 dX2_propose_1 ?_
  refine lv_topi (fun x2_1 e_2 => ?_)
  have hf := lt_at e_2 hf
  refine lv_istore_n (lv' := [(2, .int x2_1), (0, .ref (b a)), (1, .int x1)]) C0.1 C0.2.1 dX2_propose_4 rfl hl (by decide) rfl (fun ls hl => ?_)
  refine lv_aload_n C0.1 C0.2.1 dX2_propose_5 rfl (lv_at hl 1 rfl) ?_
  refine r_get (C := RX2) (T := TX2) (N9 := 12) (ci := 4) C0 C1 hI iX2 rfl a 9 (kdlt1 ha) (by decide) ((shI_1 ha) _) rfl rfl w_203 dX2_propose_6 ?_
  refine lv_iload_n C0.1 C0.2.1 dX2_propose_9 rfl (lv_at hl 0 rfl) ?_
  obtain ⟨h_3, hf⟩ := chk_some hf
  refine r_aald (t0 := 1) C0 C1 hI (a + 6) (kdlt4 (kd1_6 ha)) (shI_4 (kd1_6 ha)) rfl h_3 rfl dX2_propose_10 ?_
  refine lv_iload_n C0.1 C0.2.1 dX2_propose_11 rfl (lv_at hl 2 rfl) ?_
  refine r_putN (C := RX6) (T := TX6) (N9 := 12) (ci := 8) (fs := fMo b (a + 6 + 1 + 4 * ix x2_1)) (ty := .int) C0 C1 hI iX6 tyX6 tyX6_ok nmX6 rfl (a + 6 + 1 + 4 * ix x2_1) 0 (kdlt5 (kd4_i (kd1_6 ha) h_3)) (by decide) (shI_5 (kd4_i (kd1_6 ha) h_3)) rfl rfl rfl (by decide +kernel) ⟨rfl, rfl⟩ (Nat.le_of_ble_eq_true rfl) 0 rfl dX2_propose_12 (fun H locs hI => ?_)
  obtain ⟨M_4, e_5⟩ : ∃ z : Mem, z = up2 M (a + 6 + 1 + 4 * ix x2_1) 0 x1 := ⟨_, rfl⟩
  rw [← e_5] at hI
  have hf := lt_at e_5 hf
  refine lv_aload_n C0.1 C0.2.1 dX2_propose_15 rfl (lv_at hl 1 rfl) ?_
  refine lv_dup C0.1 C0.2.1 dX2_propose_16 rfl ?_
  refine r_get (C := RX2) (T := TX2) (N9 := 12) (ci := 4) C0 C1 hI iX2 rfl a 8 (kdlt1 ha) (by decide) ((shI_1 ha) _) rfl rfl w_201 dX2_propose_17 ?_
  refine lv_iconst (v := 1) C0.1 C0.2.1 dX2_propose_20 (by decide) ?_
  refine lv_iadd C0.1 C0.2.1 dX2_propose_21 ?_
  refine r_put (C := RX2) (T := TX2) (N9 := 12) (ci := 4) (fs := fA b a) (ty := .int) C0 C1 hI iX2 tyX2 tyX2_ok nmX2 rfl a 8 (kdlt1 ha) (by decide) (shI_1 ha) rfl rfl rfl (by decide +kernel) ⟨rfl, rfl⟩ (Nat.le_of_ble_eq_true rfl) w_201 dX2_propose_22 (fun H locs hI => ?_)
  obtain ⟨M_6, e_7⟩ : ∃ z : Mem, z = up2 M_4 a 8 ((M_4 a 8) + 1) := ⟨_, rfl⟩
  rw [← e_7] at hI
  have hf := lt_at e_7 hf
  refine lv_iload_n C0.1 C0.2.1 dX2_propose_25 rfl (lv_at hl 0 rfl) ?_
  exact ee_im C0 hI hr hlocks hf dX2_propose_26

def F_X2_entitles (n : Nat) (a : Nat) (x1 : Int32) (x2 : Int32) (M : Mem) : Option Int32 :=
  chk (inb x1 6) (chk (inb x2 12) ((if (((M (a + 6 + 1 + 4 * ix x1) 0) >>> ((M (a + 1) (ix x2)) &&& 31)) &&& 1) = 0 then some 0 else some 1)))
theorem hd_X2_entitles : yX2_entitles.cls ≠ "java/lang/invoke/MethodHandle" ∧ yX2_entitles.cls ≠ "java/lang/invoke/VarHandle" ∧ (parseMethodDescriptor yX2_entitles.desc).map (fun d => d.parameters.length) = some 2 := ⟨by decide +kernel, by decide +kernel, by decide +kernel⟩
set_option maxHeartbeats 4000000 in
set_option maxRecDepth 100000 in
theorem c_X2_entitles (l : Launch) (g : GG) (X : va_W) (r : Nat → Nat) (b : Nat → Nat) (sz n : Nat) (M : Mem) (a : Nat) (ha : kdI a = 1) (x1 : Int32) (x2 : Int32) {r0 : Int32} (hf : F_X2_entitles n a x1 x2 M = some r0) : Met l yX2_entitles (.code yX2_entitles cX2_entitles 3 (some .boolean) :: LWg) (rmD 0 0 0) (va_Pc [.ref (b a), .int x1, .int x2] (PreP g X 372 (shI g r b) b sz M)) (Qi g X 372 (shI g r b) b sz r0 M) 0 0 (AA X b 372 sz) := by
  refine met_go (by decide +kernel) rfl (Nat.le_of_ble_eq_true rfl) ?_
  intro p e s m below meth c ls H locs C0 C1 hr hlocks hnm hsz hl hI
  subst hsz
  have hl : lv_has ls 3 [(0, .ref (b a)), (1, .int x1), (2, .int x2)] := hl
  unfold F_X2_entitles at hf
  refine lv_aload_n C0.1 C0.2.1 dX2_entitles_0 rfl (lv_at hl 0 rfl) ?_
  refine r_get (C := RX2) (T := TX2) (N9 := 12) (ci := 4) C0 C1 hI iX2 rfl a 9 (kdlt1 ha) (by decide) ((shI_1 ha) _) rfl rfl w_203 dX2_entitles_1 ?_
  refine lv_iload_n C0.1 C0.2.1 dX2_entitles_4 rfl (lv_at hl 1 rfl) ?_
  obtain ⟨h_1, hf⟩ := chk_some hf
  refine r_aald (t0 := 1) C0 C1 hI (a + 6) (kdlt4 (kd1_6 ha)) (shI_4 (kd1_6 ha)) rfl h_1 rfl dX2_entitles_5 ?_
  refine r_getN (C := RX6) (T := TX6) (N9 := 12) (ci := 8) C0 C1 hI iX6 rfl (a + 6 + 1 + 4 * ix x1) 0 (kdlt5 (kd4_i (kd1_6 ha) h_1)) (by decide) ((shI_5 (kd4_i (kd1_6 ha) h_1)) _) rfl rfl 0 rfl dX2_entitles_6 ?_
  refine lv_aload_n C0.1 C0.2.1 dX2_entitles_9 rfl (lv_at hl 0 rfl) ?_
  refine r_get (C := RX2) (T := TX2) (N9 := 12) (ci := 4) C0 C1 hI iX2 rfl a 1 (kdlt1 ha) (by decide) ((shI_1 ha) _) rfl rfl w_188 dX2_entitles_10 ?_
  refine lv_iload_n C0.1 C0.2.1 dX2_entitles_13 rfl (lv_at hl 2 rfl) ?_
  obtain ⟨h_2, hf⟩ := chk_some hf
  refine r_iald C0 C1 hI (a + 1) (kdlt2 (kd1_1 ha)) (shI_2 (kd1_1 ha)) h_2 dX2_entitles_14 ?_
  refine lv_ishr C0.1 C0.2.1 dX2_entitles_15 ?_
  refine lv_iconst (v := 1) C0.1 C0.2.1 dX2_entitles_16 (by decide) ?_
  refine lv_iand C0.1 C0.2.1 dX2_entitles_17 ?_
  refine lv_if_eq (tgt := 25) C0.1 C0.2.1 dX2_entitles_18 (by decide) (fun c_3 => ?_) (fun c_3 => ?_)
  · have hf := (if_pos c_3).symm.trans hf
    refine lv_iconst (v := 0) C0.1 C0.2.1 dX2_entitles_25 (by decide) ?_
    exact ee_z C0 hI hr hlocks rfl hf dX2_entitles_26
  · have hf := (if_neg c_3).symm.trans hf
    refine lv_iconst (v := 1) C0.1 C0.2.1 dX2_entitles_21 (by decide) ?_
    refine lv_goto (tgt := 26) C0.1 C0.2.1 dX2_entitles_22 (by decide) ?_
    exact ee_z C0 hI hr hlocks rfl hf dX2_entitles_26

def F_X2_entitledTo_L4 (n : Nat) (a : Nat) (M : Mem) : Nat → Int32 → Int32 → Int32 → Option Int32
  | 0, _, _, _ => none
  | k4 + 1, x1_4, x2_4, x3_4 =>
    (if (M a 0) ≤ x3_4 then some x2_4 else ob (F_X2_entitles n a x1_4 x3_4 M) (fun r_4_3 => (if r_4_3 = 0 then lt' (x3_4 + 1) (fun x3_4_5 => F_X2_entitledTo_L4 n a M k4 x1_4 x2_4 x3_4_5) else lt' (x2_4 ||| (1 <<< (x3_4 &&& 31))) (fun x2_4_7 => lt' (x3_4 + 1) (fun x3_4_9 => F_X2_entitledTo_L4 n a M k4 x1_4 x2_4_7 x3_4_9)))))
def F_X2_entitledTo (n : Nat) (a : Nat) (x1 : Int32) (M : Mem) : Option Int32 :=
  F_X2_entitledTo_L4 n a M n x1 0 0
theorem hd_X2_entitledTo : yX2_entitledTo.cls ≠ "java/lang/invoke/MethodHandle" ∧ yX2_entitledTo.cls ≠ "java/lang/invoke/VarHandle" ∧ (parseMethodDescriptor yX2_entitledTo.desc).map (fun d => d.parameters.length) = some 1 := ⟨by decide +kernel, by decide +kernel, by decide +kernel⟩
set_option maxHeartbeats 4000000 in
set_option maxRecDepth 100000 in
theorem c_X2_entitledTo (l : Launch) (g : GG) (X : va_W) (r : Nat → Nat) (b : Nat → Nat) (sz n : Nat) (M : Mem) (a : Nat) (ha : kdI a = 1) (x1 : Int32) {r0 : Int32} (hf : F_X2_entitledTo n a x1 M = some r0) : Met l yX2_entitledTo (.code yX2_entitledTo cX2_entitledTo 4 (some .int) :: LWg) (rmD 1 0 0) (va_Pc [.ref (b a), .int x1] (PreP g X 372 (shI g r b) b sz M)) (Qi g X 372 (shI g r b) b sz r0 M) 0 0 (AA X b 372 sz) := by
  refine met_go (by decide +kernel) rfl (Nat.le_of_ble_eq_true rfl) ?_
  intro p e s m below meth c ls H locs C0 C1 hr hlocks hnm hsz hl hI
  subst hsz
  have hl : lv_has ls 4 [(0, .ref (b a)), (1, .int x1)] := hl
  unfold F_X2_entitledTo at hf
  refine lv_iconst (v := 0) C0.1 C0.2.1 dX2_entitledTo_0 (by decide) ?_
  refine lv_istore_n (lv' := [(2, .int 0), (0, .ref (b a)), (1, .int x1)]) C0.1 C0.2.1 dX2_entitledTo_1 rfl hl (by decide) rfl (fun ls hl => ?_)
  refine lv_iconst (v := 0) C0.1 C0.2.1 dX2_entitledTo_2 (by decide) ?_
  refine lv_istore_n (lv' := [(3, .int 0), (2, .int 0), (0, .ref (b a)), (1, .int x1)]) C0.1 C0.2.1 dX2_entitledTo_3 rfl hl (by decide) rfl (fun ls hl => ?_)
  have L4 : ∀ (k4 : Nat) (x1_4 : Int32) (x2_4 : Int32) (x3_4 : Int32), F_X2_entitledTo_L4 n a M k4 x1_4 x2_4 x3_4 = some r0 → ∀ (H : Heap) (locs : List Loc) (ls : Array Slot), PI g X 372 (shI g r b) b s M H locs → lv_has ls 4 [(0, .ref (b a)), (1, .int x1_4), (2, .int x2_4), (3, .int x3_4)] → W p l e (rmD 1 0 0) s m ([.ref (b a), .int x1] : List Value).toArray below meth c H locs 0 0 (MQ below (Qi g X 372 (shI g r b) b s.heap.size r0 M) ([.ref (b a), .int x1] : List Value).toArray s 0 0 (AA X b 372 s.heap.size)) (F0 m 4 ls []) := by
    intro k4
    induction k4 with
    | zero => intro x1_4 x2_4 x3_4 hf; exact absurd (show (none : Option Int32) = some r0 from hf) (fun h => by cases h)
    | succ k4 ih4 =>
      intro x1_4 x2_4 x3_4 hf H locs ls hI hl
      unfold F_X2_entitledTo_L4 at hf
      refine lv_iload_n C0.1 C0.2.1 dX2_entitledTo_4 rfl (lv_at hl 3 rfl) ?_
      refine lv_aload_n C0.1 C0.2.1 dX2_entitledTo_5 rfl (lv_at hl 0 rfl) ?_
      refine r_get (C := RX2) (T := TX2) (N9 := 12) (ci := 4) C0 C1 hI iX2 rfl a 0 (kdlt1 ha) (by decide) ((shI_1 ha) _) rfl rfl w_186 dX2_entitledTo_6 ?_
      refine lv_icmp_ge (tgt := 33) C0.1 C0.2.1 dX2_entitledTo_9 (by decide) (fun c_4_1 => ?_) (fun c_4_1 => ?_)
      · have hf := (if_pos c_4_1).symm.trans hf
        refine lv_iload_n C0.1 C0.2.1 dX2_entitledTo_33 rfl (lv_at hl 2 rfl) ?_
        exact ee_i C0 hI hr hlocks hf dX2_entitledTo_34
      · have hf := (if_neg c_4_1).symm.trans hf
        refine lv_aload_n C0.1 C0.2.1 dX2_entitledTo_12 rfl (lv_at hl 0 rfl) ?_
        refine lv_iload_n C0.1 C0.2.1 dX2_entitledTo_13 rfl (lv_at hl 1 rfl) ?_
        refine lv_iload_n C0.1 C0.2.1 dX2_entitledTo_14 rfl (lv_at hl 3 rfl) ?_
        obtain ⟨r_4_3, h_4_2, hf⟩ := ob_some hf
        refine k_i C1 hI (q_V C0 C1 hI a (c_X2_entitles l g X r b H.size n M a ha x1_4 x3_4 h_4_2) w_848 w_850 w_35 w_72 w_851 ⟨rfl, rfl⟩ hd_X2_entitles ⟨Nat.le_of_ble_eq_true rfl, Nat.le_of_ble_eq_true rfl⟩ (kdlt1 ha) ((shI_1 ha) _) rfl rfl rfl hl.1 rfl (Nat.le_of_ble_eq_true rfl) dX2_entitledTo_15 ⟨Nat.le_of_ble_eq_true rfl, Nat.le_of_ble_eq_true rfl⟩) (fun H locs hI => ?_)
        refine lv_if_eq (tgt := 27) C0.1 C0.2.1 dX2_entitledTo_18 (by decide) (fun c_4_4 => ?_) (fun c_4_4 => ?_)
        · have hf := (if_pos c_4_4).symm.trans hf
          obtain ⟨x3_4_5, e_4_6⟩ : ∃ z : Int32, z = x3_4 + 1 := ⟨_, rfl⟩
          have hf := lt_at e_4_6 hf
          refine lv_iinc (v := x3_4_5) (lv' := [(3, .int x3_4_5), (0, .ref (b a)), (1, .int x1_4), (2, .int x2_4)]) C0.1 C0.2.1 dX2_entitledTo_27 hl (k := 3) rfl (by rw [e_4_6]; rfl) (by decide) rfl (fun ls hl => ?_)
          refine lv_goto (tgt := 4) C0.1 C0.2.1 dX2_entitledTo_30 (by decide) ?_
          exact ih4 x1_4 x2_4 x3_4_5 hf H locs ls hI (lv_sub hl [1, 2, 3, 0] rfl)
        · have hf := (if_neg c_4_4).symm.trans hf
          refine lv_iload_n C0.1 C0.2.1 dX2_entitledTo_21 rfl (lv_at hl 2 rfl) ?_
          refine lv_iconst (v := 1) C0.1 C0.2.1 dX2_entitledTo_22 (by decide) ?_
          refine lv_iload_n C0.1 C0.2.1 dX2_entitledTo_23 rfl (lv_at hl 3 rfl) ?_
          refine lv_ishl C0.1 C0.2.1 dX2_entitledTo_24 ?_
          refine lv_ior C0.1 C0.2.1 dX2_entitledTo_25 ?_
          refine lv_topi (fun x2_4_7 e_4_8 => ?_)
          have hf := lt_at e_4_8 hf
          refine lv_istore_n (lv' := [(2, .int x2_4_7), (0, .ref (b a)), (1, .int x1_4), (3, .int x3_4)]) C0.1 C0.2.1 dX2_entitledTo_26 rfl hl (by decide) rfl (fun ls hl => ?_)
          obtain ⟨x3_4_9, e_4_10⟩ : ∃ z : Int32, z = x3_4 + 1 := ⟨_, rfl⟩
          have hf := lt_at e_4_10 hf
          refine lv_iinc (v := x3_4_9) (lv' := [(3, .int x3_4_9), (2, .int x2_4_7), (0, .ref (b a)), (1, .int x1_4)]) C0.1 C0.2.1 dX2_entitledTo_27 hl (k := 3) rfl (by rw [e_4_10]; rfl) (by decide) rfl (fun ls hl => ?_)
          refine lv_goto (tgt := 4) C0.1 C0.2.1 dX2_entitledTo_30 (by decide) ?_
          exact ih4 x1_4 x2_4_7 x3_4_9 hf H locs ls hI (lv_sub hl [2, 3, 1, 0] rfl)
  exact L4 n x1 0 0 hf H locs ls hI (lv_sub hl [2, 3, 1, 0] rfl)

def F_X2_refusalWhileListOpen (n : Nat) (a : Nat) (x1 : Int32) (x2 : Int32) (M : Mem) : Option Nat :=
  ob (F_X2_refusalOfPair n a x1 x2 M) (fun r_2 => chk (decide (r_2 < 23) && decide (0 < 23)) ((if r_2 = 0 then ob (F_X2_entitles n a x1 x2 M) (fun r_6 => (if r_6 = 0 then some 9 else chk (inb x1 6) ((if (M (a + 6 + 1 + 4 * ix x1) 9) = 0 then chk (inb x1 6) ((if (M (a + 6 + 1 + 4 * ix x1) 3) = 0 then some 0 else some 15)) else some 14)))) else some r_2)))
theorem hd_X2_refusalWhileListOpen : yX2_refusalWhileListOpen.cls ≠ "java/lang/invoke/MethodHandle" ∧ yX2_refusalWhileListOpen.cls ≠ "java/lang/invoke/VarHandle" ∧ (parseMethodDescriptor yX2_refusalWhileListOpen.desc).map (fun d => d.parameters.length) = some 2 := ⟨by decide +kernel, by decide +kernel, by decide +kernel⟩
set_option maxHeartbeats 4000000 in
set_option maxRecDepth 100000 in
theorem c_X2_refusalWhileListOpen (l : Launch) (g : GG) (X : va_W) (r : Nat → Nat) (b : Nat → Nat) (sz n : Nat) (M : Mem) (a : Nat) (ha : kdI a = 1) (x1 : Int32) (x2 : Int32) {r0 : Nat} (hf : F_X2_refusalWhileListOpen n a x1 x2 M = some r0) : Met l yX2_refusalWhileListOpen (.code yX2_refusalWhileListOpen cX2_refusalWhileListOpen 4 (some (.object "FrogParliament$Refusal")) :: LWg) (rmD 2 0 0) (va_Pc [.ref (b a), .int x1, .int x2] (PreP g X 372 (shI g r b) b sz M)) (Qe g X 372 (shI g r b) b sz r0 M) 0 0 (AA X b 372 sz) := by
  refine met_go (by decide +kernel) rfl (Nat.le_of_ble_eq_true rfl) ?_
  intro p e s m below meth c ls H locs C0 C1 hr hlocks hnm hsz hl hI
  subst hsz
  have hl : lv_has ls 4 [(0, .ref (b a)), (1, .int x1), (2, .int x2)] := hl
  unfold F_X2_refusalWhileListOpen at hf
  refine lv_aload_n C0.1 C0.2.1 dX2_refusalWhileListOpen_0 rfl (lv_at hl 0 rfl) ?_
  refine lv_iload_n C0.1 C0.2.1 dX2_refusalWhileListOpen_1 rfl (lv_at hl 1 rfl) ?_
  refine lv_iload_n C0.1 C0.2.1 dX2_refusalWhileListOpen_2 rfl (lv_at hl 2 rfl) ?_
  obtain ⟨r_2, h_1, hf⟩ := ob_some hf
  refine k_e C1 hI (q_V C0 C1 hI a (c_X2_refusalOfPair l g X r b H.size n M a ha x1 x2 h_1) w_844 w_846 w_34 w_72 w_847 ⟨rfl, rfl⟩ hd_X2_refusalOfPair ⟨Nat.le_of_ble_eq_true rfl, Nat.le_of_ble_eq_true rfl⟩ (kdlt1 ha) ((shI_1 ha) _) rfl rfl rfl hl.1 rfl (Nat.le_of_ble_eq_true rfl) dX2_refusalWhileListOpen_3 ⟨Nat.le_of_ble_eq_true rfl, Nat.le_of_ble_eq_true rfl⟩) (fun H locs hI => ?_)
  refine lv_astore_n (lv' := [(3, .ref (g.2.2 0 r_2)), (0, .ref (b a)), (1, .int x1), (2, .int x2)]) C0.1 C0.2.1 dX2_refusalWhileListOpen_6 rfl hl (by decide) rfl (fun ls hl => ?_)
  refine lv_aload_n C0.1 C0.2.1 dX2_refusalWhileListOpen_7 rfl (lv_at hl 0 rfl) ?_
  refine r_refu C0 C1 hI 0 (by decide) (n := "NOTHING") rfl w_599 dX2_refusalWhileListOpen_8 ?_
  obtain ⟨h_4, hf⟩ := chk_some hf
  have h_4 := (Bool.and_eq_true _ _ ▸ h_4)
  have h_4 := refu_inj C1 (of_decide_eq_true h_4.1) (of_decide_eq_true h_4.2)
  refine lv_acmp_eq (rx := some (g.2.2 0 r_2)) (ry := some (g.2.2 0 0)) (tgt := 16) C0.1 C0.2.1 dX2_refusalWhileListOpen_11 (by decide) (fun c_3 => ?_) (fun c_3 => ?_)
  · have hf := (if_pos (h_4.mp c_3)).symm.trans hf
    refine lv_aload_n C0.1 C0.2.1 dX2_refusalWhileListOpen_16 rfl (lv_at hl 1 rfl) ?_
    refine lv_iload_n C0.1 C0.2.1 dX2_refusalWhileListOpen_17 rfl (lv_at hl 2 rfl) ?_
    refine lv_iload_n C0.1 C0.2.1 dX2_refusalWhileListOpen_18 rfl (lv_at hl 3 rfl) ?_
    obtain ⟨r_6, h_5, hf⟩ := ob_some hf
    refine k_i C1 hI (q_V C0 C1 hI a (c_X2_entitles l g X r b H.size n M a ha x1 x2 h_5) w_848 w_850 w_35 w_72 w_851 ⟨rfl, rfl⟩ hd_X2_entitles ⟨Nat.le_of_ble_eq_true rfl, Nat.le_of_ble_eq_true rfl⟩ (kdlt1 ha) ((shI_1 ha) _) rfl rfl rfl hl.1 rfl (Nat.le_of_ble_eq_true rfl) dX2_refusalWhileListOpen_19 ⟨Nat.le_of_ble_eq_true rfl, Nat.le_of_ble_eq_true rfl⟩) (fun H locs hI => ?_)
    refine lv_if_ne (tgt := 29) C0.1 C0.2.1 dX2_refusalWhileListOpen_22 (by decide) (fun c_7 => ?_) (fun c_7 => ?_)
    · have hf := (if_neg c_7).symm.trans hf
      refine lv_aload_n C0.1 C0.2.1 dX2_refusalWhileListOpen_29 rfl (lv_at hl 1 rfl) ?_
      refine r_get (C := RX2) (T := TX2) (N9 := 12) (ci := 4) C0 C1 hI iX2 rfl a 9 (kdlt1 ha) (by decide) ((shI_1 ha) _) rfl rfl w_203 dX2_refusalWhileListOpen_30 ?_
      refine lv_iload_n C0.1 C0.2.1 dX2_refusalWhileListOpen_33 rfl (lv_at hl 2 rfl) ?_
      obtain ⟨h_8, hf⟩ := chk_some hf
      refine r_aald (t0 := 1) C0 C1 hI (a + 6) (kdlt4 (kd1_6 ha)) (shI_4 (kd1_6 ha)) rfl h_8 rfl dX2_refusalWhileListOpen_34 ?_
      refine r_getN (C := RX6) (T := TX6) (N9 := 12) (ci := 8) C0 C1 hI iX6 rfl (a + 6 + 1 + 4 * ix x1) 9 (kdlt5 (kd4_i (kd1_6 ha) h_8)) (by decide) ((shI_5 (kd4_i (kd1_6 ha) h_8)) _) rfl rfl 15 rfl dX2_refusalWhileListOpen_35 ?_
      refine lv_if_eq (tgt := 45) C0.1 C0.2.1 dX2_refusalWhileListOpen_38 (by decide) (fun c_9 => ?_) (fun c_9 => ?_)
      · have hf := (if_pos c_9).symm.trans hf
        refine lv_aload_n C0.1 C0.2.1 dX2_refusalWhileListOpen_45 rfl (lv_at hl 1 rfl) ?_
        refine r_get (C := RX2) (T := TX2) (N9 := 12) (ci := 4) C0 C1 hI iX2 rfl a 9 (kdlt1 ha) (by decide) ((shI_1 ha) _) rfl rfl w_203 dX2_refusalWhileListOpen_46 ?_
        refine lv_iload_n C0.1 C0.2.1 dX2_refusalWhileListOpen_49 rfl (lv_at hl 2 rfl) ?_
        obtain ⟨h_10, hf⟩ := chk_some hf
        refine r_aald (t0 := 1) C0 C1 hI (a + 6) (kdlt4 (kd1_6 ha)) (shI_4 (kd1_6 ha)) rfl h_10 rfl dX2_refusalWhileListOpen_50 ?_
        refine r_getN (C := RX6) (T := TX6) (N9 := 12) (ci := 8) C0 C1 hI iX6 rfl (a + 6 + 1 + 4 * ix x1) 3 (kdlt5 (kd4_i (kd1_6 ha) h_10)) (by decide) ((shI_5 (kd4_i (kd1_6 ha) h_10)) _) rfl rfl 5 rfl dX2_refusalWhileListOpen_51 ?_
        refine lv_if_eq (tgt := 63) C0.1 C0.2.1 dX2_refusalWhileListOpen_54 (by decide) (fun c_11 => ?_) (fun c_11 => ?_)
        · have hf := (if_pos c_11).symm.trans hf
          refine r_refu C0 C1 hI 0 (by decide) (n := "NOTHING") rfl w_599 dX2_refusalWhileListOpen_63 ?_
          exact ee_e C0 hI hr hlocks hf dX2_refusalWhileListOpen_66
        · have hf := (if_neg c_11).symm.trans hf
          refine r_refu C0 C1 hI 15 (by decide) (n := "LIST_CLOSED") rfl w_856 dX2_refusalWhileListOpen_57 ?_
          refine lv_goto (tgt := 66) C0.1 C0.2.1 dX2_refusalWhileListOpen_60 (by decide) ?_
          exact ee_e C0 hI hr hlocks hf dX2_refusalWhileListOpen_66
      · have hf := (if_neg c_9).symm.trans hf
        refine r_refu C0 C1 hI 14 (by decide) (n := "DECIDED") rfl w_854 dX2_refusalWhileListOpen_41 ?_
        exact ee_e C0 hI hr hlocks hf dX2_refusalWhileListOpen_44
    · have hf := (if_pos c_7).symm.trans hf
      refine r_refu C0 C1 hI 9 (by decide) (n := "NOT_ENTITLED") rfl w_852 dX2_refusalWhileListOpen_25 ?_
      exact ee_e C0 hI hr hlocks hf dX2_refusalWhileListOpen_28
  · have hf := (if_neg (fun z => c_3 (h_4.mpr z))).symm.trans hf
    refine lv_aload_n C0.1 C0.2.1 dX2_refusalWhileListOpen_14 rfl (lv_at hl 0 rfl) ?_
    exact ee_e C0 hI hr hlocks hf dX2_refusalWhileListOpen_15

def F_X6_placeOf_L2 (n : Nat) (a : Nat) (M : Mem) : Nat → Int32 → Int32 → Option Int32
  | 0, _, _ => none
  | k2 + 1, x1_2, x2_2 =>
    (if (M a 2) ≤ x2_2 then some (-1) else chk (inb x2_2 12) ((if (M (a + 1) (ix x2_2)) = x1_2 then some x2_2 else lt' (x2_2 + 1) (fun x2_2_4 => F_X6_placeOf_L2 n a M k2 x1_2 x2_2_4))))
def F_X6_placeOf (n : Nat) (a : Nat) (x1 : Int32) (M : Mem) : Option Int32 :=
  F_X6_placeOf_L2 n a M n x1 0
theorem hd_X6_placeOf : yX6_placeOf.cls ≠ "java/lang/invoke/MethodHandle" ∧ yX6_placeOf.cls ≠ "java/lang/invoke/VarHandle" ∧ (parseMethodDescriptor yX6_placeOf.desc).map (fun d => d.parameters.length) = some 1 := ⟨by decide +kernel, by decide +kernel, by decide +kernel⟩
set_option maxHeartbeats 4000000 in
set_option maxRecDepth 100000 in
theorem c_X6_placeOf (l : Launch) (g : GG) (X : va_W) (r : Nat → Nat) (b : Nat → Nat) (sz n : Nat) (M : Mem) (a : Nat) (ha : kdI a = 5) (x1 : Int32) {r0 : Int32} (hf : F_X6_placeOf n a x1 M = some r0) : Met l yX6_placeOf (.code yX6_placeOf cX6_placeOf 3 (some .int) :: LWg) (rmD 0 0 0) (va_Pc [.ref (b a), .int x1] (PreP g X 372 (shI g r b) b sz M)) (Qi g X 372 (shI g r b) b sz r0 M) 0 0 (AA X b 372 sz) := by
  refine met_go (by decide +kernel) rfl (Nat.le_of_ble_eq_true rfl) ?_
  intro p e s m below meth c ls H locs C0 C1 hr hlocks hnm hsz hl hI
  subst hsz
  have hl : lv_has ls 3 [(0, .ref (b a)), (1, .int x1)] := hl
  unfold F_X6_placeOf at hf
  refine lv_iconst (v := 0) C0.1 C0.2.1 dX6_placeOf_0 (by decide) ?_
  refine lv_istore_n (lv' := [(2, .int 0), (0, .ref (b a)), (1, .int x1)]) C0.1 C0.2.1 dX6_placeOf_1 rfl hl (by decide) rfl (fun ls hl => ?_)
  have L2 : ∀ (k2 : Nat) (x1_2 : Int32) (x2_2 : Int32), F_X6_placeOf_L2 n a M k2 x1_2 x2_2 = some r0 → ∀ (H : Heap) (locs : List Loc) (ls : Array Slot), PI g X 372 (shI g r b) b s M H locs → lv_has ls 3 [(0, .ref (b a)), (1, .int x1_2), (2, .int x2_2)] → W p l e (rmD 0 0 0) s m ([.ref (b a), .int x1] : List Value).toArray below meth c H locs 0 0 (MQ below (Qi g X 372 (shI g r b) b s.heap.size r0 M) ([.ref (b a), .int x1] : List Value).toArray s 0 0 (AA X b 372 s.heap.size)) (F0 m 2 ls []) := by
    intro k2
    induction k2 with
    | zero => intro x1_2 x2_2 hf; exact absurd (show (none : Option Int32) = some r0 from hf) (fun h => by cases h)
    | succ k2 ih2 =>
      intro x1_2 x2_2 hf H locs ls hI hl
      unfold F_X6_placeOf_L2 at hf
      refine lv_iload_n C0.1 C0.2.1 dX6_placeOf_2 rfl (lv_at hl 2 rfl) ?_
      refine lv_aload_n C0.1 C0.2.1 dX6_placeOf_3 rfl (lv_at hl 0 rfl) ?_
      refine r_get (C := RX6) (T := TX6) (N9 := 12) (ci := 8) C0 C1 hI iX6 rfl a 2 (kdlt5 ha) (by decide) ((shI_5 ha) _) rfl rfl w_132 dX6_placeOf_4 ?_
      refine lv_icmp_ge (tgt := 28) C0.1 C0.2.1 dX6_placeOf_7 (by decide) (fun c_2_1 => ?_) (fun c_2_1 => ?_)
      · have hf := (if_pos c_2_1).symm.trans hf
        refine lv_iconst (v := (-1)) C0.1 C0.2.1 dX6_placeOf_28 (by decide) ?_
        exact ee_i C0 hI hr hlocks hf dX6_placeOf_29
      · have hf := (if_neg c_2_1).symm.trans hf
        refine lv_aload_n C0.1 C0.2.1 dX6_placeOf_10 rfl (lv_at hl 0 rfl) ?_
        refine r_get (C := RX6) (T := TX6) (N9 := 12) (ci := 8) C0 C1 hI iX6 rfl a 1 (kdlt5 ha) (by decide) ((shI_5 ha) _) rfl rfl w_129 dX6_placeOf_11 ?_
        refine lv_iload_n C0.1 C0.2.1 dX6_placeOf_14 rfl (lv_at hl 2 rfl) ?_
        obtain ⟨h_2_2, hf⟩ := chk_some hf
        refine r_iald C0 C1 hI (a + 1) (kdlt2 (kd5_1 ha)) (shI_2 (kd5_1 ha)) h_2_2 dX6_placeOf_15 ?_
        refine lv_iload_n C0.1 C0.2.1 dX6_placeOf_16 rfl (lv_at hl 1 rfl) ?_
        refine lv_icmp_ne (tgt := 22) C0.1 C0.2.1 dX6_placeOf_17 (by decide) (fun c_2_3 => ?_) (fun c_2_3 => ?_)
        · have hf := (if_neg c_2_3).symm.trans hf
          obtain ⟨x2_2_4, e_2_5⟩ : ∃ z : Int32, z = x2_2 + 1 := ⟨_, rfl⟩
          have hf := lt_at e_2_5 hf
          refine lv_iinc (v := x2_2_4) (lv' := [(2, .int x2_2_4), (0, .ref (b a)), (1, .int x1_2)]) C0.1 C0.2.1 dX6_placeOf_22 hl (k := 2) rfl (by rw [e_2_5]; rfl) (by decide) rfl (fun ls hl => ?_)
          refine lv_goto (tgt := 2) C0.1 C0.2.1 dX6_placeOf_25 (by decide) ?_
          exact ih2 x1_2 x2_2_4 hf H locs ls hI (lv_sub hl [1, 2, 0] rfl)
        · have hf := (if_pos c_2_3).symm.trans hf
          refine lv_iload_n C0.1 C0.2.1 dX6_placeOf_20 rfl (lv_at hl 2 rfl) ?_
          exact ee_i C0 hI hr hlocks hf dX6_placeOf_21
  exact L2 n x1 0 hf H locs ls hI (lv_sub hl [1, 2, 0] rfl)

def F_X2_refusalToEnlist (n : Nat) (a : Nat) (x1 : Int32) (x2 : Int32) (M : Mem) : Option Nat :=
  ob (F_X2_refusalWhileListOpen n a x1 x2 M) (fun r_2 => chk (decide (r_2 < 23) && decide (0 < 23)) ((if r_2 = 0 then chk (inb x1 6) (ob (F_X6_placeOf n (a + 6 + 1 + 4 * ix x1) x2 M) (fun r_7 => (if r_7 = (-1) then some 0 else some 18))) else some r_2)))
theorem hd_X2_refusalToEnlist : yX2_refusalToEnlist.cls ≠ "java/lang/invoke/MethodHandle" ∧ yX2_refusalToEnlist.cls ≠ "java/lang/invoke/VarHandle" ∧ (parseMethodDescriptor yX2_refusalToEnlist.desc).map (fun d => d.parameters.length) = some 2 := ⟨by decide +kernel, by decide +kernel, by decide +kernel⟩
set_option maxHeartbeats 4000000 in
set_option maxRecDepth 100000 in
theorem c_X2_refusalToEnlist (l : Launch) (g : GG) (X : va_W) (r : Nat → Nat) (b : Nat → Nat) (sz n : Nat) (M : Mem) (a : Nat) (ha : kdI a = 1) (x1 : Int32) (x2 : Int32) {r0 : Nat} (hf : F_X2_refusalToEnlist n a x1 x2 M = some r0) : Met l yX2_refusalToEnlist (.code yX2_refusalToEnlist cX2_refusalToEnlist 4 (some (.object "FrogParliament$Refusal")) :: LWg) (rmD 3 0 0) (va_Pc [.ref (b a), .int x1, .int x2] (PreP g X 372 (shI g r b) b sz M)) (Qe g X 372 (shI g r b) b sz r0 M) 0 0 (AA X b 372 sz) := by
  refine met_go (by decide +kernel) rfl (Nat.le_of_ble_eq_true rfl) ?_
  intro p e s m below meth c ls H locs C0 C1 hr hlocks hnm hsz hl hI
  subst hsz
  have hl : lv_has ls 4 [(0, .ref (b a)), (1, .int x1), (2, .int x2)] := hl
  unfold F_X2_refusalToEnlist at hf
  refine lv_aload_n C0.1 C0.2.1 dX2_refusalToEnlist_0 rfl (lv_at hl 0 rfl) ?_
  refine lv_iload_n C0.1 C0.2.1 dX2_refusalToEnlist_1 rfl (lv_at hl 1 rfl) ?_
  refine lv_iload_n C0.1 C0.2.1 dX2_refusalToEnlist_2 rfl (lv_at hl 2 rfl) ?_
  obtain ⟨r_2, h_1, hf⟩ := ob_some hf
  refine k_e C1 hI (q_V C0 C1 hI a (c_X2_refusalWhileListOpen l g X r b H.size n M a ha x1 x2 h_1) w_840 w_842 w_33 w_72 w_843 ⟨rfl, rfl⟩ hd_X2_refusalWhileListOpen ⟨Nat.le_of_ble_eq_true rfl, Nat.le_of_ble_eq_true rfl⟩ (kdlt1 ha) ((shI_1 ha) _) rfl rfl rfl hl.1 rfl (Nat.le_of_ble_eq_true rfl) dX2_refusalToEnlist_3 ⟨Nat.le_of_ble_eq_true rfl, Nat.le_of_ble_eq_true rfl⟩) (fun H locs hI => ?_)
  refine lv_astore_n (lv' := [(3, .ref (g.2.2 0 r_2)), (0, .ref (b a)), (1, .int x1), (2, .int x2)]) C0.1 C0.2.1 dX2_refusalToEnlist_6 rfl hl (by decide) rfl (fun ls hl => ?_)
  refine lv_aload_n C0.1 C0.2.1 dX2_refusalToEnlist_7 rfl (lv_at hl 0 rfl) ?_
  refine r_refu C0 C1 hI 0 (by decide) (n := "NOTHING") rfl w_599 dX2_refusalToEnlist_8 ?_
  obtain ⟨h_4, hf⟩ := chk_some hf
  have h_4 := (Bool.and_eq_true _ _ ▸ h_4)
  have h_4 := refu_inj C1 (of_decide_eq_true h_4.1) (of_decide_eq_true h_4.2)
  refine lv_acmp_eq (rx := some (g.2.2 0 r_2)) (ry := some (g.2.2 0 0)) (tgt := 16) C0.1 C0.2.1 dX2_refusalToEnlist_11 (by decide) (fun c_3 => ?_) (fun c_3 => ?_)
  · have hf := (if_pos (h_4.mp c_3)).symm.trans hf
    refine lv_aload_n C0.1 C0.2.1 dX2_refusalToEnlist_16 rfl (lv_at hl 1 rfl) ?_
    refine r_get (C := RX2) (T := TX2) (N9 := 12) (ci := 4) C0 C1 hI iX2 rfl a 9 (kdlt1 ha) (by decide) ((shI_1 ha) _) rfl rfl w_203 dX2_refusalToEnlist_17 ?_
    refine lv_iload_n C0.1 C0.2.1 dX2_refusalToEnlist_20 rfl (lv_at hl 2 rfl) ?_
    obtain ⟨h_5, hf⟩ := chk_some hf
    refine r_aald (t0 := 1) C0 C1 hI (a + 6) (kdlt4 (kd1_6 ha)) (shI_4 (kd1_6 ha)) rfl h_5 rfl dX2_refusalToEnlist_21 ?_
    refine lv_iload_n C0.1 C0.2.1 dX2_refusalToEnlist_22 rfl (lv_at hl 3 rfl) ?_
    obtain ⟨r_7, h_6, hf⟩ := ob_some hf
    refine k_i C1 hI (q_VN C0 C1 hI (a + 6 + 1 + 4 * ix x1) (c_X6_placeOf l g X r b H.size n M (a + 6 + 1 + 4 * ix x1) (kd4_i (kd1_6 ha) h_5) x2 h_6) 31 rfl w_860 w_36 w_73 w_861 ⟨rfl, rfl⟩ hd_X6_placeOf ⟨Nat.le_of_ble_eq_true rfl, Nat.le_of_ble_eq_true rfl⟩ (kdlt5 (kd4_i (kd1_6 ha) h_5)) ((shI_5 (kd4_i (kd1_6 ha) h_5)) _) rfl rfl rfl hl.1 rfl (Nat.le_of_ble_eq_true rfl) dX2_refusalToEnlist_23 ⟨Nat.le_of_ble_eq_true rfl, Nat.le_of_ble_eq_true rfl⟩) (fun H locs hI => ?_)
    refine lv_iconst (v := (-1)) C0.1 C0.2.1 dX2_refusalToEnlist_26 (by decide) ?_
    refine lv_icmp_ne (tgt := 36) C0.1 C0.2.1 dX2_refusalToEnlist_27 (by decide) (fun c_8 => ?_) (fun c_8 => ?_)
    · have hf := (if_neg c_8).symm.trans hf
      refine r_refu C0 C1 hI 18 (by decide) (n := "ON_LIST") rfl w_862 dX2_refusalToEnlist_36 ?_
      exact ee_e C0 hI hr hlocks hf dX2_refusalToEnlist_39
    · have hf := (if_pos c_8).symm.trans hf
      refine r_refu C0 C1 hI 0 (by decide) (n := "NOTHING") rfl w_599 dX2_refusalToEnlist_30 ?_
      refine lv_goto (tgt := 39) C0.1 C0.2.1 dX2_refusalToEnlist_33 (by decide) ?_
      exact ee_e C0 hI hr hlocks hf dX2_refusalToEnlist_39
  · have hf := (if_neg (fun z => c_3 (h_4.mpr z))).symm.trans hf
    refine lv_aload_n C0.1 C0.2.1 dX2_refusalToEnlist_14 rfl (lv_at hl 0 rfl) ?_
    exact ee_e C0 hI hr hlocks hf dX2_refusalToEnlist_15

def F_X6_addToList (n : Nat) (a : Nat) (x1 : Int32) (M : Mem) : Option Mem :=
  (if 12 ≤ (M a 2) then some M else chk (inb (M a 2) 12) (lt' (up2 M (a + 1) (ix (M a 2)) x1) (fun M_5 => lt' (up2 M_5 a 2 ((M_5 a 2) + 1)) (fun M_7 => some M_7))))
theorem hd_X6_addToList : yX6_addToList.cls ≠ "java/lang/invoke/MethodHandle" ∧ yX6_addToList.cls ≠ "java/lang/invoke/VarHandle" ∧ (parseMethodDescriptor yX6_addToList.desc).map (fun d => d.parameters.length) = some 1 := ⟨by decide +kernel, by decide +kernel, by decide +kernel⟩
set_option maxHeartbeats 4000000 in
set_option maxRecDepth 100000 in
theorem c_X6_addToList (l : Launch) (g : GG) (X : va_W) (r : Nat → Nat) (b : Nat → Nat) (sz n : Nat) (M : Mem) (a : Nat) (ha : kdI a = 5) (x1 : Int32)  {M' : Mem} (hf : F_X6_addToList n a x1 M = some M') : Met l yX6_addToList (.code yX6_addToList cX6_addToList 2 none :: LWg) (rmD 0 0 0) (va_Pc [.ref (b a), .int x1] (PreP g X 372 (shI g r b) b sz M)) (Qv g X 372 (shI g r b) b sz M') 0 0 (AA X b 372 sz) := by
  refine met_go (by decide +kernel) rfl (Nat.le_of_ble_eq_true rfl) ?_
  intro p e s m below meth c ls H locs C0 C1 hr hlocks hnm hsz hl hI
  subst hsz
  have hl : lv_has ls 2 [(0, .ref (b a)), (1, .int x1)] := hl
  unfold F_X6_addToList at hf
  refine lv_aload_n C0.1 C0.2.1 dX6_addToList_0 rfl (lv_at hl 0 rfl) ?_
  refine r_get (C := RX6) (T := TX6) (N9 := 12) (ci := 8) C0 C1 hI iX6 rfl a 2 (kdlt5 ha) (by decide) ((shI_5 ha) _) rfl rfl w_132 dX6_addToList_1 ?_
  refine lv_bipush (v := 12) C0.1 C0.2.1 dX6_addToList_4 (by decide) ?_
  refine lv_icmp_ge (tgt := 29) C0.1 C0.2.1 dX6_addToList_6 (by decide) (fun c_1 => ?_) (fun c_1 => ?_)
  · have hf := (if_pos c_1).symm.trans hf
    exact ee_vm C0 hI hr hlocks hf dX6_addToList_29
  · have hf := (if_neg c_1).symm.trans hf
    refine lv_aload_n C0.1 C0.2.1 dX6_addToList_9 rfl (lv_at hl 0 rfl) ?_
    refine r_get (C := RX6) (T := TX6) (N9 := 12) (ci := 8) C0 C1 hI iX6 rfl a 1 (kdlt5 ha) (by decide) ((shI_5 ha) _) rfl rfl w_129 dX6_addToList_10 ?_
    refine lv_aload_n C0.1 C0.2.1 dX6_addToList_13 rfl (lv_at hl 0 rfl) ?_
    refine r_get (C := RX6) (T := TX6) (N9 := 12) (ci := 8) C0 C1 hI iX6 rfl a 2 (kdlt5 ha) (by decide) ((shI_5 ha) _) rfl rfl w_132 dX6_addToList_14 ?_
    refine lv_iload_n C0.1 C0.2.1 dX6_addToList_17 rfl (lv_at hl 1 rfl) ?_
    obtain ⟨h_2, hf⟩ := chk_some hf
    refine r_iast C0 C1 hI (a + 1) (kdlt2 (kd5_1 ha)) (shI_2 (kd5_1 ha)) h_2 dX6_addToList_18 (fun H locs hI => ?_)
    obtain ⟨M_5, e_6⟩ : ∃ z : Mem, z = up2 M (a + 1) (ix (M a 2)) x1 := ⟨_, rfl⟩
    rw [← e_6] at hI
    have hf := lt_at e_6 hf
    refine lv_aload_n C0.1 C0.2.1 dX6_addToList_19 rfl (lv_at hl 0 rfl) ?_
    refine lv_dup C0.1 C0.2.1 dX6_addToList_20 rfl ?_
    refine r_get (C := RX6) (T := TX6) (N9 := 12) (ci := 8) C0 C1 hI iX6 rfl a 2 (kdlt5 ha) (by decide) ((shI_5 ha) _) rfl rfl w_132 dX6_addToList_21 ?_
    refine lv_iconst (v := 1) C0.1 C0.2.1 dX6_addToList_24 (by decide) ?_
    refine lv_iadd C0.1 C0.2.1 dX6_addToList_25 ?_
    refine r_put (C := RX6) (T := TX6) (N9 := 12) (ci := 8) (fs := fMo b a) (ty := .int) C0 C1 hI iX6 tyX6 tyX6_ok nmX6 rfl a 2 (kdlt5 ha) (by decide) (shI_5 ha) rfl rfl rfl (by decide +kernel) ⟨rfl, rfl⟩ (Nat.le_of_ble_eq_true rfl) w_132 dX6_addToList_26 (fun H locs hI => ?_)
    obtain ⟨M_7, e_8⟩ : ∃ z : Mem, z = up2 M_5 a 2 ((M_5 a 2) + 1) := ⟨_, rfl⟩
    rw [← e_8] at hI
    have hf := lt_at e_8 hf
    exact ee_vm C0 hI hr hlocks hf dX6_addToList_29

def F_X2_enlist (n : Nat) (a : Nat) (x1 : Int32) (x2 : Int32) (M : Mem) : Option (Int32 × Mem) :=
  chk (inb x1 6) (ob (F_X6_addToList n (a + 6 + 1 + 4 * ix x1) x2 M) (fun M_3 => some (M_3 (a + 6 + 1 + 4 * ix x1) 2, M_3)))
theorem hd_X2_enlist : yX2_enlist.cls ≠ "java/lang/invoke/MethodHandle" ∧ yX2_enlist.cls ≠ "java/lang/invoke/VarHandle" ∧ (parseMethodDescriptor yX2_enlist.desc).map (fun d => d.parameters.length) = some 2 := ⟨by decide +kernel, by decide +kernel, by decide +kernel⟩
set_option maxHeartbeats 4000000 in
set_option maxRecDepth 100000 in
theorem c_X2_enlist (l : Launch) (g : GG) (X : va_W) (r : Nat → Nat) (b : Nat → Nat) (sz n : Nat) (M : Mem) (a : Nat) (ha : kdI a = 1) (x1 : Int32) (x2 : Int32) {r0 : Int32} {M' : Mem} (hf : F_X2_enlist n a x1 x2 M = some (r0, M')) : Met l yX2_enlist (.code yX2_enlist cX2_enlist 4 (some .int) :: LWg) (rmD 1 0 0) (va_Pc [.ref (b a), .int x1, .int x2] (PreP g X 372 (shI g r b) b sz M)) (Qi g X 372 (shI g r b) b sz r0 M') 0 0 (AA X b 372 sz) := by
  refine met_go (by decide +kernel) rfl (Nat.le_of_ble_eq_true rfl) ?_
  intro p e s m below meth c ls H locs C0 C1 hr hlocks hnm hsz hl hI
  subst hsz
  have hl : lv_has ls 4 [(0, .ref (b a)), (1, .int x1), (2, .int x2)] := hl
  unfold F_X2_enlist at hf
  refine lv_aload_n C0.1 C0.2.1 dX2_enlist_0 rfl (lv_at hl 0 rfl) ?_
  refine r_get (C := RX2) (T := TX2) (N9 := 12) (ci := 4) C0 C1 hI iX2 rfl a 9 (kdlt1 ha) (by decide) ((shI_1 ha) _) rfl rfl w_203 dX2_enlist_1 ?_
  refine lv_iload_n C0.1 C0.2.1 dX2_enlist_4 rfl (lv_at hl 1 rfl) ?_
  obtain ⟨h_1, hf⟩ := chk_some hf
  refine r_aald (t0 := 1) C0 C1 hI (a + 6) (kdlt4 (kd1_6 ha)) (shI_4 (kd1_6 ha)) rfl h_1 rfl dX2_enlist_5 ?_
  refine lv_astore_n (lv' := [(3, .ref (b (a + 6 + 1 + 4 * ix x1))), (0, .ref (b a)), (1, .int x1), (2, .int x2)]) C0.1 C0.2.1 dX2_enlist_6 rfl hl (by decide) rfl (fun ls hl => ?_)
  refine lv_aload_n C0.1 C0.2.1 dX2_enlist_7 rfl (lv_at hl 0 rfl) ?_
  refine lv_iload_n C0.1 C0.2.1 dX2_enlist_8 rfl (lv_at hl 3 rfl) ?_
  obtain ⟨M_3, h_2, hf⟩ := ob_some hf
  refine k_v C1 hI (q_VN C0 C1 hI (a + 6 + 1 + 4 * ix x1) (c_X6_addToList l g X r b H.size n M (a + 6 + 1 + 4 * ix x1) (kd4_i (kd1_6 ha) h_1) x2 h_2) 33 rfl w_870 w_38 w_73 w_871 ⟨rfl, rfl⟩ hd_X6_addToList ⟨Nat.le_of_ble_eq_true rfl, Nat.le_of_ble_eq_true rfl⟩ (kdlt5 (kd4_i (kd1_6 ha) h_1)) ((shI_5 (kd4_i (kd1_6 ha) h_1)) _) rfl rfl rfl hl.1 rfl (Nat.le_of_ble_eq_true rfl) dX2_enlist_9 ⟨Nat.le_of_ble_eq_true rfl, Nat.le_of_ble_eq_true rfl⟩) (fun H locs hI => ?_)
  refine lv_aload_n C0.1 C0.2.1 dX2_enlist_12 rfl (lv_at hl 0 rfl) ?_
  refine r_getN (C := RX6) (T := TX6) (N9 := 12) (ci := 8) C0 C1 hI iX6 rfl (a + 6 + 1 + 4 * ix x1) 2 (kdlt5 (kd4_i (kd1_6 ha) h_1)) (by decide) ((shI_5 (kd4_i (kd1_6 ha) h_1)) _) rfl rfl 4 rfl dX2_enlist_13 ?_
  exact ee_im C0 hI hr hlocks hf dX2_enlist_16

def F_X2_refusalToUnlist (n : Nat) (a : Nat) (x1 : Int32) (x2 : Int32) (M : Mem) : Option Nat :=
  ob (F_X2_refusalOfPair n a x1 x2 M) (fun r_2 => chk (decide (r_2 < 23) && decide (0 < 23)) ((if r_2 = 0 then chk (inb x1 6) (ob (F_X6_placeOf n (a + 6 + 1 + 4 * ix x1) x2 M) (fun r_7 => (if r_7 = (-1) then some 21 else some 0))) else some r_2)))
theorem hd_X2_refusalToUnlist : yX2_refusalToUnlist.cls ≠ "java/lang/invoke/MethodHandle" ∧ yX2_refusalToUnlist.cls ≠ "java/lang/invoke/VarHandle" ∧ (parseMethodDescriptor yX2_refusalToUnlist.desc).map (fun d => d.parameters.length) = some 2 := ⟨by decide +kernel, by decide +kernel, by decide +kernel⟩
set_option maxHeartbeats 4000000 in
set_option maxRecDepth 100000 in
theorem c_X2_refusalToUnlist (l : Launch) (g : GG) (X : va_W) (r : Nat → Nat) (b : Nat → Nat) (sz n : Nat) (M : Mem) (a : Nat) (ha : kdI a = 1) (x1 : Int32) (x2 : Int32) {r0 : Nat} (hf : F_X2_refusalToUnlist n a x1 x2 M = some r0) : Met l yX2_refusalToUnlist (.code yX2_refusalToUnlist cX2_refusalToUnlist 4 (some (.object "FrogParliament$Refusal")) :: LWg) (rmD 2 0 0) (va_Pc [.ref (b a), .int x1, .int x2] (PreP g X 372 (shI g r b) b sz M)) (Qe g X 372 (shI g r b) b sz r0 M) 0 0 (AA X b 372 sz) := by
  refine met_go (by decide +kernel) rfl (Nat.le_of_ble_eq_true rfl) ?_
  intro p e s m below meth c ls H locs C0 C1 hr hlocks hnm hsz hl hI
  subst hsz
  have hl : lv_has ls 4 [(0, .ref (b a)), (1, .int x1), (2, .int x2)] := hl
  unfold F_X2_refusalToUnlist at hf
  refine lv_aload_n C0.1 C0.2.1 dX2_refusalToUnlist_0 rfl (lv_at hl 0 rfl) ?_
  refine lv_iload_n C0.1 C0.2.1 dX2_refusalToUnlist_1 rfl (lv_at hl 1 rfl) ?_
  refine lv_iload_n C0.1 C0.2.1 dX2_refusalToUnlist_2 rfl (lv_at hl 2 rfl) ?_
  obtain ⟨r_2, h_1, hf⟩ := ob_some hf
  refine k_e C1 hI (q_V C0 C1 hI a (c_X2_refusalOfPair l g X r b H.size n M a ha x1 x2 h_1) w_844 w_846 w_34 w_72 w_847 ⟨rfl, rfl⟩ hd_X2_refusalOfPair ⟨Nat.le_of_ble_eq_true rfl, Nat.le_of_ble_eq_true rfl⟩ (kdlt1 ha) ((shI_1 ha) _) rfl rfl rfl hl.1 rfl (Nat.le_of_ble_eq_true rfl) dX2_refusalToUnlist_3 ⟨Nat.le_of_ble_eq_true rfl, Nat.le_of_ble_eq_true rfl⟩) (fun H locs hI => ?_)
  refine lv_astore_n (lv' := [(3, .ref (g.2.2 0 r_2)), (0, .ref (b a)), (1, .int x1), (2, .int x2)]) C0.1 C0.2.1 dX2_refusalToUnlist_6 rfl hl (by decide) rfl (fun ls hl => ?_)
  refine lv_aload_n C0.1 C0.2.1 dX2_refusalToUnlist_7 rfl (lv_at hl 0 rfl) ?_
  refine r_refu C0 C1 hI 0 (by decide) (n := "NOTHING") rfl w_599 dX2_refusalToUnlist_8 ?_
  obtain ⟨h_4, hf⟩ := chk_some hf
  have h_4 := (Bool.and_eq_true _ _ ▸ h_4)
  have h_4 := refu_inj C1 (of_decide_eq_true h_4.1) (of_decide_eq_true h_4.2)
  refine lv_acmp_eq (rx := some (g.2.2 0 r_2)) (ry := some (g.2.2 0 0)) (tgt := 16) C0.1 C0.2.1 dX2_refusalToUnlist_11 (by decide) (fun c_3 => ?_) (fun c_3 => ?_)
  · have hf := (if_pos (h_4.mp c_3)).symm.trans hf
    refine lv_aload_n C0.1 C0.2.1 dX2_refusalToUnlist_16 rfl (lv_at hl 1 rfl) ?_
    refine r_get (C := RX2) (T := TX2) (N9 := 12) (ci := 4) C0 C1 hI iX2 rfl a 9 (kdlt1 ha) (by decide) ((shI_1 ha) _) rfl rfl w_203 dX2_refusalToUnlist_17 ?_
    refine lv_iload_n C0.1 C0.2.1 dX2_refusalToUnlist_20 rfl (lv_at hl 2 rfl) ?_
    obtain ⟨h_5, hf⟩ := chk_some hf
    refine r_aald (t0 := 1) C0 C1 hI (a + 6) (kdlt4 (kd1_6 ha)) (shI_4 (kd1_6 ha)) rfl h_5 rfl dX2_refusalToUnlist_21 ?_
    refine lv_iload_n C0.1 C0.2.1 dX2_refusalToUnlist_22 rfl (lv_at hl 3 rfl) ?_
    obtain ⟨r_7, h_6, hf⟩ := ob_some hf
    refine k_i C1 hI (q_VN C0 C1 hI (a + 6 + 1 + 4 * ix x1) (c_X6_placeOf l g X r b H.size n M (a + 6 + 1 + 4 * ix x1) (kd4_i (kd1_6 ha) h_5) x2 h_6) 31 rfl w_860 w_36 w_73 w_861 ⟨rfl, rfl⟩ hd_X6_placeOf ⟨Nat.le_of_ble_eq_true rfl, Nat.le_of_ble_eq_true rfl⟩ (kdlt5 (kd4_i (kd1_6 ha) h_5)) ((shI_5 (kd4_i (kd1_6 ha) h_5)) _) rfl rfl rfl hl.1 rfl (Nat.le_of_ble_eq_true rfl) dX2_refusalToUnlist_23 ⟨Nat.le_of_ble_eq_true rfl, Nat.le_of_ble_eq_true rfl⟩) (fun H locs hI => ?_)
    refine lv_iconst (v := (-1)) C0.1 C0.2.1 dX2_refusalToUnlist_26 (by decide) ?_
    refine lv_icmp_ne (tgt := 36) C0.1 C0.2.1 dX2_refusalToUnlist_27 (by decide) (fun c_8 => ?_) (fun c_8 => ?_)
    · have hf := (if_neg c_8).symm.trans hf
      refine r_refu C0 C1 hI 0 (by decide) (n := "NOTHING") rfl w_599 dX2_refusalToUnlist_36 ?_
      exact ee_e C0 hI hr hlocks hf dX2_refusalToUnlist_39
    · have hf := (if_pos c_8).symm.trans hf
      refine r_refu C0 C1 hI 21 (by decide) (n := "NOT_ON_LIST") rfl w_1336 dX2_refusalToUnlist_30 ?_
      refine lv_goto (tgt := 39) C0.1 C0.2.1 dX2_refusalToUnlist_33 (by decide) ?_
      exact ee_e C0 hI hr hlocks hf dX2_refusalToUnlist_39
  · have hf := (if_neg (fun z => c_3 (h_4.mpr z))).symm.trans hf
    refine lv_aload_n C0.1 C0.2.1 dX2_refusalToUnlist_14 rfl (lv_at hl 0 rfl) ?_
    exact ee_e C0 hI hr hlocks hf dX2_refusalToUnlist_15

def F_X6_clearPlace_L17 (n : Nat) (a : Nat) : Nat → Int32 → Mem → Option Mem
  | 0, _, _ => none
  | k17 + 1, x2_17, M =>
    (if (M a 2) ≤ x2_17 then lt' (up2 M a 2 ((M a 2) - 1)) (fun M_17_2 => some M_17_2) else chk (inb x2_17 12) (chk (inb (x2_17 - 1) 12) (lt' (up2 M (a + 1) (ix (x2_17 - 1)) (M (a + 1) (ix x2_17))) (fun M_17_8 => lt' (x2_17 + 1) (fun x2_17_10 => F_X6_clearPlace_L17 n a k17 x2_17_10 M_17_8)))))
def F_X6_clearPlace (n : Nat) (a : Nat) (x1 : Int32) (M : Mem) : Option Mem :=
  (if x1 < 0 then some M else (if x1 < (M a 2) then lt' (x1 + 1) (fun x2_3 => F_X6_clearPlace_L17 n a n x2_3 M) else some M))
theorem hd_X6_clearPlace : yX6_clearPlace.cls ≠ "java/lang/invoke/MethodHandle" ∧ yX6_clearPlace.cls ≠ "java/lang/invoke/VarHandle" ∧ (parseMethodDescriptor yX6_clearPlace.desc).map (fun d => d.parameters.length) = some 1 := ⟨by decide +kernel, by decide +kernel, by decide +kernel⟩
set_option maxHeartbeats 4000000 in
set_option maxRecDepth 100000 in
theorem c_X6_clearPlace (l : Launch) (g : GG) (X : va_W) (r : Nat → Nat) (b : Nat → Nat) (sz n : Nat) (M : Mem) (a : Nat) (ha : kdI a = 5) (x1 : Int32)  {M' : Mem} (hf : F_X6_clearPlace n a x1 M = some M') : Met l yX6_clearPlace (.code yX6_clearPlace cX6_clearPlace 3 none :: LWg) (rmD 0 0 0) (va_Pc [.ref (b a), .int x1] (PreP g X 372 (shI g r b) b sz M)) (Qv g X 372 (shI g r b) b sz M') 0 0 (AA X b 372 sz) := by
  refine met_go (by decide +kernel) rfl (Nat.le_of_ble_eq_true rfl) ?_
  intro p e s m below meth c ls H locs C0 C1 hr hlocks hnm hsz hl hI
  subst hsz
  have hl : lv_has ls 3 [(0, .ref (b a)), (1, .int x1)] := hl
  unfold F_X6_clearPlace at hf
  refine lv_iload_n C0.1 C0.2.1 dX6_clearPlace_0 rfl (lv_at hl 1 rfl) ?_
  refine lv_if_lt (tgt := 12) C0.1 C0.2.1 dX6_clearPlace_1 (by decide) (fun c_1 => ?_) (fun c_1 => ?_)
  · have hf := (if_pos c_1).symm.trans hf
    exact ee_vm C0 hI hr hlocks hf dX6_clearPlace_12
  · have hf := (if_neg c_1).symm.trans hf
    refine lv_iload_n C0.1 C0.2.1 dX6_clearPlace_4 rfl (lv_at hl 1 rfl) ?_
    refine lv_aload_n C0.1 C0.2.1 dX6_clearPlace_5 rfl (lv_at hl 0 rfl) ?_
    refine r_get (C := RX6) (T := TX6) (N9 := 12) (ci := 8) C0 C1 hI iX6 rfl a 2 (kdlt5 ha) (by decide) ((shI_5 ha) _) rfl rfl w_132 dX6_clearPlace_6 ?_
    refine lv_icmp_lt (tgt := 13) C0.1 C0.2.1 dX6_clearPlace_9 (by decide) (fun c_2 => ?_) (fun c_2 => ?_)
    · have hf := (if_pos c_2).symm.trans hf
      refine lv_iload_n C0.1 C0.2.1 dX6_clearPlace_13 rfl (lv_at hl 1 rfl) ?_
      refine lv_iconst (v := 1) C0.1 C0.2.1 dX6_clearPlace_14 (by decide) ?_
      refine lv_iadd C0.1 C0.2.1 dX6_clearPlace_15 ?_
      refine lv_topi (fun x2_3 e_4 => ?_)
      have hf := lt_at e_4 hf
      refine lv_istore_n (lv' := [(2, .int x2_3), (0, .ref (b a)), (1, .int x1)]) C0.1 C0.2.1 dX6_clearPlace_16 rfl hl (by decide) rfl (fun ls hl => ?_)
      have L17 : ∀ (k17 : Nat) (x2_17 : Int32) (M : Mem), F_X6_clearPlace_L17 n a k17 x2_17 M = some M' → ∀ (H : Heap) (locs : List Loc) (ls : Array Slot), PI g X 372 (shI g r b) b s M H locs → lv_has ls 3 [(0, .ref (b a)), (2, .int x2_17)] → W p l e (rmD 0 0 0) s m ([.ref (b a), .int x1] : List Value).toArray below meth c H locs 0 0 (MQ below (Qv g X 372 (shI g r b) b s.heap.size M') ([.ref (b a), .int x1] : List Value).toArray s 0 0 (AA X b 372 s.heap.size)) (F0 m 17 ls []) := by
        intro k17
        induction k17 with
        | zero => intro x2_17 M hf; exact absurd (show (none : Option Mem) = some M' from hf) (fun h => by cases h)
        | succ k17 ih17 =>
          intro x2_17 M hf H locs ls hI hl
          unfold F_X6_clearPlace_L17 at hf
          refine lv_iload_n C0.1 C0.2.1 dX6_clearPlace_17 rfl (lv_at hl 1 rfl) ?_
          refine lv_aload_n C0.1 C0.2.1 dX6_clearPlace_18 rfl (lv_at hl 0 rfl) ?_
          refine r_get (C := RX6) (T := TX6) (N9 := 12) (ci := 8) C0 C1 hI iX6 rfl a 2 (kdlt5 ha) (by decide) ((shI_5 ha) _) rfl rfl w_132 dX6_clearPlace_19 ?_
          refine lv_icmp_ge (tgt := 45) C0.1 C0.2.1 dX6_clearPlace_22 (by decide) (fun c_17_1 => ?_) (fun c_17_1 => ?_)
          · have hf := (if_pos c_17_1).symm.trans hf
            refine lv_aload_n C0.1 C0.2.1 dX6_clearPlace_45 rfl (lv_at hl 0 rfl) ?_
            refine lv_dup C0.1 C0.2.1 dX6_clearPlace_46 rfl ?_
            refine r_get (C := RX6) (T := TX6) (N9 := 12) (ci := 8) C0 C1 hI iX6 rfl a 2 (kdlt5 ha) (by decide) ((shI_5 ha) _) rfl rfl w_132 dX6_clearPlace_47 ?_
            refine lv_iconst (v := 1) C0.1 C0.2.1 dX6_clearPlace_50 (by decide) ?_
            refine lv_isub C0.1 C0.2.1 dX6_clearPlace_51 ?_
            refine r_put (C := RX6) (T := TX6) (N9 := 12) (ci := 8) (fs := fMo b a) (ty := .int) C0 C1 hI iX6 tyX6 tyX6_ok nmX6 rfl a 2 (kdlt5 ha) (by decide) (shI_5 ha) rfl rfl rfl (by decide +kernel) ⟨rfl, rfl⟩ (Nat.le_of_ble_eq_true rfl) w_132 dX6_clearPlace_52 (fun H locs hI => ?_)
            obtain ⟨M_17_2, e_17_3⟩ : ∃ z : Mem, z = up2 M a 2 ((M a 2) - 1) := ⟨_, rfl⟩
            rw [← e_17_3] at hI
            have hf := lt_at e_17_3 hf
            exact ee_vm C0 hI hr hlocks hf dX6_clearPlace_55
          · have hf := (if_neg c_17_1).symm.trans hf
            refine lv_aload_n C0.1 C0.2.1 dX6_clearPlace_25 rfl (lv_at hl 0 rfl) ?_
            refine r_get (C := RX6) (T := TX6) (N9 := 12) (ci := 8) C0 C1 hI iX6 rfl a 1 (kdlt5 ha) (by decide) ((shI_5 ha) _) rfl rfl w_129 dX6_clearPlace_26 ?_
            refine lv_iload_n C0.1 C0.2.1 dX6_clearPlace_29 rfl (lv_at hl 1 rfl) ?_
            refine lv_iconst (v := 1) C0.1 C0.2.1 dX6_clearPlace_30 (by decide) ?_
            refine lv_isub C0.1 C0.2.1 dX6_clearPlace_31 ?_
            refine lv_aload_n C0.1 C0.2.1 dX6_clearPlace_32 rfl (lv_at hl 0 rfl) ?_
            refine r_get (C := RX6) (T := TX6) (N9 := 12) (ci := 8) C0 C1 hI iX6 rfl a 1 (kdlt5 ha) (by decide) ((shI_5 ha) _) rfl rfl w_129 dX6_clearPlace_33 ?_
            refine lv_iload_n C0.1 C0.2.1 dX6_clearPlace_36 rfl (lv_at hl 1 rfl) ?_
            obtain ⟨h_17_4, hf⟩ := chk_some hf
            refine r_iald C0 C1 hI (a + 1) (kdlt2 (kd5_1 ha)) (shI_2 (kd5_1 ha)) h_17_4 dX6_clearPlace_37 ?_
            obtain ⟨h_17_5, hf⟩ := chk_some hf
            refine r_iast C0 C1 hI (a + 1) (kdlt2 (kd5_1 ha)) (shI_2 (kd5_1 ha)) h_17_5 dX6_clearPlace_38 (fun H locs hI => ?_)
            obtain ⟨M_17_8, e_17_9⟩ : ∃ z : Mem, z = up2 M (a + 1) (ix (x2_17 - 1)) (M (a + 1) (ix x2_17)) := ⟨_, rfl⟩
            rw [← e_17_9] at hI
            have hf := lt_at e_17_9 hf
            obtain ⟨x2_17_10, e_17_11⟩ : ∃ z : Int32, z = x2_17 + 1 := ⟨_, rfl⟩
            have hf := lt_at e_17_11 hf
            refine lv_iinc (v := x2_17_10) (lv' := [(2, .int x2_17_10), (0, .ref (b a))]) C0.1 C0.2.1 dX6_clearPlace_39 hl (k := 1) rfl (by rw [e_17_11]; rfl) (by decide) rfl (fun ls hl => ?_)
            refine lv_goto (tgt := 17) C0.1 C0.2.1 dX6_clearPlace_42 (by decide) ?_
            exact ih17 x2_17_10 M_17_8 hf H locs ls hI (lv_sub hl [1, 0] rfl)
      exact L17 n x2_3 M hf H locs ls hI (lv_sub hl [1, 0] rfl)
    · have hf := (if_neg c_2).symm.trans hf
      exact ee_vm C0 hI hr hlocks hf dX6_clearPlace_12

def F_X2_unlist (n : Nat) (a : Nat) (x1 : Int32) (x2 : Int32) (M : Mem) : Option (Int32 × Mem) :=
  chk (inb x1 6) (ob (F_X6_placeOf n (a + 6 + 1 + 4 * ix x1) x2 M) (fun r_3 => ob (F_X6_clearPlace n (a + 6 + 1 + 4 * ix x1) r_3 M) (fun M_5 => some (M_5 (a + 6 + 1 + 4 * ix x1) 2, M_5))))
theorem hd_X2_unlist : yX2_unlist.cls ≠ "java/lang/invoke/MethodHandle" ∧ yX2_unlist.cls ≠ "java/lang/invoke/VarHandle" ∧ (parseMethodDescriptor yX2_unlist.desc).map (fun d => d.parameters.length) = some 2 := ⟨by decide +kernel, by decide +kernel, by decide +kernel⟩
set_option maxHeartbeats 4000000 in
set_option maxRecDepth 100000 in
theorem c_X2_unlist (l : Launch) (g : GG) (X : va_W) (r : Nat → Nat) (b : Nat → Nat) (sz n : Nat) (M : Mem) (a : Nat) (ha : kdI a = 1) (x1 : Int32) (x2 : Int32) {r0 : Int32} {M' : Mem} (hf : F_X2_unlist n a x1 x2 M = some (r0, M')) : Met l yX2_unlist (.code yX2_unlist cX2_unlist 4 (some .int) :: LWg) (rmD 1 0 0) (va_Pc [.ref (b a), .int x1, .int x2] (PreP g X 372 (shI g r b) b sz M)) (Qi g X 372 (shI g r b) b sz r0 M') 0 0 (AA X b 372 sz) := by
  refine met_go (by decide +kernel) rfl (Nat.le_of_ble_eq_true rfl) ?_
  intro p e s m below meth c ls H locs C0 C1 hr hlocks hnm hsz hl hI
  subst hsz
  have hl : lv_has ls 4 [(0, .ref (b a)), (1, .int x1), (2, .int x2)] := hl
  unfold F_X2_unlist at hf
  refine lv_aload_n C0.1 C0.2.1 dX2_unlist_0 rfl (lv_at hl 0 rfl) ?_
  refine r_get (C := RX2) (T := TX2) (N9 := 12) (ci := 4) C0 C1 hI iX2 rfl a 9 (kdlt1 ha) (by decide) ((shI_1 ha) _) rfl rfl w_203 dX2_unlist_1 ?_
  refine lv_iload_n C0.1 C0.2.1 dX2_unlist_4 rfl (lv_at hl 1 rfl) ?_
  obtain ⟨h_1, hf⟩ := chk_some hf
  refine r_aald (t0 := 1) C0 C1 hI (a + 6) (kdlt4 (kd1_6 ha)) (shI_4 (kd1_6 ha)) rfl h_1 rfl dX2_unlist_5 ?_
  refine lv_astore_n (lv' := [(3, .ref (b (a + 6 + 1 + 4 * ix x1))), (0, .ref (b a)), (1, .int x1), (2, .int x2)]) C0.1 C0.2.1 dX2_unlist_6 rfl hl (by decide) rfl (fun ls hl => ?_)
  refine lv_aload_n C0.1 C0.2.1 dX2_unlist_7 rfl (lv_at hl 0 rfl) ?_
  refine lv_aload_n C0.1 C0.2.1 dX2_unlist_8 rfl (lv_at hl 0 rfl) ?_
  refine lv_iload_n C0.1 C0.2.1 dX2_unlist_9 rfl (lv_at hl 3 rfl) ?_
  obtain ⟨r_3, h_2, hf⟩ := ob_some hf
  refine k_i C1 hI (q_VN C0 C1 hI (a + 6 + 1 + 4 * ix x1) (c_X6_placeOf l g X r b H.size n M (a + 6 + 1 + 4 * ix x1) (kd4_i (kd1_6 ha) h_1) x2 h_2) 31 rfl w_860 w_36 w_73 w_861 ⟨rfl, rfl⟩ hd_X6_placeOf ⟨Nat.le_of_ble_eq_true rfl, Nat.le_of_ble_eq_true rfl⟩ (kdlt5 (kd4_i (kd1_6 ha) h_1)) ((shI_5 (kd4_i (kd1_6 ha) h_1)) _) rfl rfl rfl hl.1 rfl (Nat.le_of_ble_eq_true rfl) dX2_unlist_10 ⟨Nat.le_of_ble_eq_true rfl, Nat.le_of_ble_eq_true rfl⟩) (fun H locs hI => ?_)
  obtain ⟨M_5, h_4, hf⟩ := ob_some hf
  refine k_v C1 hI (q_VN C0 C1 hI (a + 6 + 1 + 4 * ix x1) (c_X6_clearPlace l g X r b H.size n M (a + 6 + 1 + 4 * ix x1) (kd4_i (kd1_6 ha) h_1) r_3 h_4) 35 rfl w_887 w_40 w_73 w_888 ⟨rfl, rfl⟩ hd_X6_clearPlace ⟨Nat.le_of_ble_eq_true rfl, Nat.le_of_ble_eq_true rfl⟩ (kdlt5 (kd4_i (kd1_6 ha) h_1)) ((shI_5 (kd4_i (kd1_6 ha) h_1)) _) rfl rfl rfl hl.1 rfl (Nat.le_of_ble_eq_true rfl) dX2_unlist_13 ⟨Nat.le_of_ble_eq_true rfl, Nat.le_of_ble_eq_true rfl⟩) (fun H locs hI => ?_)
  refine lv_aload_n C0.1 C0.2.1 dX2_unlist_16 rfl (lv_at hl 0 rfl) ?_
  refine r_getN (C := RX6) (T := TX6) (N9 := 12) (ci := 8) C0 C1 hI iX6 rfl (a + 6 + 1 + 4 * ix x1) 2 (kdlt5 (kd4_i (kd1_6 ha) h_1)) (by decide) ((shI_5 (kd4_i (kd1_6 ha) h_1)) _) rfl rfl 4 rfl dX2_unlist_17 ?_
  exact ee_im C0 hI hr hlocks hf dX2_unlist_20

def F_X2_refusalToCall (n : Nat) (a : Nat) (x1 : Int32) (M : Mem) : Option Nat :=
  ob (F_X2_hasMotion n a x1 M) (fun r_2 => (if r_2 = 0 then some 4 else chk (inb x1 6) ((if (M (a + 6 + 1 + 4 * ix x1) 2) ≤ 0 then some 22 else some 0))))
theorem hd_X2_refusalToCall : yX2_refusalToCall.cls ≠ "java/lang/invoke/MethodHandle" ∧ yX2_refusalToCall.cls ≠ "java/lang/invoke/VarHandle" ∧ (parseMethodDescriptor yX2_refusalToCall.desc).map (fun d => d.parameters.length) = some 1 := ⟨by decide +kernel, by decide +kernel, by decide +kernel⟩
set_option maxHeartbeats 4000000 in
set_option maxRecDepth 100000 in
theorem c_X2_refusalToCall (l : Launch) (g : GG) (X : va_W) (r : Nat → Nat) (b : Nat → Nat) (sz n : Nat) (M : Mem) (a : Nat) (ha : kdI a = 1) (x1 : Int32) {r0 : Nat} (hf : F_X2_refusalToCall n a x1 M = some r0) : Met l yX2_refusalToCall (.code yX2_refusalToCall cX2_refusalToCall 2 (some (.object "FrogParliament$Refusal")) :: LWg) (rmD 1 0 0) (va_Pc [.ref (b a), .int x1] (PreP g X 372 (shI g r b) b sz M)) (Qe g X 372 (shI g r b) b sz r0 M) 0 0 (AA X b 372 sz) := by
  refine met_go (by decide +kernel) rfl (Nat.le_of_ble_eq_true rfl) ?_
  intro p e s m below meth c ls H locs C0 C1 hr hlocks hnm hsz hl hI
  subst hsz
  have hl : lv_has ls 2 [(0, .ref (b a)), (1, .int x1)] := hl
  unfold F_X2_refusalToCall at hf
  refine lv_aload_n C0.1 C0.2.1 dX2_refusalToCall_0 rfl (lv_at hl 0 rfl) ?_
  refine lv_iload_n C0.1 C0.2.1 dX2_refusalToCall_1 rfl (lv_at hl 1 rfl) ?_
  obtain ⟨r_2, h_1, hf⟩ := ob_some hf
  refine k_i C1 hI (q_V C0 C1 hI a (c_X2_hasMotion l g X r b H.size n M a ha x1 h_1) w_597 w_417 w_3 w_72 w_418 ⟨rfl, rfl⟩ hd_X2_hasMotion ⟨Nat.le_of_ble_eq_true rfl, Nat.le_of_ble_eq_true rfl⟩ (kdlt1 ha) ((shI_1 ha) _) rfl rfl rfl hl.1 rfl (Nat.le_of_ble_eq_true rfl) dX2_refusalToCall_2 ⟨Nat.le_of_ble_eq_true rfl, Nat.le_of_ble_eq_true rfl⟩) (fun H locs hI => ?_)
  refine lv_if_ne (tgt := 12) C0.1 C0.2.1 dX2_refusalToCall_5 (by decide) (fun c_3 => ?_) (fun c_3 => ?_)
  · have hf := (if_neg c_3).symm.trans hf
    refine lv_aload_n C0.1 C0.2.1 dX2_refusalToCall_12 rfl (lv_at hl 0 rfl) ?_
    refine r_get (C := RX2) (T := TX2) (N9 := 12) (ci := 4) C0 C1 hI iX2 rfl a 9 (kdlt1 ha) (by decide) ((shI_1 ha) _) rfl rfl w_203 dX2_refusalToCall_13 ?_
    refine lv_iload_n C0.1 C0.2.1 dX2_refusalToCall_16 rfl (lv_at hl 1 rfl) ?_
    obtain ⟨h_4, hf⟩ := chk_some hf
    refine r_aald (t0 := 1) C0 C1 hI (a + 6) (kdlt4 (kd1_6 ha)) (shI_4 (kd1_6 ha)) rfl h_4 rfl dX2_refusalToCall_17 ?_
    refine r_getN (C := RX6) (T := TX6) (N9 := 12) (ci := 8) C0 C1 hI iX6 rfl (a + 6 + 1 + 4 * ix x1) 2 (kdlt5 (kd4_i (kd1_6 ha) h_4)) (by decide) ((shI_5 (kd4_i (kd1_6 ha) h_4)) _) rfl rfl 4 rfl dX2_refusalToCall_18 ?_
    refine lv_if_le (tgt := 30) C0.1 C0.2.1 dX2_refusalToCall_21 (by decide) (fun c_5 => ?_) (fun c_5 => ?_)
    · have hf := (if_pos c_5).symm.trans hf
      refine r_refu C0 C1 hI 22 (by decide) (n := "LIST_EMPTY") rfl w_600 dX2_refusalToCall_30 ?_
      exact ee_e C0 hI hr hlocks hf dX2_refusalToCall_33
    · have hf := (if_neg c_5).symm.trans hf
      refine r_refu C0 C1 hI 0 (by decide) (n := "NOTHING") rfl w_599 dX2_refusalToCall_24 ?_
      refine lv_goto (tgt := 33) C0.1 C0.2.1 dX2_refusalToCall_27 (by decide) ?_
      exact ee_e C0 hI hr hlocks hf dX2_refusalToCall_33
  · have hf := (if_pos c_3).symm.trans hf
    refine r_refu C0 C1 hI 4 (by decide) (n := "NO_SUCH_MOTION") rfl w_598 dX2_refusalToCall_8 ?_
    exact ee_e C0 hI hr hlocks hf dX2_refusalToCall_11

def F_X2_isCalledBefore (n : Nat) (a : Nat) (o1 : Nat) (x2 : Int32) (x3 : Int32) (M : Mem) : Option Int32 :=
  chk (inb x2 12) (chk (inb (M (o1 + 1) (ix x2)) 12) (lt' (M (a + 4) (ix (M (o1 + 1) (ix x2)))) (fun x4_3 => chk (inb x3 12) (chk (inb (M (o1 + 1) (ix x3)) 12) (lt' (M (a + 4) (ix (M (o1 + 1) (ix x3)))) (fun x5_7 => (if x4_3 = x5_7 then (if x3 ≤ x2 then some 0 else some 1) else (if x5_7 ≤ x4_3 then some 0 else some 1))))))))
theorem hd_X2_isCalledBefore : yX2_isCalledBefore.cls ≠ "java/lang/invoke/MethodHandle" ∧ yX2_isCalledBefore.cls ≠ "java/lang/invoke/VarHandle" ∧ (parseMethodDescriptor yX2_isCalledBefore.desc).map (fun d => d.parameters.length) = some 3 := ⟨by decide +kernel, by decide +kernel, by decide +kernel⟩
set_option maxHeartbeats 4000000 in
set_option maxRecDepth 100000 in
theorem c_X2_isCalledBefore (l : Launch) (g : GG) (X : va_W) (r : Nat → Nat) (b : Nat → Nat) (sz n : Nat) (M : Mem) (a : Nat) (ha : kdI a = 1) (o1 : Nat) (ho1 : kdI o1 = 5) (x2 : Int32) (x3 : Int32) {r0 : Int32} (hf : F_X2_isCalledBefore n a o1 x2 x3 M = some r0) : Met l yX2_isCalledBefore (.code yX2_isCalledBefore cX2_isCalledBefore 6 (some .boolean) :: LWg) (rmD 0 0 0) (va_Pc [.ref (b a), .ref (b o1), .int x2, .int x3] (PreP g X 372 (shI g r b) b sz M)) (Qi g X 372 (shI g r b) b sz r0 M) 0 0 (AA X b 372 sz) := by
  refine met_go (by decide +kernel) rfl (Nat.le_of_ble_eq_true rfl) ?_
  intro p e s m below meth c ls H locs C0 C1 hr hlocks hnm hsz hl hI
  subst hsz
  have hl : lv_has ls 6 [(0, .ref (b a)), (1, .ref (b o1)), (2, .int x2), (3, .int x3)] := hl
  unfold F_X2_isCalledBefore at hf
  refine lv_aload_n C0.1 C0.2.1 dX2_isCalledBefore_0 rfl (lv_at hl 0 rfl) ?_
  refine r_get (C := RX2) (T := TX2) (N9 := 12) (ci := 4) C0 C1 hI iX2 rfl a 4 (kdlt1 ha) (by decide) ((shI_1 ha) _) rfl rfl w_194 dX2_isCalledBefore_1 ?_
  refine lv_aload_n C0.1 C0.2.1 dX2_isCalledBefore_4 rfl (lv_at hl 1 rfl) ?_
  refine r_getN (C := RX6) (T := TX6) (N9 := 12) (ci := 8) C0 C1 hI iX6 rfl o1 1 (kdlt5 ho1) (by decide) ((shI_5 ho1) _) rfl rfl 2 rfl dX2_isCalledBefore_5 ?_
  refine lv_iload_n C0.1 C0.2.1 dX2_isCalledBefore_8 rfl (lv_at hl 2 rfl) ?_
  obtain ⟨h_1, hf⟩ := chk_some hf
  refine r_iald C0 C1 hI (o1 + 1) (kdlt2 (kd5_1 ho1)) (shI_2 (kd5_1 ho1)) h_1 dX2_isCalledBefore_9 ?_
  obtain ⟨h_2, hf⟩ := chk_some hf
  refine r_iald C0 C1 hI (a + 4) (kdlt2 (kd1_4 ha)) (shI_2 (kd1_4 ha)) h_2 dX2_isCalledBefore_10 ?_
  refine lv_topi (fun x4_3 e_4 => ?_)
  have hf := lt_at e_4 hf
  refine lv_istore (lv' := [(4, .int x4_3), (0, .ref (b a)), (1, .ref (b o1)), (2, .int x2), (3, .int x3)]) C0.1 C0.2.1 dX2_isCalledBefore_11 hl (by decide) rfl (fun ls hl => ?_)
  refine lv_aload_n C0.1 C0.2.1 dX2_isCalledBefore_13 rfl (lv_at hl 1 rfl) ?_
  refine r_get (C := RX2) (T := TX2) (N9 := 12) (ci := 4) C0 C1 hI iX2 rfl a 4 (kdlt1 ha) (by decide) ((shI_1 ha) _) rfl rfl w_194 dX2_isCalledBefore_14 ?_
  refine lv_aload_n C0.1 C0.2.1 dX2_isCalledBefore_17 rfl (lv_at hl 2 rfl) ?_
  refine r_getN (C := RX6) (T := TX6) (N9 := 12) (ci := 8) C0 C1 hI iX6 rfl o1 1 (kdlt5 ho1) (by decide) ((shI_5 ho1) _) rfl rfl 2 rfl dX2_isCalledBefore_18 ?_
  refine lv_iload_n C0.1 C0.2.1 dX2_isCalledBefore_21 rfl (lv_at hl 4 rfl) ?_
  obtain ⟨h_5, hf⟩ := chk_some hf
  refine r_iald C0 C1 hI (o1 + 1) (kdlt2 (kd5_1 ho1)) (shI_2 (kd5_1 ho1)) h_5 dX2_isCalledBefore_22 ?_
  obtain ⟨h_6, hf⟩ := chk_some hf
  refine r_iald C0 C1 hI (a + 4) (kdlt2 (kd1_4 ha)) (shI_2 (kd1_4 ha)) h_6 dX2_isCalledBefore_23 ?_
  refine lv_topi (fun x5_7 e_8 => ?_)
  have hf := lt_at e_8 hf
  refine lv_istore (lv' := [(5, .int x5_7), (4, .int x4_3), (0, .ref (b a)), (1, .ref (b o1)), (2, .int x2), (3, .int x3)]) C0.1 C0.2.1 dX2_isCalledBefore_24 hl (by decide) rfl (fun ls hl => ?_)
  refine lv_iload C0.1 C0.2.1 dX2_isCalledBefore_26 (lv_at hl 1 rfl) ?_
  refine lv_iload C0.1 C0.2.1 dX2_isCalledBefore_28 (lv_at hl 0 rfl) ?_
  refine lv_icmp_eq (tgt := 48) C0.1 C0.2.1 dX2_isCalledBefore_30 (by decide) (fun c_9 => ?_) (fun c_9 => ?_)
  · have hf := (if_pos c_9).symm.trans hf
    refine lv_iload_n C0.1 C0.2.1 dX2_isCalledBefore_48 rfl (lv_at hl 4 rfl) ?_
    refine lv_iload_n C0.1 C0.2.1 dX2_isCalledBefore_49 rfl (lv_at hl 5 rfl) ?_
    refine lv_icmp_ge (tgt := 57) C0.1 C0.2.1 dX2_isCalledBefore_50 (by decide) (fun c_10 => ?_) (fun c_10 => ?_)
    · have hf := (if_pos c_10).symm.trans hf
      refine lv_iconst (v := 0) C0.1 C0.2.1 dX2_isCalledBefore_57 (by decide) ?_
      exact ee_z C0 hI hr hlocks rfl hf dX2_isCalledBefore_58
    · have hf := (if_neg c_10).symm.trans hf
      refine lv_iconst (v := 1) C0.1 C0.2.1 dX2_isCalledBefore_53 (by decide) ?_
      refine lv_goto (tgt := 58) C0.1 C0.2.1 dX2_isCalledBefore_54 (by decide) ?_
      exact ee_z C0 hI hr hlocks rfl hf dX2_isCalledBefore_58
  · have hf := (if_neg c_9).symm.trans hf
    refine lv_iload C0.1 C0.2.1 dX2_isCalledBefore_33 (lv_at hl 1 rfl) ?_
    refine lv_iload C0.1 C0.2.1 dX2_isCalledBefore_35 (lv_at hl 0 rfl) ?_
    refine lv_icmp_ge (tgt := 44) C0.1 C0.2.1 dX2_isCalledBefore_37 (by decide) (fun c_11 => ?_) (fun c_11 => ?_)
    · have hf := (if_pos c_11).symm.trans hf
      refine lv_iconst (v := 0) C0.1 C0.2.1 dX2_isCalledBefore_44 (by decide) ?_
      refine lv_goto (tgt := 58) C0.1 C0.2.1 dX2_isCalledBefore_45 (by decide) ?_
      exact ee_z C0 hI hr hlocks rfl hf dX2_isCalledBefore_58
    · have hf := (if_neg c_11).symm.trans hf
      refine lv_iconst (v := 1) C0.1 C0.2.1 dX2_isCalledBefore_40 (by decide) ?_
      refine lv_goto (tgt := 58) C0.1 C0.2.1 dX2_isCalledBefore_41 (by decide) ?_
      exact ee_z C0 hI hr hlocks rfl hf dX2_isCalledBefore_58

def F_X2_firstPlace_L12 (n : Nat) (a : Nat) (x1 : Int32) (M : Mem) : Nat → Int32 → Int32 → Option Int32
  | 0, _, _ => none
  | k12 + 1, x3_12, x4_12 =>
    (if (M (a + 6 + 1 + 4 * ix x1) 2) ≤ x4_12 then some x3_12 else ob (F_X2_isCalledBefore n a (a + 6 + 1 + 4 * ix x1) x4_12 x3_12 M) (fun r_12_3 => (if r_12_3 = 0 then lt' (x4_12 + 1) (fun x4_12_5 => F_X2_firstPlace_L12 n a x1 M k12 x3_12 x4_12_5) else lt' (x4_12 + 1) (fun x4_12_7 => F_X2_firstPlace_L12 n a x1 M k12 x4_12 x4_12_7))))
def F_X2_firstPlace (n : Nat) (a : Nat) (x1 : Int32) (M : Mem) : Option Int32 :=
  chk (inb x1 6) (F_X2_firstPlace_L12 n a x1 M n 0 1)
theorem hd_X2_firstPlace : yX2_firstPlace.cls ≠ "java/lang/invoke/MethodHandle" ∧ yX2_firstPlace.cls ≠ "java/lang/invoke/VarHandle" ∧ (parseMethodDescriptor yX2_firstPlace.desc).map (fun d => d.parameters.length) = some 1 := ⟨by decide +kernel, by decide +kernel, by decide +kernel⟩
set_option maxHeartbeats 4000000 in
set_option maxRecDepth 100000 in
theorem c_X2_firstPlace (l : Launch) (g : GG) (X : va_W) (r : Nat → Nat) (b : Nat → Nat) (sz n : Nat) (M : Mem) (a : Nat) (ha : kdI a = 1) (x1 : Int32) {r0 : Int32} (hf : F_X2_firstPlace n a x1 M = some r0) : Met l yX2_firstPlace (.code yX2_firstPlace cX2_firstPlace 5 (some .int) :: LWg) (rmD 1 0 0) (va_Pc [.ref (b a), .int x1] (PreP g X 372 (shI g r b) b sz M)) (Qi g X 372 (shI g r b) b sz r0 M) 0 0 (AA X b 372 sz) := by
  refine met_go (by decide +kernel) rfl (Nat.le_of_ble_eq_true rfl) ?_
  intro p e s m below meth c ls H locs C0 C1 hr hlocks hnm hsz hl hI
  subst hsz
  have hl : lv_has ls 5 [(0, .ref (b a)), (1, .int x1)] := hl
  unfold F_X2_firstPlace at hf
  refine lv_aload_n C0.1 C0.2.1 dX2_firstPlace_0 rfl (lv_at hl 0 rfl) ?_
  refine r_get (C := RX2) (T := TX2) (N9 := 12) (ci := 4) C0 C1 hI iX2 rfl a 9 (kdlt1 ha) (by decide) ((shI_1 ha) _) rfl rfl w_203 dX2_firstPlace_1 ?_
  refine lv_iload_n C0.1 C0.2.1 dX2_firstPlace_4 rfl (lv_at hl 1 rfl) ?_
  obtain ⟨h_1, hf⟩ := chk_some hf
  refine r_aald (t0 := 1) C0 C1 hI (a + 6) (kdlt4 (kd1_6 ha)) (shI_4 (kd1_6 ha)) rfl h_1 rfl dX2_firstPlace_5 ?_
  refine lv_astore_n (lv' := [(2, .ref (b (a + 6 + 1 + 4 * ix x1))), (0, .ref (b a)), (1, .int x1)]) C0.1 C0.2.1 dX2_firstPlace_6 rfl hl (by decide) rfl (fun ls hl => ?_)
  refine lv_iconst (v := 0) C0.1 C0.2.1 dX2_firstPlace_7 (by decide) ?_
  refine lv_istore_n (lv' := [(3, .int 0), (2, .ref (b (a + 6 + 1 + 4 * ix x1))), (0, .ref (b a)), (1, .int x1)]) C0.1 C0.2.1 dX2_firstPlace_8 rfl hl (by decide) rfl (fun ls hl => ?_)
  refine lv_iconst (v := 1) C0.1 C0.2.1 dX2_firstPlace_9 (by decide) ?_
  refine lv_istore (lv' := [(4, .int 1), (3, .int 0), (2, .ref (b (a + 6 + 1 + 4 * ix x1))), (0, .ref (b a)), (1, .int x1)]) C0.1 C0.2.1 dX2_firstPlace_10 hl (by decide) rfl (fun ls hl => ?_)
  have L12 : ∀ (k12 : Nat) (x3_12 : Int32) (x4_12 : Int32), F_X2_firstPlace_L12 n a x1 M k12 x3_12 x4_12 = some r0 → ∀ (H : Heap) (locs : List Loc) (ls : Array Slot), PI g X 372 (shI g r b) b s M H locs → lv_has ls 5 [(0, .ref (b a)), (2, .ref (b (a + 6 + 1 + 4 * ix x1))), (3, .int x3_12), (4, .int x4_12)] → W p l e (rmD 1 0 0) s m ([.ref (b a), .int x1] : List Value).toArray below meth c H locs 0 0 (MQ below (Qi g X 372 (shI g r b) b s.heap.size r0 M) ([.ref (b a), .int x1] : List Value).toArray s 0 0 (AA X b 372 s.heap.size)) (F0 m 12 ls []) := by
    intro k12
    induction k12 with
    | zero => intro x3_12 x4_12 hf; exact absurd (show (none : Option Int32) = some r0 from hf) (fun h => by cases h)
    | succ k12 ih12 =>
      intro x3_12 x4_12 hf H locs ls hI hl
      unfold F_X2_firstPlace_L12 at hf
      refine lv_iload C0.1 C0.2.1 dX2_firstPlace_12 (lv_at hl 3 rfl) ?_
      refine lv_aload_n C0.1 C0.2.1 dX2_firstPlace_14 rfl (lv_at hl 1 rfl) ?_
      refine r_getN (C := RX6) (T := TX6) (N9 := 12) (ci := 8) C0 C1 hI iX6 rfl (a + 6 + 1 + 4 * ix x1) 2 (kdlt5 (kd4_i (kd1_6 ha) h_1)) (by decide) ((shI_5 (kd4_i (kd1_6 ha) h_1)) _) rfl rfl 4 rfl dX2_firstPlace_15 ?_
      refine lv_icmp_ge (tgt := 41) C0.1 C0.2.1 dX2_firstPlace_18 (by decide) (fun c_12_1 => ?_) (fun c_12_1 => ?_)
      · have hf := (if_pos c_12_1).symm.trans hf
        refine lv_iload_n C0.1 C0.2.1 dX2_firstPlace_41 rfl (lv_at hl 2 rfl) ?_
        exact ee_i C0 hI hr hlocks hf dX2_firstPlace_42
      · have hf := (if_neg c_12_1).symm.trans hf
        refine lv_aload_n C0.1 C0.2.1 dX2_firstPlace_21 rfl (lv_at hl 0 rfl) ?_
        refine lv_aload_n C0.1 C0.2.1 dX2_firstPlace_22 rfl (lv_at hl 1 rfl) ?_
        refine lv_iload C0.1 C0.2.1 dX2_firstPlace_23 (lv_at hl 3 rfl) ?_
        refine lv_iload_n C0.1 C0.2.1 dX2_firstPlace_25 rfl (lv_at hl 2 rfl) ?_
        obtain ⟨r_12_3, h_12_2, hf⟩ := ob_some hf
        refine k_i C1 hI (q_V C0 C1 hI a (c_X2_isCalledBefore l g X r b H.size n M a ha (a + 6 + 1 + 4 * ix x1) (kd4_i (kd1_6 ha) h_1) x4_12 x3_12 h_12_2) w_630 w_632 w_12 w_72 w_633 ⟨rfl, rfl⟩ hd_X2_isCalledBefore ⟨Nat.le_of_ble_eq_true rfl, Nat.le_of_ble_eq_true rfl⟩ (kdlt1 ha) ((shI_1 ha) _) rfl rfl rfl hl.1 rfl (Nat.le_of_ble_eq_true rfl) dX2_firstPlace_26 ⟨Nat.le_of_ble_eq_true rfl, Nat.le_of_ble_eq_true rfl⟩) (fun H locs hI => ?_)
        refine lv_if_eq (tgt := 35) C0.1 C0.2.1 dX2_firstPlace_29 (by decide) (fun c_12_4 => ?_) (fun c_12_4 => ?_)
        · have hf := (if_pos c_12_4).symm.trans hf
          obtain ⟨x4_12_5, e_12_6⟩ : ∃ z : Int32, z = x4_12 + 1 := ⟨_, rfl⟩
          have hf := lt_at e_12_6 hf
          refine lv_iinc (v := x4_12_5) (lv' := [(4, .int x4_12_5), (0, .ref (b a)), (2, .ref (b (a + 6 + 1 + 4 * ix x1))), (3, .int x3_12)]) C0.1 C0.2.1 dX2_firstPlace_35 hl (k := 3) rfl (by rw [e_12_6]; rfl) (by decide) rfl (fun ls hl => ?_)
          refine lv_goto (tgt := 12) C0.1 C0.2.1 dX2_firstPlace_38 (by decide) ?_
          exact ih12 x3_12 x4_12_5 hf H locs ls hI (lv_sub hl [1, 2, 3, 0] rfl)
        · have hf := (if_neg c_12_4).symm.trans hf
          refine lv_iload C0.1 C0.2.1 dX2_firstPlace_32 (lv_at hl 3 rfl) ?_
          refine lv_istore_n (lv' := [(3, .int x4_12), (0, .ref (b a)), (2, .ref (b (a + 6 + 1 + 4 * ix x1))), (4, .int x4_12)]) C0.1 C0.2.1 dX2_firstPlace_34 rfl hl (by decide) rfl (fun ls hl => ?_)
          obtain ⟨x4_12_7, e_12_8⟩ : ∃ z : Int32, z = x4_12 + 1 := ⟨_, rfl⟩
          have hf := lt_at e_12_8 hf
          refine lv_iinc (v := x4_12_7) (lv' := [(4, .int x4_12_7), (3, .int x4_12), (0, .ref (b a)), (2, .ref (b (a + 6 + 1 + 4 * ix x1)))]) C0.1 C0.2.1 dX2_firstPlace_35 hl (k := 3) rfl (by rw [e_12_8]; rfl) (by decide) rfl (fun ls hl => ?_)
          refine lv_goto (tgt := 12) C0.1 C0.2.1 dX2_firstPlace_38 (by decide) ?_
          exact ih12 x4_12 x4_12_7 hf H locs ls hI (lv_sub hl [2, 3, 1, 0] rfl)
  exact L12 n 0 1 hf H locs ls hI (lv_sub hl [3, 2, 1, 0] rfl)

def F_X2_callFirst (n : Nat) (a : Nat) (x1 : Int32) (M : Mem) : Option (Int32 × Mem) :=
  chk (inb x1 6) (ob (F_X2_firstPlace n a x1 M) (fun r_3 => chk (inb r_3 12) (lt' (M (a + 6 + 1 + 4 * ix x1 + 1) (ix r_3)) (fun x4_5 => ob (F_X6_clearPlace n (a + 6 + 1 + 4 * ix x1) r_3 M) (fun M_8 => ob (F_X2_sits n a x4_5 M_8) (fun r_10 => (if r_10 = 0 then lt' (up2 M_8 a 11 ((M_8 a 11) + 1)) (fun M_22 => some (0, M_22)) else chk (inb x4_5 12) (chk (inb x4_5 12) (lt' (up2 M_8 (a + 4) (ix x4_5) ((M_8 (a + 4) (ix x4_5)) + 1)) (fun M_16 => lt' (up2 M_16 (a + 6 + 1 + 4 * ix x1) 11 ((M_16 (a + 6 + 1 + 4 * ix x1) 11) + 1)) (fun M_18 => lt' (up2 M_18 a 10 ((M_18 a 10) + 1)) (fun M_20 => some (1, M_20)))))))))))))
theorem hd_X2_callFirst : yX2_callFirst.cls ≠ "java/lang/invoke/MethodHandle" ∧ yX2_callFirst.cls ≠ "java/lang/invoke/VarHandle" ∧ (parseMethodDescriptor yX2_callFirst.desc).map (fun d => d.parameters.length) = some 1 := ⟨by decide +kernel, by decide +kernel, by decide +kernel⟩
set_option maxHeartbeats 4000000 in
set_option maxRecDepth 100000 in
theorem c_X2_callFirst (l : Launch) (g : GG) (X : va_W) (r : Nat → Nat) (b : Nat → Nat) (sz n : Nat) (M : Mem) (a : Nat) (ha : kdI a = 1) (x1 : Int32) {r0 : Int32} {M' : Mem} (hf : F_X2_callFirst n a x1 M = some (r0, M')) : Met l yX2_callFirst (.code yX2_callFirst cX2_callFirst 5 (some .boolean) :: LWg) (rmD 2 0 0) (va_Pc [.ref (b a), .int x1] (PreP g X 372 (shI g r b) b sz M)) (Qi g X 372 (shI g r b) b sz r0 M') 0 0 (AA X b 372 sz) := by
  refine met_go (by decide +kernel) rfl (Nat.le_of_ble_eq_true rfl) ?_
  intro p e s m below meth c ls H locs C0 C1 hr hlocks hnm hsz hl hI
  subst hsz
  have hl : lv_has ls 5 [(0, .ref (b a)), (1, .int x1)] := hl
  unfold F_X2_callFirst at hf
  refine lv_aload_n C0.1 C0.2.1 dX2_callFirst_0 rfl (lv_at hl 0 rfl) ?_
  refine r_get (C := RX2) (T := TX2) (N9 := 12) (ci := 4) C0 C1 hI iX2 rfl a 9 (kdlt1 ha) (by decide) ((shI_1 ha) _) rfl rfl w_203 dX2_callFirst_1 ?_
  refine lv_iload_n C0.1 C0.2.1 dX2_callFirst_4 rfl (lv_at hl 1 rfl) ?_
  obtain ⟨h_1, hf⟩ := chk_some hf
  refine r_aald (t0 := 1) C0 C1 hI (a + 6) (kdlt4 (kd1_6 ha)) (shI_4 (kd1_6 ha)) rfl h_1 rfl dX2_callFirst_5 ?_
  refine lv_astore_n (lv' := [(2, .ref (b (a + 6 + 1 + 4 * ix x1))), (0, .ref (b a)), (1, .int x1)]) C0.1 C0.2.1 dX2_callFirst_6 rfl hl (by decide) rfl (fun ls hl => ?_)
  refine lv_aload_n C0.1 C0.2.1 dX2_callFirst_7 rfl (lv_at hl 1 rfl) ?_
  refine lv_iload_n C0.1 C0.2.1 dX2_callFirst_8 rfl (lv_at hl 2 rfl) ?_
  obtain ⟨r_3, h_2, hf⟩ := ob_some hf
  refine k_i C1 hI (q_V C0 C1 hI a (c_X2_firstPlace l g X r b H.size n M a ha x1 h_2) w_884 w_628 w_11 w_72 w_629 ⟨rfl, rfl⟩ hd_X2_firstPlace ⟨Nat.le_of_ble_eq_true rfl, Nat.le_of_ble_eq_true rfl⟩ (kdlt1 ha) ((shI_1 ha) _) rfl rfl rfl hl.1 rfl (Nat.le_of_ble_eq_true rfl) dX2_callFirst_9 ⟨Nat.le_of_ble_eq_true rfl, Nat.le_of_ble_eq_true rfl⟩) (fun H locs hI => ?_)
  refine lv_istore_n (lv' := [(3, .int r_3), (2, .ref (b (a + 6 + 1 + 4 * ix x1))), (0, .ref (b a)), (1, .int x1)]) C0.1 C0.2.1 dX2_callFirst_12 rfl hl (by decide) rfl (fun ls hl => ?_)
  refine lv_aload_n C0.1 C0.2.1 dX2_callFirst_13 rfl (lv_at hl 1 rfl) ?_
  refine r_getN (C := RX6) (T := TX6) (N9 := 12) (ci := 8) C0 C1 hI iX6 rfl (a + 6 + 1 + 4 * ix x1) 1 (kdlt5 (kd4_i (kd1_6 ha) h_1)) (by decide) ((shI_5 (kd4_i (kd1_6 ha) h_1)) _) rfl rfl 2 rfl dX2_callFirst_14 ?_
  refine lv_iload_n C0.1 C0.2.1 dX2_callFirst_17 rfl (lv_at hl 0 rfl) ?_
  obtain ⟨h_4, hf⟩ := chk_some hf
  refine r_iald C0 C1 hI (a + 6 + 1 + 4 * ix x1 + 1) (kdlt2 (kd5_1 (kd4_i (kd1_6 ha) h_1))) (shI_2 (kd5_1 (kd4_i (kd1_6 ha) h_1))) h_4 dX2_callFirst_18 ?_
  refine lv_topi (fun x4_5 e_6 => ?_)
  have hf := lt_at e_6 hf
  refine lv_istore (lv' := [(4, .int x4_5), (3, .int r_3), (2, .ref (b (a + 6 + 1 + 4 * ix x1))), (0, .ref (b a)), (1, .int x1)]) C0.1 C0.2.1 dX2_callFirst_19 hl (by decide) rfl (fun ls hl => ?_)
  refine lv_aload_n C0.1 C0.2.1 dX2_callFirst_21 rfl (lv_at hl 2 rfl) ?_
  refine lv_iload_n C0.1 C0.2.1 dX2_callFirst_22 rfl (lv_at hl 1 rfl) ?_
  obtain ⟨M_8, h_7, hf⟩ := ob_some hf
  refine k_v C1 hI (q_VN C0 C1 hI (a + 6 + 1 + 4 * ix x1) (c_X6_clearPlace l g X r b H.size n M (a + 6 + 1 + 4 * ix x1) (kd4_i (kd1_6 ha) h_1) r_3 h_7) 35 rfl w_887 w_40 w_73 w_888 ⟨rfl, rfl⟩ hd_X6_clearPlace ⟨Nat.le_of_ble_eq_true rfl, Nat.le_of_ble_eq_true rfl⟩ (kdlt5 (kd4_i (kd1_6 ha) h_1)) ((shI_5 (kd4_i (kd1_6 ha) h_1)) _) rfl rfl rfl hl.1 rfl (Nat.le_of_ble_eq_true rfl) dX2_callFirst_23 ⟨Nat.le_of_ble_eq_true rfl, Nat.le_of_ble_eq_true rfl⟩) (fun H locs hI => ?_)
  refine lv_aload_n C0.1 C0.2.1 dX2_callFirst_26 rfl (lv_at hl 3 rfl) ?_
  refine lv_iload C0.1 C0.2.1 dX2_callFirst_27 (lv_at hl 0 rfl) ?_
  obtain ⟨r_10, h_9, hf⟩ := ob_some hf
  refine k_i C1 hI (q_V C0 C1 hI a (c_X2_sits l g X r b H.size n M_8 a ha x4_5 h_9) w_801 w_803 w_28 w_72 w_804 ⟨rfl, rfl⟩ hd_X2_sits ⟨Nat.le_of_ble_eq_true rfl, Nat.le_of_ble_eq_true rfl⟩ (kdlt1 ha) ((shI_1 ha) _) rfl rfl rfl hl.1 rfl (Nat.le_of_ble_eq_true rfl) dX2_callFirst_29 ⟨Nat.le_of_ble_eq_true rfl, Nat.le_of_ble_eq_true rfl⟩) (fun H locs hI => ?_)
  refine lv_if_ne (tgt := 47) C0.1 C0.2.1 dX2_callFirst_32 (by decide) (fun c_11 => ?_) (fun c_11 => ?_)
  · have hf := (if_neg c_11).symm.trans hf
    refine lv_aload_n C0.1 C0.2.1 dX2_callFirst_47 rfl (lv_at hl 3 rfl) ?_
    refine r_get (C := RX2) (T := TX2) (N9 := 12) (ci := 4) C0 C1 hI iX2 rfl a 4 (kdlt1 ha) (by decide) ((shI_1 ha) _) rfl rfl w_194 dX2_callFirst_48 ?_
    refine lv_iload C0.1 C0.2.1 dX2_callFirst_51 (lv_at hl 0 rfl) ?_
    refine lv_dup2_11 C0.1 C0.2.1 dX2_callFirst_53 rfl rfl ?_
    obtain ⟨h_12, hf⟩ := chk_some hf
    refine r_iald C0 C1 hI (a + 4) (kdlt2 (kd1_4 ha)) (shI_2 (kd1_4 ha)) h_12 dX2_callFirst_54 ?_
    refine lv_iconst (v := 1) C0.1 C0.2.1 dX2_callFirst_55 (by decide) ?_
    refine lv_iadd C0.1 C0.2.1 dX2_callFirst_56 ?_
    obtain ⟨h_13, hf⟩ := chk_some hf
    refine r_iast C0 C1 hI (a + 4) (kdlt2 (kd1_4 ha)) (shI_2 (kd1_4 ha)) h_13 dX2_callFirst_57 (fun H locs hI => ?_)
    obtain ⟨M_16, e_17⟩ : ∃ z : Mem, z = up2 M_8 (a + 4) (ix x4_5) ((M_8 (a + 4) (ix x4_5)) + 1) := ⟨_, rfl⟩
    rw [← e_17] at hI
    have hf := lt_at e_17 hf
    refine lv_aload_n C0.1 C0.2.1 dX2_callFirst_58 rfl (lv_at hl 2 rfl) ?_
    refine lv_dup C0.1 C0.2.1 dX2_callFirst_59 rfl ?_
    refine r_getN (C := RX6) (T := TX6) (N9 := 12) (ci := 8) C0 C1 hI iX6 rfl (a + 6 + 1 + 4 * ix x1) 11 (kdlt5 (kd4_i (kd1_6 ha) h_1)) (by decide) ((shI_5 (kd4_i (kd1_6 ha) h_1)) _) rfl rfl 20 rfl dX2_callFirst_60 ?_
    refine lv_iconst (v := 1) C0.1 C0.2.1 dX2_callFirst_63 (by decide) ?_
    refine lv_iadd C0.1 C0.2.1 dX2_callFirst_64 ?_
    refine r_putN (C := RX6) (T := TX6) (N9 := 12) (ci := 8) (fs := fMo b (a + 6 + 1 + 4 * ix x1)) (ty := .int) C0 C1 hI iX6 tyX6 tyX6_ok nmX6 rfl (a + 6 + 1 + 4 * ix x1) 11 (kdlt5 (kd4_i (kd1_6 ha) h_1)) (by decide) (shI_5 (kd4_i (kd1_6 ha) h_1)) rfl rfl rfl (by decide +kernel) ⟨rfl, rfl⟩ (Nat.le_of_ble_eq_true rfl) 20 rfl dX2_callFirst_65 (fun H locs hI => ?_)
    obtain ⟨M_18, e_19⟩ : ∃ z : Mem, z = up2 M_16 (a + 6 + 1 + 4 * ix x1) 11 ((M_16 (a + 6 + 1 + 4 * ix x1) 11) + 1) := ⟨_, rfl⟩
    rw [← e_19] at hI
    have hf := lt_at e_19 hf
    refine lv_aload_n C0.1 C0.2.1 dX2_callFirst_68 rfl (lv_at hl 3 rfl) ?_
    refine lv_dup C0.1 C0.2.1 dX2_callFirst_69 rfl ?_
    refine r_get (C := RX2) (T := TX2) (N9 := 12) (ci := 4) C0 C1 hI iX2 rfl a 10 (kdlt1 ha) (by decide) ((shI_1 ha) _) rfl rfl w_205 dX2_callFirst_70 ?_
    refine lv_iconst (v := 1) C0.1 C0.2.1 dX2_callFirst_73 (by decide) ?_
    refine lv_iadd C0.1 C0.2.1 dX2_callFirst_74 ?_
    refine r_put (C := RX2) (T := TX2) (N9 := 12) (ci := 4) (fs := fA b a) (ty := .int) C0 C1 hI iX2 tyX2 tyX2_ok nmX2 rfl a 10 (kdlt1 ha) (by decide) (shI_1 ha) rfl rfl rfl (by decide +kernel) ⟨rfl, rfl⟩ (Nat.le_of_ble_eq_true rfl) w_205 dX2_callFirst_75 (fun H locs hI => ?_)
    obtain ⟨M_20, e_21⟩ : ∃ z : Mem, z = up2 M_18 a 10 ((M_18 a 10) + 1) := ⟨_, rfl⟩
    rw [← e_21] at hI
    have hf := lt_at e_21 hf
    refine lv_iconst (v := 1) C0.1 C0.2.1 dX2_callFirst_78 (by decide) ?_
    exact ee_zm C0 hI hr hlocks rfl hf dX2_callFirst_79
  · have hf := (if_pos c_11).symm.trans hf
    refine lv_aload_n C0.1 C0.2.1 dX2_callFirst_35 rfl (lv_at hl 3 rfl) ?_
    refine lv_dup C0.1 C0.2.1 dX2_callFirst_36 rfl ?_
    refine r_get (C := RX2) (T := TX2) (N9 := 12) (ci := 4) C0 C1 hI iX2 rfl a 11 (kdlt1 ha) (by decide) ((shI_1 ha) _) rfl rfl w_207 dX2_callFirst_37 ?_
    refine lv_iconst (v := 1) C0.1 C0.2.1 dX2_callFirst_40 (by decide) ?_
    refine lv_iadd C0.1 C0.2.1 dX2_callFirst_41 ?_
    refine r_put (C := RX2) (T := TX2) (N9 := 12) (ci := 4) (fs := fA b a) (ty := .int) C0 C1 hI iX2 tyX2 tyX2_ok nmX2 rfl a 11 (kdlt1 ha) (by decide) (shI_1 ha) rfl rfl rfl (by decide +kernel) ⟨rfl, rfl⟩ (Nat.le_of_ble_eq_true rfl) w_207 dX2_callFirst_42 (fun H locs hI => ?_)
    obtain ⟨M_22, e_23⟩ : ∃ z : Mem, z = up2 M_8 a 11 ((M_8 a 11) + 1) := ⟨_, rfl⟩
    rw [← e_23] at hI
    have hf := lt_at e_23 hf
    refine lv_iconst (v := 0) C0.1 C0.2.1 dX2_callFirst_45 (by decide) ?_
    exact ee_zm C0 hI hr hlocks rfl hf dX2_callFirst_46

def F_X2_isRankedBefore (n : Nat) (a : Nat) (x1 : Int32) (x2 : Int32) (M : Mem) : Option Int32 :=
  chk (inb x1 12) (chk (inb x2 12) ((if (M (a + 4) (ix x1)) = (M (a + 4) (ix x2)) then chk (inb x1 12) (chk (inb x2 12) ((if (M (a + 2) (ix x1)) = (M (a + 2) (ix x2)) then (if x2 ≤ x1 then some 0 else some 1) else chk (inb x1 12) (chk (inb x2 12) ((if (M (a + 2) (ix x1)) ≤ (M (a + 2) (ix x2)) then some 0 else some 1)))))) else chk (inb x1 12) (chk (inb x2 12) ((if (M (a + 4) (ix x1)) ≤ (M (a + 4) (ix x2)) then some 0 else some 1))))))
theorem hd_X2_isRankedBefore : yX2_isRankedBefore.cls ≠ "java/lang/invoke/MethodHandle" ∧ yX2_isRankedBefore.cls ≠ "java/lang/invoke/VarHandle" ∧ (parseMethodDescriptor yX2_isRankedBefore.desc).map (fun d => d.parameters.length) = some 2 := ⟨by decide +kernel, by decide +kernel, by decide +kernel⟩
set_option maxHeartbeats 4000000 in
set_option maxRecDepth 100000 in
theorem c_X2_isRankedBefore (l : Launch) (g : GG) (X : va_W) (r : Nat → Nat) (b : Nat → Nat) (sz n : Nat) (M : Mem) (a : Nat) (ha : kdI a = 1) (x1 : Int32) (x2 : Int32) {r0 : Int32} (hf : F_X2_isRankedBefore n a x1 x2 M = some r0) : Met l yX2_isRankedBefore (.code yX2_isRankedBefore cX2_isRankedBefore 3 (some .boolean) :: LWg) (rmD 0 0 0) (va_Pc [.ref (b a), .int x1, .int x2] (PreP g X 372 (shI g r b) b sz M)) (Qi g X 372 (shI g r b) b sz r0 M) 0 0 (AA X b 372 sz) := by
  refine met_go (by decide +kernel) rfl (Nat.le_of_ble_eq_true rfl) ?_
  intro p e s m below meth c ls H locs C0 C1 hr hlocks hnm hsz hl hI
  subst hsz
  have hl : lv_has ls 3 [(0, .ref (b a)), (1, .int x1), (2, .int x2)] := hl
  unfold F_X2_isRankedBefore at hf
  refine lv_aload_n C0.1 C0.2.1 dX2_isRankedBefore_0 rfl (lv_at hl 0 rfl) ?_
  refine r_get (C := RX2) (T := TX2) (N9 := 12) (ci := 4) C0 C1 hI iX2 rfl a 4 (kdlt1 ha) (by decide) ((shI_1 ha) _) rfl rfl w_194 dX2_isRankedBefore_1 ?_
  refine lv_iload_n C0.1 C0.2.1 dX2_isRankedBefore_4 rfl (lv_at hl 1 rfl) ?_
  obtain ⟨h_1, hf⟩ := chk_some hf
  refine r_iald C0 C1 hI (a + 4) (kdlt2 (kd1_4 ha)) (shI_2 (kd1_4 ha)) h_1 dX2_isRankedBefore_5 ?_
  refine lv_aload_n C0.1 C0.2.1 dX2_isRankedBefore_6 rfl (lv_at hl 0 rfl) ?_
  refine r_get (C := RX2) (T := TX2) (N9 := 12) (ci := 4) C0 C1 hI iX2 rfl a 4 (kdlt1 ha) (by decide) ((shI_1 ha) _) rfl rfl w_194 dX2_isRankedBefore_7 ?_
  refine lv_iload_n C0.1 C0.2.1 dX2_isRankedBefore_10 rfl (lv_at hl 2 rfl) ?_
  obtain ⟨h_2, hf⟩ := chk_some hf
  refine r_iald C0 C1 hI (a + 4) (kdlt2 (kd1_4 ha)) (shI_2 (kd1_4 ha)) h_2 dX2_isRankedBefore_11 ?_
  refine lv_icmp_eq (tgt := 36) C0.1 C0.2.1 dX2_isRankedBefore_12 (by decide) (fun c_3 => ?_) (fun c_3 => ?_)
  · have hf := (if_pos c_3).symm.trans hf
    refine lv_aload_n C0.1 C0.2.1 dX2_isRankedBefore_36 rfl (lv_at hl 0 rfl) ?_
    refine r_get (C := RX2) (T := TX2) (N9 := 12) (ci := 4) C0 C1 hI iX2 rfl a 2 (kdlt1 ha) (by decide) ((shI_1 ha) _) rfl rfl w_190 dX2_isRankedBefore_37 ?_
    refine lv_iload_n C0.1 C0.2.1 dX2_isRankedBefore_40 rfl (lv_at hl 1 rfl) ?_
    obtain ⟨h_4, hf⟩ := chk_some hf
    refine r_iald C0 C1 hI (a + 2) (kdlt2 (kd1_2 ha)) (shI_2 (kd1_2 ha)) h_4 dX2_isRankedBefore_41 ?_
    refine lv_aload_n C0.1 C0.2.1 dX2_isRankedBefore_42 rfl (lv_at hl 0 rfl) ?_
    refine r_get (C := RX2) (T := TX2) (N9 := 12) (ci := 4) C0 C1 hI iX2 rfl a 2 (kdlt1 ha) (by decide) ((shI_1 ha) _) rfl rfl w_190 dX2_isRankedBefore_43 ?_
    refine lv_iload_n C0.1 C0.2.1 dX2_isRankedBefore_46 rfl (lv_at hl 2 rfl) ?_
    obtain ⟨h_5, hf⟩ := chk_some hf
    refine r_iald C0 C1 hI (a + 2) (kdlt2 (kd1_2 ha)) (shI_2 (kd1_2 ha)) h_5 dX2_isRankedBefore_47 ?_
    refine lv_icmp_eq (tgt := 72) C0.1 C0.2.1 dX2_isRankedBefore_48 (by decide) (fun c_6 => ?_) (fun c_6 => ?_)
    · have hf := (if_pos c_6).symm.trans hf
      refine lv_iload_n C0.1 C0.2.1 dX2_isRankedBefore_72 rfl (lv_at hl 1 rfl) ?_
      refine lv_iload_n C0.1 C0.2.1 dX2_isRankedBefore_73 rfl (lv_at hl 2 rfl) ?_
      refine lv_icmp_ge (tgt := 81) C0.1 C0.2.1 dX2_isRankedBefore_74 (by decide) (fun c_7 => ?_) (fun c_7 => ?_)
      · have hf := (if_pos c_7).symm.trans hf
        refine lv_iconst (v := 0) C0.1 C0.2.1 dX2_isRankedBefore_81 (by decide) ?_
        exact ee_z C0 hI hr hlocks rfl hf dX2_isRankedBefore_82
      · have hf := (if_neg c_7).symm.trans hf
        refine lv_iconst (v := 1) C0.1 C0.2.1 dX2_isRankedBefore_77 (by decide) ?_
        refine lv_goto (tgt := 82) C0.1 C0.2.1 dX2_isRankedBefore_78 (by decide) ?_
        exact ee_z C0 hI hr hlocks rfl hf dX2_isRankedBefore_82
    · have hf := (if_neg c_6).symm.trans hf
      refine lv_aload_n C0.1 C0.2.1 dX2_isRankedBefore_51 rfl (lv_at hl 0 rfl) ?_
      refine r_get (C := RX2) (T := TX2) (N9 := 12) (ci := 4) C0 C1 hI iX2 rfl a 2 (kdlt1 ha) (by decide) ((shI_1 ha) _) rfl rfl w_190 dX2_isRankedBefore_52 ?_
      refine lv_iload_n C0.1 C0.2.1 dX2_isRankedBefore_55 rfl (lv_at hl 1 rfl) ?_
      obtain ⟨h_8, hf⟩ := chk_some hf
      refine r_iald C0 C1 hI (a + 2) (kdlt2 (kd1_2 ha)) (shI_2 (kd1_2 ha)) h_8 dX2_isRankedBefore_56 ?_
      refine lv_aload_n C0.1 C0.2.1 dX2_isRankedBefore_57 rfl (lv_at hl 0 rfl) ?_
      refine r_get (C := RX2) (T := TX2) (N9 := 12) (ci := 4) C0 C1 hI iX2 rfl a 2 (kdlt1 ha) (by decide) ((shI_1 ha) _) rfl rfl w_190 dX2_isRankedBefore_58 ?_
      refine lv_iload_n C0.1 C0.2.1 dX2_isRankedBefore_61 rfl (lv_at hl 2 rfl) ?_
      obtain ⟨h_9, hf⟩ := chk_some hf
      refine r_iald C0 C1 hI (a + 2) (kdlt2 (kd1_2 ha)) (shI_2 (kd1_2 ha)) h_9 dX2_isRankedBefore_62 ?_
      refine lv_icmp_le (tgt := 70) C0.1 C0.2.1 dX2_isRankedBefore_63 (by decide) (fun c_10 => ?_) (fun c_10 => ?_)
      · have hf := (if_pos c_10).symm.trans hf
        refine lv_iconst (v := 0) C0.1 C0.2.1 dX2_isRankedBefore_70 (by decide) ?_
        exact ee_z C0 hI hr hlocks rfl hf dX2_isRankedBefore_71
      · have hf := (if_neg c_10).symm.trans hf
        refine lv_iconst (v := 1) C0.1 C0.2.1 dX2_isRankedBefore_66 (by decide) ?_
        refine lv_goto (tgt := 71) C0.1 C0.2.1 dX2_isRankedBefore_67 (by decide) ?_
        exact ee_z C0 hI hr hlocks rfl hf dX2_isRankedBefore_71
  · have hf := (if_neg c_3).symm.trans hf
    refine lv_aload_n C0.1 C0.2.1 dX2_isRankedBefore_15 rfl (lv_at hl 0 rfl) ?_
    refine r_get (C := RX2) (T := TX2) (N9 := 12) (ci := 4) C0 C1 hI iX2 rfl a 4 (kdlt1 ha) (by decide) ((shI_1 ha) _) rfl rfl w_194 dX2_isRankedBefore_16 ?_
    refine lv_iload_n C0.1 C0.2.1 dX2_isRankedBefore_19 rfl (lv_at hl 1 rfl) ?_
    obtain ⟨h_11, hf⟩ := chk_some hf
    refine r_iald C0 C1 hI (a + 4) (kdlt2 (kd1_4 ha)) (shI_2 (kd1_4 ha)) h_11 dX2_isRankedBefore_20 ?_
    refine lv_aload_n C0.1 C0.2.1 dX2_isRankedBefore_21 rfl (lv_at hl 0 rfl) ?_
    refine r_get (C := RX2) (T := TX2) (N9 := 12) (ci := 4) C0 C1 hI iX2 rfl a 4 (kdlt1 ha) (by decide) ((shI_1 ha) _) rfl rfl w_194 dX2_isRankedBefore_22 ?_
    refine lv_iload_n C0.1 C0.2.1 dX2_isRankedBefore_25 rfl (lv_at hl 2 rfl) ?_
    obtain ⟨h_12, hf⟩ := chk_some hf
    refine r_iald C0 C1 hI (a + 4) (kdlt2 (kd1_4 ha)) (shI_2 (kd1_4 ha)) h_12 dX2_isRankedBefore_26 ?_
    refine lv_icmp_le (tgt := 34) C0.1 C0.2.1 dX2_isRankedBefore_27 (by decide) (fun c_13 => ?_) (fun c_13 => ?_)
    · have hf := (if_pos c_13).symm.trans hf
      refine lv_iconst (v := 0) C0.1 C0.2.1 dX2_isRankedBefore_34 (by decide) ?_
      exact ee_z C0 hI hr hlocks rfl hf dX2_isRankedBefore_35
    · have hf := (if_neg c_13).symm.trans hf
      refine lv_iconst (v := 1) C0.1 C0.2.1 dX2_isRankedBefore_30 (by decide) ?_
      refine lv_goto (tgt := 35) C0.1 C0.2.1 dX2_isRankedBefore_31 (by decide) ?_
      exact ee_z C0 hI hr hlocks rfl hf dX2_isRankedBefore_35

def F_X2_countRankedBefore_L4 (n : Nat) (a : Nat) (M : Mem) : Nat → Int32 → Int32 → Int32 → Option Int32
  | 0, _, _, _ => none
  | k4 + 1, x1_4, x2_4, x3_4 =>
    (if (M a 0) ≤ x3_4 then some x2_4 else ob (F_X2_isRankedBefore n a x3_4 x1_4 M) (fun r_4_3 => (if r_4_3 = 0 then lt' (x3_4 + 1) (fun x3_4_5 => F_X2_countRankedBefore_L4 n a M k4 x1_4 x2_4 x3_4_5) else lt' (x2_4 + 1) (fun x2_4_7 => lt' (x3_4 + 1) (fun x3_4_9 => F_X2_countRankedBefore_L4 n a M k4 x1_4 x2_4_7 x3_4_9)))))
def F_X2_countRankedBefore (n : Nat) (a : Nat) (x1 : Int32) (M : Mem) : Option Int32 :=
  F_X2_countRankedBefore_L4 n a M n x1 0 0
theorem hd_X2_countRankedBefore : yX2_countRankedBefore.cls ≠ "java/lang/invoke/MethodHandle" ∧ yX2_countRankedBefore.cls ≠ "java/lang/invoke/VarHandle" ∧ (parseMethodDescriptor yX2_countRankedBefore.desc).map (fun d => d.parameters.length) = some 1 := ⟨by decide +kernel, by decide +kernel, by decide +kernel⟩
set_option maxHeartbeats 4000000 in
set_option maxRecDepth 100000 in
theorem c_X2_countRankedBefore (l : Launch) (g : GG) (X : va_W) (r : Nat → Nat) (b : Nat → Nat) (sz n : Nat) (M : Mem) (a : Nat) (ha : kdI a = 1) (x1 : Int32) {r0 : Int32} (hf : F_X2_countRankedBefore n a x1 M = some r0) : Met l yX2_countRankedBefore (.code yX2_countRankedBefore cX2_countRankedBefore 4 (some .int) :: LWg) (rmD 1 0 0) (va_Pc [.ref (b a), .int x1] (PreP g X 372 (shI g r b) b sz M)) (Qi g X 372 (shI g r b) b sz r0 M) 0 0 (AA X b 372 sz) := by
  refine met_go (by decide +kernel) rfl (Nat.le_of_ble_eq_true rfl) ?_
  intro p e s m below meth c ls H locs C0 C1 hr hlocks hnm hsz hl hI
  subst hsz
  have hl : lv_has ls 4 [(0, .ref (b a)), (1, .int x1)] := hl
  unfold F_X2_countRankedBefore at hf
  refine lv_iconst (v := 0) C0.1 C0.2.1 dX2_countRankedBefore_0 (by decide) ?_
  refine lv_istore_n (lv' := [(2, .int 0), (0, .ref (b a)), (1, .int x1)]) C0.1 C0.2.1 dX2_countRankedBefore_1 rfl hl (by decide) rfl (fun ls hl => ?_)
  refine lv_iconst (v := 0) C0.1 C0.2.1 dX2_countRankedBefore_2 (by decide) ?_
  refine lv_istore_n (lv' := [(3, .int 0), (2, .int 0), (0, .ref (b a)), (1, .int x1)]) C0.1 C0.2.1 dX2_countRankedBefore_3 rfl hl (by decide) rfl (fun ls hl => ?_)
  have L4 : ∀ (k4 : Nat) (x1_4 : Int32) (x2_4 : Int32) (x3_4 : Int32), F_X2_countRankedBefore_L4 n a M k4 x1_4 x2_4 x3_4 = some r0 → ∀ (H : Heap) (locs : List Loc) (ls : Array Slot), PI g X 372 (shI g r b) b s M H locs → lv_has ls 4 [(0, .ref (b a)), (1, .int x1_4), (2, .int x2_4), (3, .int x3_4)] → W p l e (rmD 1 0 0) s m ([.ref (b a), .int x1] : List Value).toArray below meth c H locs 0 0 (MQ below (Qi g X 372 (shI g r b) b s.heap.size r0 M) ([.ref (b a), .int x1] : List Value).toArray s 0 0 (AA X b 372 s.heap.size)) (F0 m 4 ls []) := by
    intro k4
    induction k4 with
    | zero => intro x1_4 x2_4 x3_4 hf; exact absurd (show (none : Option Int32) = some r0 from hf) (fun h => by cases h)
    | succ k4 ih4 =>
      intro x1_4 x2_4 x3_4 hf H locs ls hI hl
      unfold F_X2_countRankedBefore_L4 at hf
      refine lv_iload_n C0.1 C0.2.1 dX2_countRankedBefore_4 rfl (lv_at hl 3 rfl) ?_
      refine lv_aload_n C0.1 C0.2.1 dX2_countRankedBefore_5 rfl (lv_at hl 0 rfl) ?_
      refine r_get (C := RX2) (T := TX2) (N9 := 12) (ci := 4) C0 C1 hI iX2 rfl a 0 (kdlt1 ha) (by decide) ((shI_1 ha) _) rfl rfl w_186 dX2_countRankedBefore_6 ?_
      refine lv_icmp_ge (tgt := 30) C0.1 C0.2.1 dX2_countRankedBefore_9 (by decide) (fun c_4_1 => ?_) (fun c_4_1 => ?_)
      · have hf := (if_pos c_4_1).symm.trans hf
        refine lv_iload_n C0.1 C0.2.1 dX2_countRankedBefore_30 rfl (lv_at hl 2 rfl) ?_
        exact ee_i C0 hI hr hlocks hf dX2_countRankedBefore_31
      · have hf := (if_neg c_4_1).symm.trans hf
        refine lv_aload_n C0.1 C0.2.1 dX2_countRankedBefore_12 rfl (lv_at hl 0 rfl) ?_
        refine lv_iload_n C0.1 C0.2.1 dX2_countRankedBefore_13 rfl (lv_at hl 3 rfl) ?_
        refine lv_iload_n C0.1 C0.2.1 dX2_countRankedBefore_14 rfl (lv_at hl 1 rfl) ?_
        obtain ⟨r_4_3, h_4_2, hf⟩ := ob_some hf
        refine k_i C1 hI (q_V C0 C1 hI a (c_X2_isRankedBefore l g X r b H.size n M a ha x3_4 x1_4 h_4_2) w_900 w_902 w_42 w_72 w_903 ⟨rfl, rfl⟩ hd_X2_isRankedBefore ⟨Nat.le_of_ble_eq_true rfl, Nat.le_of_ble_eq_true rfl⟩ (kdlt1 ha) ((shI_1 ha) _) rfl rfl rfl hl.1 rfl (Nat.le_of_ble_eq_true rfl) dX2_countRankedBefore_15 ⟨Nat.le_of_ble_eq_true rfl, Nat.le_of_ble_eq_true rfl⟩) (fun H locs hI => ?_)
        refine lv_if_eq (tgt := 24) C0.1 C0.2.1 dX2_countRankedBefore_18 (by decide) (fun c_4_4 => ?_) (fun c_4_4 => ?_)
        · have hf := (if_pos c_4_4).symm.trans hf
          obtain ⟨x3_4_5, e_4_6⟩ : ∃ z : Int32, z = x3_4 + 1 := ⟨_, rfl⟩
          have hf := lt_at e_4_6 hf
          refine lv_iinc (v := x3_4_5) (lv' := [(3, .int x3_4_5), (0, .ref (b a)), (1, .int x1_4), (2, .int x2_4)]) C0.1 C0.2.1 dX2_countRankedBefore_24 hl (k := 3) rfl (by rw [e_4_6]; rfl) (by decide) rfl (fun ls hl => ?_)
          refine lv_goto (tgt := 4) C0.1 C0.2.1 dX2_countRankedBefore_27 (by decide) ?_
          exact ih4 x1_4 x2_4 x3_4_5 hf H locs ls hI (lv_sub hl [1, 2, 3, 0] rfl)
        · have hf := (if_neg c_4_4).symm.trans hf
          obtain ⟨x2_4_7, e_4_8⟩ : ∃ z : Int32, z = x2_4 + 1 := ⟨_, rfl⟩
          have hf := lt_at e_4_8 hf
          refine lv_iinc (v := x2_4_7) (lv' := [(2, .int x2_4_7), (0, .ref (b a)), (1, .int x1_4), (3, .int x3_4)]) C0.1 C0.2.1 dX2_countRankedBefore_21 hl (k := 2) rfl (by rw [e_4_8]; rfl) (by decide) rfl (fun ls hl => ?_)
          obtain ⟨x3_4_9, e_4_10⟩ : ∃ z : Int32, z = x3_4 + 1 := ⟨_, rfl⟩
          have hf := lt_at e_4_10 hf
          refine lv_iinc (v := x3_4_9) (lv' := [(3, .int x3_4_9), (2, .int x2_4_7), (0, .ref (b a)), (1, .int x1_4)]) C0.1 C0.2.1 dX2_countRankedBefore_24 hl (k := 3) rfl (by rw [e_4_10]; rfl) (by decide) rfl (fun ls hl => ?_)
          refine lv_goto (tgt := 4) C0.1 C0.2.1 dX2_countRankedBefore_27 (by decide) ?_
          exact ih4 x1_4 x2_4_7 x3_4_9 hf H locs ls hI (lv_sub hl [2, 3, 1, 0] rfl)
  exact L4 n x1 0 0 hf H locs ls hI (lv_sub hl [2, 3, 1, 0] rfl)

def F_X2_refusalToSupport (n : Nat) (a : Nat) (x1 : Int32) (x2 : Int32) (M : Mem) : Option Nat :=
  ob (F_X2_refusalWhileListOpen n a x1 x2 M) (fun r_2 => chk (decide (r_2 < 23) && decide (0 < 23)) ((if r_2 = 0 then ob (F_X2_sits n a x2 M) (fun r_6 => (if r_6 = 0 then some 19 else some 0)) else some r_2)))
theorem hd_X2_refusalToSupport : yX2_refusalToSupport.cls ≠ "java/lang/invoke/MethodHandle" ∧ yX2_refusalToSupport.cls ≠ "java/lang/invoke/VarHandle" ∧ (parseMethodDescriptor yX2_refusalToSupport.desc).map (fun d => d.parameters.length) = some 2 := ⟨by decide +kernel, by decide +kernel, by decide +kernel⟩
set_option maxHeartbeats 4000000 in
set_option maxRecDepth 100000 in
theorem c_X2_refusalToSupport (l : Launch) (g : GG) (X : va_W) (r : Nat → Nat) (b : Nat → Nat) (sz n : Nat) (M : Mem) (a : Nat) (ha : kdI a = 1) (x1 : Int32) (x2 : Int32) {r0 : Nat} (hf : F_X2_refusalToSupport n a x1 x2 M = some r0) : Met l yX2_refusalToSupport (.code yX2_refusalToSupport cX2_refusalToSupport 4 (some (.object "FrogParliament$Refusal")) :: LWg) (rmD 3 0 0) (va_Pc [.ref (b a), .int x1, .int x2] (PreP g X 372 (shI g r b) b sz M)) (Qe g X 372 (shI g r b) b sz r0 M) 0 0 (AA X b 372 sz) := by
  refine met_go (by decide +kernel) rfl (Nat.le_of_ble_eq_true rfl) ?_
  intro p e s m below meth c ls H locs C0 C1 hr hlocks hnm hsz hl hI
  subst hsz
  have hl : lv_has ls 4 [(0, .ref (b a)), (1, .int x1), (2, .int x2)] := hl
  unfold F_X2_refusalToSupport at hf
  refine lv_aload_n C0.1 C0.2.1 dX2_refusalToSupport_0 rfl (lv_at hl 0 rfl) ?_
  refine lv_iload_n C0.1 C0.2.1 dX2_refusalToSupport_1 rfl (lv_at hl 1 rfl) ?_
  refine lv_iload_n C0.1 C0.2.1 dX2_refusalToSupport_2 rfl (lv_at hl 2 rfl) ?_
  obtain ⟨r_2, h_1, hf⟩ := ob_some hf
  refine k_e C1 hI (q_V C0 C1 hI a (c_X2_refusalWhileListOpen l g X r b H.size n M a ha x1 x2 h_1) w_840 w_842 w_33 w_72 w_843 ⟨rfl, rfl⟩ hd_X2_refusalWhileListOpen ⟨Nat.le_of_ble_eq_true rfl, Nat.le_of_ble_eq_true rfl⟩ (kdlt1 ha) ((shI_1 ha) _) rfl rfl rfl hl.1 rfl (Nat.le_of_ble_eq_true rfl) dX2_refusalToSupport_3 ⟨Nat.le_of_ble_eq_true rfl, Nat.le_of_ble_eq_true rfl⟩) (fun H locs hI => ?_)
  refine lv_astore_n (lv' := [(3, .ref (g.2.2 0 r_2)), (0, .ref (b a)), (1, .int x1), (2, .int x2)]) C0.1 C0.2.1 dX2_refusalToSupport_6 rfl hl (by decide) rfl (fun ls hl => ?_)
  refine lv_aload_n C0.1 C0.2.1 dX2_refusalToSupport_7 rfl (lv_at hl 0 rfl) ?_
  refine r_refu C0 C1 hI 0 (by decide) (n := "NOTHING") rfl w_599 dX2_refusalToSupport_8 ?_
  obtain ⟨h_4, hf⟩ := chk_some hf
  have h_4 := (Bool.and_eq_true _ _ ▸ h_4)
  have h_4 := refu_inj C1 (of_decide_eq_true h_4.1) (of_decide_eq_true h_4.2)
  refine lv_acmp_eq (rx := some (g.2.2 0 r_2)) (ry := some (g.2.2 0 0)) (tgt := 16) C0.1 C0.2.1 dX2_refusalToSupport_11 (by decide) (fun c_3 => ?_) (fun c_3 => ?_)
  · have hf := (if_pos (h_4.mp c_3)).symm.trans hf
    refine lv_aload_n C0.1 C0.2.1 dX2_refusalToSupport_16 rfl (lv_at hl 1 rfl) ?_
    refine lv_iload_n C0.1 C0.2.1 dX2_refusalToSupport_17 rfl (lv_at hl 3 rfl) ?_
    obtain ⟨r_6, h_5, hf⟩ := ob_some hf
    refine k_i C1 hI (q_V C0 C1 hI a (c_X2_sits l g X r b H.size n M a ha x2 h_5) w_801 w_803 w_28 w_72 w_804 ⟨rfl, rfl⟩ hd_X2_sits ⟨Nat.le_of_ble_eq_true rfl, Nat.le_of_ble_eq_true rfl⟩ (kdlt1 ha) ((shI_1 ha) _) rfl rfl rfl hl.1 rfl (Nat.le_of_ble_eq_true rfl) dX2_refusalToSupport_18 ⟨Nat.le_of_ble_eq_true rfl, Nat.le_of_ble_eq_true rfl⟩) (fun H locs hI => ?_)
    refine lv_if_eq (tgt := 30) C0.1 C0.2.1 dX2_refusalToSupport_21 (by decide) (fun c_7 => ?_) (fun c_7 => ?_)
    · have hf := (if_pos c_7).symm.trans hf
      refine r_refu C0 C1 hI 19 (by decide) (n := "NO_SEAT") rfl w_1343 dX2_refusalToSupport_30 ?_
      exact ee_e C0 hI hr hlocks hf dX2_refusalToSupport_33
    · have hf := (if_neg c_7).symm.trans hf
      refine r_refu C0 C1 hI 0 (by decide) (n := "NOTHING") rfl w_599 dX2_refusalToSupport_24 ?_
      refine lv_goto (tgt := 33) C0.1 C0.2.1 dX2_refusalToSupport_27 (by decide) ?_
      exact ee_e C0 hI hr hlocks hf dX2_refusalToSupport_33
  · have hf := (if_neg (fun z => c_3 (h_4.mpr z))).symm.trans hf
    refine lv_aload_n C0.1 C0.2.1 dX2_refusalToSupport_14 rfl (lv_at hl 0 rfl) ?_
    exact ee_e C0 hI hr hlocks hf dX2_refusalToSupport_15

def F_X2_support (n : Nat) (a : Nat) (x1 : Int32) (x2 : Int32) (M : Mem) : Option (Int32 × Mem) :=
  chk (inb x1 6) (lt' (up2 M (a + 6 + 1 + 4 * ix x1) 4 ((M (a + 6 + 1 + 4 * ix x1) 4) ||| (1 <<< (x2 &&& 31)))) (fun M_2 => ob (F_X2_weightOfSet n a (M_2 (a + 6 + 1 + 4 * ix x1) 4) M_2) (fun r_5 => ob (F_X2_entitledTo n a x1 M_2) (fun r_7 => ob (F_X2_weightOfSet n a r_7 M_2) (fun r_9 => (if (2 * r_5) ≤ r_9 then lt' (up2 M_2 (a + 6 + 1 + 4 * ix x1) 3 0) (fun M_11 => chk (isB (M_11 (a + 6 + 1 + 4 * ix x1) 3)) (some (M_11 (a + 6 + 1 + 4 * ix x1) 3, M_11))) else lt' (up2 M_2 (a + 6 + 1 + 4 * ix x1) 3 1) (fun M_14 => chk (isB (M_14 (a + 6 + 1 + 4 * ix x1) 3)) (some (M_14 (a + 6 + 1 + 4 * ix x1) 3, M_14)))))))))
theorem hd_X2_support : yX2_support.cls ≠ "java/lang/invoke/MethodHandle" ∧ yX2_support.cls ≠ "java/lang/invoke/VarHandle" ∧ (parseMethodDescriptor yX2_support.desc).map (fun d => d.parameters.length) = some 2 := ⟨by decide +kernel, by decide +kernel, by decide +kernel⟩
set_option maxHeartbeats 4000000 in
set_option maxRecDepth 100000 in
theorem c_X2_support (l : Launch) (g : GG) (X : va_W) (r : Nat → Nat) (b : Nat → Nat) (sz n : Nat) (M : Mem) (a : Nat) (ha : kdI a = 1) (x1 : Int32) (x2 : Int32) {r0 : Int32} {M' : Mem} (hf : F_X2_support n a x1 x2 M = some (r0, M')) : Met l yX2_support (.code yX2_support cX2_support 4 (some .boolean) :: LWg) (rmD 2 0 0) (va_Pc [.ref (b a), .int x1, .int x2] (PreP g X 372 (shI g r b) b sz M)) (Qi g X 372 (shI g r b) b sz r0 M') 0 0 (AA X b 372 sz) := by
  refine met_go (by decide +kernel) rfl (Nat.le_of_ble_eq_true rfl) ?_
  intro p e s m below meth c ls H locs C0 C1 hr hlocks hnm hsz hl hI
  subst hsz
  have hl : lv_has ls 4 [(0, .ref (b a)), (1, .int x1), (2, .int x2)] := hl
  unfold F_X2_support at hf
  refine lv_aload_n C0.1 C0.2.1 dX2_support_0 rfl (lv_at hl 0 rfl) ?_
  refine r_get (C := RX2) (T := TX2) (N9 := 12) (ci := 4) C0 C1 hI iX2 rfl a 9 (kdlt1 ha) (by decide) ((shI_1 ha) _) rfl rfl w_203 dX2_support_1 ?_
  refine lv_iload_n C0.1 C0.2.1 dX2_support_4 rfl (lv_at hl 1 rfl) ?_
  obtain ⟨h_1, hf⟩ := chk_some hf
  refine r_aald (t0 := 1) C0 C1 hI (a + 6) (kdlt4 (kd1_6 ha)) (shI_4 (kd1_6 ha)) rfl h_1 rfl dX2_support_5 ?_
  refine lv_astore_n (lv' := [(3, .ref (b (a + 6 + 1 + 4 * ix x1))), (0, .ref (b a)), (1, .int x1), (2, .int x2)]) C0.1 C0.2.1 dX2_support_6 rfl hl (by decide) rfl (fun ls hl => ?_)
  refine lv_aload_n C0.1 C0.2.1 dX2_support_7 rfl (lv_at hl 0 rfl) ?_
  refine lv_dup C0.1 C0.2.1 dX2_support_8 rfl ?_
  refine r_getN (C := RX6) (T := TX6) (N9 := 12) (ci := 8) C0 C1 hI iX6 rfl (a + 6 + 1 + 4 * ix x1) 4 (kdlt5 (kd4_i (kd1_6 ha) h_1)) (by decide) ((shI_5 (kd4_i (kd1_6 ha) h_1)) _) rfl rfl 8 rfl dX2_support_9 ?_
  refine lv_iconst (v := 1) C0.1 C0.2.1 dX2_support_12 (by decide) ?_
  refine lv_iload_n C0.1 C0.2.1 dX2_support_13 rfl (lv_at hl 3 rfl) ?_
  refine lv_ishl C0.1 C0.2.1 dX2_support_14 ?_
  refine lv_ior C0.1 C0.2.1 dX2_support_15 ?_
  refine r_putN (C := RX6) (T := TX6) (N9 := 12) (ci := 8) (fs := fMo b (a + 6 + 1 + 4 * ix x1)) (ty := .int) C0 C1 hI iX6 tyX6 tyX6_ok nmX6 rfl (a + 6 + 1 + 4 * ix x1) 4 (kdlt5 (kd4_i (kd1_6 ha) h_1)) (by decide) (shI_5 (kd4_i (kd1_6 ha) h_1)) rfl rfl rfl (by decide +kernel) ⟨rfl, rfl⟩ (Nat.le_of_ble_eq_true rfl) 8 rfl dX2_support_16 (fun H locs hI => ?_)
  obtain ⟨M_2, e_3⟩ : ∃ z : Mem, z = up2 M (a + 6 + 1 + 4 * ix x1) 4 ((M (a + 6 + 1 + 4 * ix x1) 4) ||| (1 <<< (x2 &&& 31))) := ⟨_, rfl⟩
  rw [← e_3] at hI
  have hf := lt_at e_3 hf
  refine lv_aload_n C0.1 C0.2.1 dX2_support_19 rfl (lv_at hl 0 rfl) ?_
  refine lv_iconst (v := 2) C0.1 C0.2.1 dX2_support_20 (by decide) ?_
  refine lv_aload_n C0.1 C0.2.1 dX2_support_21 rfl (lv_at hl 1 rfl) ?_
  refine lv_aload_n C0.1 C0.2.1 dX2_support_22 rfl (lv_at hl 0 rfl) ?_
  refine r_getN (C := RX6) (T := TX6) (N9 := 12) (ci := 8) C0 C1 hI iX6 rfl (a + 6 + 1 + 4 * ix x1) 4 (kdlt5 (kd4_i (kd1_6 ha) h_1)) (by decide) ((shI_5 (kd4_i (kd1_6 ha) h_1)) _) rfl rfl 8 rfl dX2_support_23 ?_
  obtain ⟨r_5, h_4, hf⟩ := ob_some hf
  refine k_i C1 hI (q_V C0 C1 hI a (c_X2_weightOfSet l g X r b H.size n M_2 a ha (M_2 (a + 6 + 1 + 4 * ix x1) 4) h_4) w_1377 w_1379 w_62 w_72 w_1380 ⟨rfl, rfl⟩ hd_X2_weightOfSet ⟨Nat.le_of_ble_eq_true rfl, Nat.le_of_ble_eq_true rfl⟩ (kdlt1 ha) ((shI_1 ha) _) rfl rfl rfl hl.1 rfl (Nat.le_of_ble_eq_true rfl) dX2_support_26 ⟨Nat.le_of_ble_eq_true rfl, Nat.le_of_ble_eq_true rfl⟩) (fun H locs hI => ?_)
  refine lv_imul C0.1 C0.2.1 dX2_support_29 ?_
  refine lv_aload_n C0.1 C0.2.1 dX2_support_30 rfl (lv_at hl 1 rfl) ?_
  refine lv_aload_n C0.1 C0.2.1 dX2_support_31 rfl (lv_at hl 1 rfl) ?_
  refine lv_iload_n C0.1 C0.2.1 dX2_support_32 rfl (lv_at hl 2 rfl) ?_
  obtain ⟨r_7, h_6, hf⟩ := ob_some hf
  refine k_i C1 hI (q_V C0 C1 hI a (c_X2_entitledTo l g X r b H.size n M_2 a ha x1 h_6) w_1381 w_1383 w_63 w_72 w_1384 ⟨rfl, rfl⟩ hd_X2_entitledTo ⟨Nat.le_of_ble_eq_true rfl, Nat.le_of_ble_eq_true rfl⟩ (kdlt1 ha) ((shI_1 ha) _) rfl rfl rfl hl.1 rfl (Nat.le_of_ble_eq_true rfl) dX2_support_33 ⟨Nat.le_of_ble_eq_true rfl, Nat.le_of_ble_eq_true rfl⟩) (fun H locs hI => ?_)
  obtain ⟨r_9, h_8, hf⟩ := ob_some hf
  refine k_i C1 hI (q_V C0 C1 hI a (c_X2_weightOfSet l g X r b H.size n M_2 a ha r_7 h_8) w_1377 w_1379 w_62 w_72 w_1380 ⟨rfl, rfl⟩ hd_X2_weightOfSet ⟨Nat.le_of_ble_eq_true rfl, Nat.le_of_ble_eq_true rfl⟩ (kdlt1 ha) ((shI_1 ha) _) rfl rfl rfl hl.1 rfl (Nat.le_of_ble_eq_true rfl) dX2_support_36 ⟨Nat.le_of_ble_eq_true rfl, Nat.le_of_ble_eq_true rfl⟩) (fun H locs hI => ?_)
  refine lv_icmp_le (tgt := 46) C0.1 C0.2.1 dX2_support_39 (by decide) (fun c_10 => ?_) (fun c_10 => ?_)
  · have hf := (if_pos c_10).symm.trans hf
    refine lv_iconst (v := 0) C0.1 C0.2.1 dX2_support_46 (by decide) ?_
    refine r_putN (C := RX6) (T := TX6) (N9 := 12) (ci := 8) (fs := fMo b (a + 6 + 1 + 4 * ix x1)) (ty := .boolean) C0 C1 hI iX6 tyX6 tyX6_ok nmX6 rfl (a + 6 + 1 + 4 * ix x1) 3 (kdlt5 (kd4_i (kd1_6 ha) h_1)) (by decide) (shI_5 (kd4_i (kd1_6 ha) h_1)) rfl rfl rfl (by decide +kernel) ⟨rfl, rfl⟩ (Nat.le_of_ble_eq_true rfl) 5 rfl dX2_support_47 (fun H locs hI => ?_)
    obtain ⟨M_11, e_12⟩ : ∃ z : Mem, z = up2 M_2 (a + 6 + 1 + 4 * ix x1) 3 0 := ⟨_, rfl⟩
    rw [← e_12] at hI
    have hf := lt_at e_12 hf
    refine lv_aload_n C0.1 C0.2.1 dX2_support_50 rfl (lv_at hl 0 rfl) ?_
    refine r_getN (C := RX6) (T := TX6) (N9 := 12) (ci := 8) C0 C1 hI iX6 rfl (a + 6 + 1 + 4 * ix x1) 3 (kdlt5 (kd4_i (kd1_6 ha) h_1)) (by decide) ((shI_5 (kd4_i (kd1_6 ha) h_1)) _) rfl rfl 5 rfl dX2_support_51 ?_
    obtain ⟨h_13, hf⟩ := chk_some hf
    exact ee_zm C0 hI hr hlocks (isB_n h_13).1 hf dX2_support_54
  · have hf := (if_neg c_10).symm.trans hf
    refine lv_iconst (v := 1) C0.1 C0.2.1 dX2_support_42 (by decide) ?_
    refine lv_goto (tgt := 47) C0.1 C0.2.1 dX2_support_43 (by decide) ?_
    refine r_putN (C := RX6) (T := TX6) (N9 := 12) (ci := 8) (fs := fMo b (a + 6 + 1 + 4 * ix x1)) (ty := .boolean) C0 C1 hI iX6 tyX6 tyX6_ok nmX6 rfl (a + 6 + 1 + 4 * ix x1) 3 (kdlt5 (kd4_i (kd1_6 ha) h_1)) (by decide) (shI_5 (kd4_i (kd1_6 ha) h_1)) rfl rfl rfl (by decide +kernel) ⟨rfl, rfl⟩ (Nat.le_of_ble_eq_true rfl) 5 rfl dX2_support_47 (fun H locs hI => ?_)
    obtain ⟨M_14, e_15⟩ : ∃ z : Mem, z = up2 M_2 (a + 6 + 1 + 4 * ix x1) 3 1 := ⟨_, rfl⟩
    rw [← e_15] at hI
    have hf := lt_at e_15 hf
    refine lv_aload_n C0.1 C0.2.1 dX2_support_50 rfl (lv_at hl 0 rfl) ?_
    refine r_getN (C := RX6) (T := TX6) (N9 := 12) (ci := 8) C0 C1 hI iX6 rfl (a + 6 + 1 + 4 * ix x1) 3 (kdlt5 (kd4_i (kd1_6 ha) h_1)) (by decide) ((shI_5 (kd4_i (kd1_6 ha) h_1)) _) rfl rfl 5 rfl dX2_support_51 ?_
    obtain ⟨h_16, hf⟩ := chk_some hf
    exact ee_zm C0 hI hr hlocks (isB_n h_16).1 hf dX2_support_54

def F_X2_refusalToSettle (n : Nat) (a : Nat) (x1 : Int32) (M : Mem) : Option Nat :=
  ob (F_X2_hasMotion n a x1 M) (fun r_2 => (if r_2 = 0 then some 4 else chk (inb x1 6) ((if (M (a + 6 + 1 + 4 * ix x1) 9) = 0 then (if (M (a + 6 + 1 + 4 * ix x1) 3) = 0 then some 16 else (if (M (a + 6 + 1 + 4 * ix x1) 2) ≤ 0 then some 0 else some 17)) else some 14))))
theorem hd_X2_refusalToSettle : yX2_refusalToSettle.cls ≠ "java/lang/invoke/MethodHandle" ∧ yX2_refusalToSettle.cls ≠ "java/lang/invoke/VarHandle" ∧ (parseMethodDescriptor yX2_refusalToSettle.desc).map (fun d => d.parameters.length) = some 1 := ⟨by decide +kernel, by decide +kernel, by decide +kernel⟩
set_option maxHeartbeats 4000000 in
set_option maxRecDepth 100000 in
theorem c_X2_refusalToSettle (l : Launch) (g : GG) (X : va_W) (r : Nat → Nat) (b : Nat → Nat) (sz n : Nat) (M : Mem) (a : Nat) (ha : kdI a = 1) (x1 : Int32) {r0 : Nat} (hf : F_X2_refusalToSettle n a x1 M = some r0) : Met l yX2_refusalToSettle (.code yX2_refusalToSettle cX2_refusalToSettle 3 (some (.object "FrogParliament$Refusal")) :: LWg) (rmD 1 0 0) (va_Pc [.ref (b a), .int x1] (PreP g X 372 (shI g r b) b sz M)) (Qe g X 372 (shI g r b) b sz r0 M) 0 0 (AA X b 372 sz) := by
  refine met_go (by decide +kernel) rfl (Nat.le_of_ble_eq_true rfl) ?_
  intro p e s m below meth c ls H locs C0 C1 hr hlocks hnm hsz hl hI
  subst hsz
  have hl : lv_has ls 3 [(0, .ref (b a)), (1, .int x1)] := hl
  unfold F_X2_refusalToSettle at hf
  refine lv_aload_n C0.1 C0.2.1 dX2_refusalToSettle_0 rfl (lv_at hl 0 rfl) ?_
  refine lv_iload_n C0.1 C0.2.1 dX2_refusalToSettle_1 rfl (lv_at hl 1 rfl) ?_
  obtain ⟨r_2, h_1, hf⟩ := ob_some hf
  refine k_i C1 hI (q_V C0 C1 hI a (c_X2_hasMotion l g X r b H.size n M a ha x1 h_1) w_597 w_417 w_3 w_72 w_418 ⟨rfl, rfl⟩ hd_X2_hasMotion ⟨Nat.le_of_ble_eq_true rfl, Nat.le_of_ble_eq_true rfl⟩ (kdlt1 ha) ((shI_1 ha) _) rfl rfl rfl hl.1 rfl (Nat.le_of_ble_eq_true rfl) dX2_refusalToSettle_2 ⟨Nat.le_of_ble_eq_true rfl, Nat.le_of_ble_eq_true rfl⟩) (fun H locs hI => ?_)
  refine lv_if_ne (tgt := 12) C0.1 C0.2.1 dX2_refusalToSettle_5 (by decide) (fun c_3 => ?_) (fun c_3 => ?_)
  · have hf := (if_neg c_3).symm.trans hf
    refine lv_aload_n C0.1 C0.2.1 dX2_refusalToSettle_12 rfl (lv_at hl 0 rfl) ?_
    refine r_get (C := RX2) (T := TX2) (N9 := 12) (ci := 4) C0 C1 hI iX2 rfl a 9 (kdlt1 ha) (by decide) ((shI_1 ha) _) rfl rfl w_203 dX2_refusalToSettle_13 ?_
    refine lv_iload_n C0.1 C0.2.1 dX2_refusalToSettle_16 rfl (lv_at hl 1 rfl) ?_
    obtain ⟨h_4, hf⟩ := chk_some hf
    refine r_aald (t0 := 1) C0 C1 hI (a + 6) (kdlt4 (kd1_6 ha)) (shI_4 (kd1_6 ha)) rfl h_4 rfl dX2_refusalToSettle_17 ?_
    refine lv_astore_n (lv' := [(2, .ref (b (a + 6 + 1 + 4 * ix x1))), (0, .ref (b a)), (1, .int x1)]) C0.1 C0.2.1 dX2_refusalToSettle_18 rfl hl (by decide) rfl (fun ls hl => ?_)
    refine lv_aload_n C0.1 C0.2.1 dX2_refusalToSettle_19 rfl (lv_at hl 0 rfl) ?_
    refine r_getN (C := RX6) (T := TX6) (N9 := 12) (ci := 8) C0 C1 hI iX6 rfl (a + 6 + 1 + 4 * ix x1) 9 (kdlt5 (kd4_i (kd1_6 ha) h_4)) (by decide) ((shI_5 (kd4_i (kd1_6 ha) h_4)) _) rfl rfl 15 rfl dX2_refusalToSettle_20 ?_
    refine lv_if_eq (tgt := 30) C0.1 C0.2.1 dX2_refusalToSettle_23 (by decide) (fun c_5 => ?_) (fun c_5 => ?_)
    · have hf := (if_pos c_5).symm.trans hf
      refine lv_aload_n C0.1 C0.2.1 dX2_refusalToSettle_30 rfl (lv_at hl 0 rfl) ?_
      refine r_getN (C := RX6) (T := TX6) (N9 := 12) (ci := 8) C0 C1 hI iX6 rfl (a + 6 + 1 + 4 * ix x1) 3 (kdlt5 (kd4_i (kd1_6 ha) h_4)) (by decide) ((shI_5 (kd4_i (kd1_6 ha) h_4)) _) rfl rfl 5 rfl dX2_refusalToSettle_31 ?_
      refine lv_if_ne (tgt := 41) C0.1 C0.2.1 dX2_refusalToSettle_34 (by decide) (fun c_6 => ?_) (fun c_6 => ?_)
      · have hf := (if_neg c_6).symm.trans hf
        refine lv_aload_n C0.1 C0.2.1 dX2_refusalToSettle_41 rfl (lv_at hl 0 rfl) ?_
        refine r_getN (C := RX6) (T := TX6) (N9 := 12) (ci := 8) C0 C1 hI iX6 rfl (a + 6 + 1 + 4 * ix x1) 2 (kdlt5 (kd4_i (kd1_6 ha) h_4)) (by decide) ((shI_5 (kd4_i (kd1_6 ha) h_4)) _) rfl rfl 4 rfl dX2_refusalToSettle_42 ?_
        refine lv_if_le (tgt := 54) C0.1 C0.2.1 dX2_refusalToSettle_45 (by decide) (fun c_7 => ?_) (fun c_7 => ?_)
        · have hf := (if_pos c_7).symm.trans hf
          refine r_refu C0 C1 hI 0 (by decide) (n := "NOTHING") rfl w_599 dX2_refusalToSettle_54 ?_
          exact ee_e C0 hI hr hlocks hf dX2_refusalToSettle_57
        · have hf := (if_neg c_7).symm.trans hf
          refine r_refu C0 C1 hI 17 (by decide) (n := "LIST_IN_USE") rfl w_918 dX2_refusalToSettle_48 ?_
          refine lv_goto (tgt := 57) C0.1 C0.2.1 dX2_refusalToSettle_51 (by decide) ?_
          exact ee_e C0 hI hr hlocks hf dX2_refusalToSettle_57
      · have hf := (if_pos c_6).symm.trans hf
        refine r_refu C0 C1 hI 16 (by decide) (n := "LIST_OPEN") rfl w_916 dX2_refusalToSettle_37 ?_
        exact ee_e C0 hI hr hlocks hf dX2_refusalToSettle_40
    · have hf := (if_neg c_5).symm.trans hf
      refine r_refu C0 C1 hI 14 (by decide) (n := "DECIDED") rfl w_854 dX2_refusalToSettle_26 ?_
      exact ee_e C0 hI hr hlocks hf dX2_refusalToSettle_29
  · have hf := (if_pos c_3).symm.trans hf
    refine r_refu C0 C1 hI 4 (by decide) (n := "NO_SUCH_MOTION") rfl w_598 dX2_refusalToSettle_8 ?_
    exact ee_e C0 hI hr hlocks hf dX2_refusalToSettle_11

def F_X6_hasCroakOf_L2 (n : Nat) (a : Nat) (M : Mem) : Nat → Int32 → Int32 → Option Int32
  | 0, _, _ => none
  | k2 + 1, x1_2, x2_2 =>
    (if (M a 7) ≤ x2_2 then some 0 else chk (inb x2_2 12) ((if (M (a + 2) (ix x2_2)) = x1_2 then some 1 else lt' (x2_2 + 1) (fun x2_2_4 => F_X6_hasCroakOf_L2 n a M k2 x1_2 x2_2_4))))
def F_X6_hasCroakOf (n : Nat) (a : Nat) (x1 : Int32) (M : Mem) : Option Int32 :=
  F_X6_hasCroakOf_L2 n a M n x1 0
theorem hd_X6_hasCroakOf : yX6_hasCroakOf.cls ≠ "java/lang/invoke/MethodHandle" ∧ yX6_hasCroakOf.cls ≠ "java/lang/invoke/VarHandle" ∧ (parseMethodDescriptor yX6_hasCroakOf.desc).map (fun d => d.parameters.length) = some 1 := ⟨by decide +kernel, by decide +kernel, by decide +kernel⟩
set_option maxHeartbeats 4000000 in
set_option maxRecDepth 100000 in
theorem c_X6_hasCroakOf (l : Launch) (g : GG) (X : va_W) (r : Nat → Nat) (b : Nat → Nat) (sz n : Nat) (M : Mem) (a : Nat) (ha : kdI a = 5) (x1 : Int32) {r0 : Int32} (hf : F_X6_hasCroakOf n a x1 M = some r0) : Met l yX6_hasCroakOf (.code yX6_hasCroakOf cX6_hasCroakOf 3 (some .boolean) :: LWg) (rmD 0 0 0) (va_Pc [.ref (b a), .int x1] (PreP g X 372 (shI g r b) b sz M)) (Qi g X 372 (shI g r b) b sz r0 M) 0 0 (AA X b 372 sz) := by
  refine met_go (by decide +kernel) rfl (Nat.le_of_ble_eq_true rfl) ?_
  intro p e s m below meth c ls H locs C0 C1 hr hlocks hnm hsz hl hI
  subst hsz
  have hl : lv_has ls 3 [(0, .ref (b a)), (1, .int x1)] := hl
  unfold F_X6_hasCroakOf at hf
  refine lv_iconst (v := 0) C0.1 C0.2.1 dX6_hasCroakOf_0 (by decide) ?_
  refine lv_istore_n (lv' := [(2, .int 0), (0, .ref (b a)), (1, .int x1)]) C0.1 C0.2.1 dX6_hasCroakOf_1 rfl hl (by decide) rfl (fun ls hl => ?_)
  have L2 : ∀ (k2 : Nat) (x1_2 : Int32) (x2_2 : Int32), F_X6_hasCroakOf_L2 n a M k2 x1_2 x2_2 = some r0 → ∀ (H : Heap) (locs : List Loc) (ls : Array Slot), PI g X 372 (shI g r b) b s M H locs → lv_has ls 3 [(0, .ref (b a)), (1, .int x1_2), (2, .int x2_2)] → W p l e (rmD 0 0 0) s m ([.ref (b a), .int x1] : List Value).toArray below meth c H locs 0 0 (MQ below (Qi g X 372 (shI g r b) b s.heap.size r0 M) ([.ref (b a), .int x1] : List Value).toArray s 0 0 (AA X b 372 s.heap.size)) (F0 m 2 ls []) := by
    intro k2
    induction k2 with
    | zero => intro x1_2 x2_2 hf; exact absurd (show (none : Option Int32) = some r0 from hf) (fun h => by cases h)
    | succ k2 ih2 =>
      intro x1_2 x2_2 hf H locs ls hI hl
      unfold F_X6_hasCroakOf_L2 at hf
      refine lv_iload_n C0.1 C0.2.1 dX6_hasCroakOf_2 rfl (lv_at hl 2 rfl) ?_
      refine lv_aload_n C0.1 C0.2.1 dX6_hasCroakOf_3 rfl (lv_at hl 0 rfl) ?_
      refine r_get (C := RX6) (T := TX6) (N9 := 12) (ci := 8) C0 C1 hI iX6 rfl a 7 (kdlt5 ha) (by decide) ((shI_5 ha) _) rfl rfl w_147 dX6_hasCroakOf_4 ?_
      refine lv_icmp_ge (tgt := 28) C0.1 C0.2.1 dX6_hasCroakOf_7 (by decide) (fun c_2_1 => ?_) (fun c_2_1 => ?_)
      · have hf := (if_pos c_2_1).symm.trans hf
        refine lv_iconst (v := 0) C0.1 C0.2.1 dX6_hasCroakOf_28 (by decide) ?_
        exact ee_z C0 hI hr hlocks rfl hf dX6_hasCroakOf_29
      · have hf := (if_neg c_2_1).symm.trans hf
        refine lv_aload_n C0.1 C0.2.1 dX6_hasCroakOf_10 rfl (lv_at hl 0 rfl) ?_
        refine r_get (C := RX6) (T := TX6) (N9 := 12) (ci := 8) C0 C1 hI iX6 rfl a 5 (kdlt5 ha) (by decide) ((shI_5 ha) _) rfl rfl w_141 dX6_hasCroakOf_11 ?_
        refine lv_iload_n C0.1 C0.2.1 dX6_hasCroakOf_14 rfl (lv_at hl 2 rfl) ?_
        obtain ⟨h_2_2, hf⟩ := chk_some hf
        refine r_iald C0 C1 hI (a + 2) (kdlt2 (kd5_2 ha)) (shI_2 (kd5_2 ha)) h_2_2 dX6_hasCroakOf_15 ?_
        refine lv_iload_n C0.1 C0.2.1 dX6_hasCroakOf_16 rfl (lv_at hl 1 rfl) ?_
        refine lv_icmp_ne (tgt := 22) C0.1 C0.2.1 dX6_hasCroakOf_17 (by decide) (fun c_2_3 => ?_) (fun c_2_3 => ?_)
        · have hf := (if_neg c_2_3).symm.trans hf
          obtain ⟨x2_2_4, e_2_5⟩ : ∃ z : Int32, z = x2_2 + 1 := ⟨_, rfl⟩
          have hf := lt_at e_2_5 hf
          refine lv_iinc (v := x2_2_4) (lv' := [(2, .int x2_2_4), (0, .ref (b a)), (1, .int x1_2)]) C0.1 C0.2.1 dX6_hasCroakOf_22 hl (k := 2) rfl (by rw [e_2_5]; rfl) (by decide) rfl (fun ls hl => ?_)
          refine lv_goto (tgt := 2) C0.1 C0.2.1 dX6_hasCroakOf_25 (by decide) ?_
          exact ih2 x1_2 x2_2_4 hf H locs ls hI (lv_sub hl [1, 2, 0] rfl)
        · have hf := (if_pos c_2_3).symm.trans hf
          refine lv_iconst (v := 1) C0.1 C0.2.1 dX6_hasCroakOf_20 (by decide) ?_
          exact ee_z C0 hI hr hlocks rfl hf dX6_hasCroakOf_21
  exact L2 n x1 0 hf H locs ls hI (lv_sub hl [1, 2, 0] rfl)

def F_X2_refusalToHear (n : Nat) (a : Nat) (x1 : Int32) (x2 : Int32) (x3 : Int32) (M : Mem) : Option Nat :=
  ob (F_X2_refusalOfPair n a x1 x2 M) (fun r_2 => chk (decide (r_2 < 23) && decide (0 < 23)) ((if r_2 = 0 then (if x3 < 1 then some 8 else (if x3 ≤ 9 then ob (F_X2_entitles n a x1 x2 M) (fun r_8 => (if r_8 = 0 then some 9 else ob (F_X2_refusalToSettle n a x1 M) (fun r_11 => chk (decide (r_11 < 23) && decide (0 < 23)) ((if r_11 = 0 then ob (F_X2_sits n a x2 M) (fun r_15 => (if r_15 = 0 then some 19 else chk (inb x1 6) (ob (F_X6_hasCroakOf n (a + 6 + 1 + 4 * ix x1) x2 M) (fun r_19 => (if r_19 = 0 then some 0 else some 20))))) else some r_11))))) else some 8)) else some r_2)))
theorem hd_X2_refusalToHear : yX2_refusalToHear.cls ≠ "java/lang/invoke/MethodHandle" ∧ yX2_refusalToHear.cls ≠ "java/lang/invoke/VarHandle" ∧ (parseMethodDescriptor yX2_refusalToHear.desc).map (fun d => d.parameters.length) = some 3 := ⟨by decide +kernel, by decide +kernel, by decide +kernel⟩
set_option maxHeartbeats 4000000 in
set_option maxRecDepth 100000 in
theorem c_X2_refusalToHear (l : Launch) (g : GG) (X : va_W) (r : Nat → Nat) (b : Nat → Nat) (sz n : Nat) (M : Mem) (a : Nat) (ha : kdI a = 1) (x1 : Int32) (x2 : Int32) (x3 : Int32) {r0 : Nat} (hf : F_X2_refusalToHear n a x1 x2 x3 M = some r0) : Met l yX2_refusalToHear (.code yX2_refusalToHear cX2_refusalToHear 5 (some (.object "FrogParliament$Refusal")) :: LWg) (rmD 2 0 0) (va_Pc [.ref (b a), .int x1, .int x2, .int x3] (PreP g X 372 (shI g r b) b sz M)) (Qe g X 372 (shI g r b) b sz r0 M) 0 0 (AA X b 372 sz) := by
  refine met_go (by decide +kernel) rfl (Nat.le_of_ble_eq_true rfl) ?_
  intro p e s m below meth c ls H locs C0 C1 hr hlocks hnm hsz hl hI
  subst hsz
  have hl : lv_has ls 5 [(0, .ref (b a)), (1, .int x1), (2, .int x2), (3, .int x3)] := hl
  unfold F_X2_refusalToHear at hf
  refine lv_aload_n C0.1 C0.2.1 dX2_refusalToHear_0 rfl (lv_at hl 0 rfl) ?_
  refine lv_iload_n C0.1 C0.2.1 dX2_refusalToHear_1 rfl (lv_at hl 1 rfl) ?_
  refine lv_iload_n C0.1 C0.2.1 dX2_refusalToHear_2 rfl (lv_at hl 2 rfl) ?_
  obtain ⟨r_2, h_1, hf⟩ := ob_some hf
  refine k_e C1 hI (q_V C0 C1 hI a (c_X2_refusalOfPair l g X r b H.size n M a ha x1 x2 h_1) w_844 w_846 w_34 w_72 w_847 ⟨rfl, rfl⟩ hd_X2_refusalOfPair ⟨Nat.le_of_ble_eq_true rfl, Nat.le_of_ble_eq_true rfl⟩ (kdlt1 ha) ((shI_1 ha) _) rfl rfl rfl hl.1 rfl (Nat.le_of_ble_eq_true rfl) dX2_refusalToHear_3 ⟨Nat.le_of_ble_eq_true rfl, Nat.le_of_ble_eq_true rfl⟩) (fun H locs hI => ?_)
  refine lv_astore (lv' := [(4, .ref (g.2.2 0 r_2)), (0, .ref (b a)), (1, .int x1), (2, .int x2), (3, .int x3)]) C0.1 C0.2.1 dX2_refusalToHear_6 hl (by decide) rfl (fun ls hl => ?_)
  refine lv_aload C0.1 C0.2.1 dX2_refusalToHear_8 (lv_at hl 0 rfl) ?_
  refine r_refu C0 C1 hI 0 (by decide) (n := "NOTHING") rfl w_599 dX2_refusalToHear_10 ?_
  obtain ⟨h_4, hf⟩ := chk_some hf
  have h_4 := (Bool.and_eq_true _ _ ▸ h_4)
  have h_4 := refu_inj C1 (of_decide_eq_true h_4.1) (of_decide_eq_true h_4.2)
  refine lv_acmp_eq (rx := some (g.2.2 0 r_2)) (ry := some (g.2.2 0 0)) (tgt := 19) C0.1 C0.2.1 dX2_refusalToHear_13 (by decide) (fun c_3 => ?_) (fun c_3 => ?_)
  · have hf := (if_pos (h_4.mp c_3)).symm.trans hf
    refine lv_iload_n C0.1 C0.2.1 dX2_refusalToHear_19 rfl (lv_at hl 4 rfl) ?_
    refine lv_iconst (v := 1) C0.1 C0.2.1 dX2_refusalToHear_20 (by decide) ?_
    refine lv_icmp_lt (tgt := 30) C0.1 C0.2.1 dX2_refusalToHear_21 (by decide) (fun c_5 => ?_) (fun c_5 => ?_)
    · have hf := (if_pos c_5).symm.trans hf
      refine r_refu C0 C1 hI 8 (by decide) (n := "WRONG_LOUDNESS") rfl w_1349 dX2_refusalToHear_30 ?_
      exact ee_e C0 hI hr hlocks hf dX2_refusalToHear_33
    · have hf := (if_neg c_5).symm.trans hf
      refine lv_iload_n C0.1 C0.2.1 dX2_refusalToHear_24 rfl (lv_at hl 4 rfl) ?_
      refine lv_bipush (v := 9) C0.1 C0.2.1 dX2_refusalToHear_25 (by decide) ?_
      refine lv_icmp_le (tgt := 34) C0.1 C0.2.1 dX2_refusalToHear_27 (by decide) (fun c_6 => ?_) (fun c_6 => ?_)
      · have hf := (if_pos c_6).symm.trans hf
        refine lv_aload_n C0.1 C0.2.1 dX2_refusalToHear_34 rfl (lv_at hl 1 rfl) ?_
        refine lv_iload_n C0.1 C0.2.1 dX2_refusalToHear_35 rfl (lv_at hl 2 rfl) ?_
        refine lv_iload_n C0.1 C0.2.1 dX2_refusalToHear_36 rfl (lv_at hl 3 rfl) ?_
        obtain ⟨r_8, h_7, hf⟩ := ob_some hf
        refine k_i C1 hI (q_V C0 C1 hI a (c_X2_entitles l g X r b H.size n M a ha x1 x2 h_7) w_848 w_850 w_35 w_72 w_851 ⟨rfl, rfl⟩ hd_X2_entitles ⟨Nat.le_of_ble_eq_true rfl, Nat.le_of_ble_eq_true rfl⟩ (kdlt1 ha) ((shI_1 ha) _) rfl rfl rfl hl.1 rfl (Nat.le_of_ble_eq_true rfl) dX2_refusalToHear_37 ⟨Nat.le_of_ble_eq_true rfl, Nat.le_of_ble_eq_true rfl⟩) (fun H locs hI => ?_)
        refine lv_if_ne (tgt := 47) C0.1 C0.2.1 dX2_refusalToHear_40 (by decide) (fun c_9 => ?_) (fun c_9 => ?_)
        · have hf := (if_neg c_9).symm.trans hf
          refine lv_aload_n C0.1 C0.2.1 dX2_refusalToHear_47 rfl (lv_at hl 1 rfl) ?_
          refine lv_iload_n C0.1 C0.2.1 dX2_refusalToHear_48 rfl (lv_at hl 2 rfl) ?_
          obtain ⟨r_11, h_10, hf⟩ := ob_some hf
          refine k_e C1 hI (q_V C0 C1 hI a (c_X2_refusalToSettle l g X r b H.size n M a ha x1 h_10) w_1351 w_914 w_43 w_72 w_915 ⟨rfl, rfl⟩ hd_X2_refusalToSettle ⟨Nat.le_of_ble_eq_true rfl, Nat.le_of_ble_eq_true rfl⟩ (kdlt1 ha) ((shI_1 ha) _) rfl rfl rfl hl.1 rfl (Nat.le_of_ble_eq_true rfl) dX2_refusalToHear_49 ⟨Nat.le_of_ble_eq_true rfl, Nat.le_of_ble_eq_true rfl⟩) (fun H locs hI => ?_)
          refine lv_astore (lv' := [(4, .ref (g.2.2 0 r_11)), (0, .ref (b a)), (1, .int x1), (2, .int x2), (3, .int x3)]) C0.1 C0.2.1 dX2_refusalToHear_52 hl (by decide) rfl (fun ls hl => ?_)
          refine lv_aload C0.1 C0.2.1 dX2_refusalToHear_54 (lv_at hl 0 rfl) ?_
          refine r_refu C0 C1 hI 0 (by decide) (n := "NOTHING") rfl w_599 dX2_refusalToHear_56 ?_
          obtain ⟨h_13, hf⟩ := chk_some hf
          have h_13 := (Bool.and_eq_true _ _ ▸ h_13)
          have h_13 := refu_inj C1 (of_decide_eq_true h_13.1) (of_decide_eq_true h_13.2)
          refine lv_acmp_eq (rx := some (g.2.2 0 r_11)) (ry := some (g.2.2 0 0)) (tgt := 65) C0.1 C0.2.1 dX2_refusalToHear_59 (by decide) (fun c_12 => ?_) (fun c_12 => ?_)
          · have hf := (if_pos (h_13.mp c_12)).symm.trans hf
            refine lv_aload_n C0.1 C0.2.1 dX2_refusalToHear_65 rfl (lv_at hl 1 rfl) ?_
            refine lv_iload_n C0.1 C0.2.1 dX2_refusalToHear_66 rfl (lv_at hl 3 rfl) ?_
            obtain ⟨r_15, h_14, hf⟩ := ob_some hf
            refine k_i C1 hI (q_V C0 C1 hI a (c_X2_sits l g X r b H.size n M a ha x2 h_14) w_801 w_803 w_28 w_72 w_804 ⟨rfl, rfl⟩ hd_X2_sits ⟨Nat.le_of_ble_eq_true rfl, Nat.le_of_ble_eq_true rfl⟩ (kdlt1 ha) ((shI_1 ha) _) rfl rfl rfl hl.1 rfl (Nat.le_of_ble_eq_true rfl) dX2_refusalToHear_67 ⟨Nat.le_of_ble_eq_true rfl, Nat.le_of_ble_eq_true rfl⟩) (fun H locs hI => ?_)
            refine lv_if_ne (tgt := 77) C0.1 C0.2.1 dX2_refusalToHear_70 (by decide) (fun c_16 => ?_) (fun c_16 => ?_)
            · have hf := (if_neg c_16).symm.trans hf
              refine lv_aload_n C0.1 C0.2.1 dX2_refusalToHear_77 rfl (lv_at hl 1 rfl) ?_
              refine r_get (C := RX2) (T := TX2) (N9 := 12) (ci := 4) C0 C1 hI iX2 rfl a 9 (kdlt1 ha) (by decide) ((shI_1 ha) _) rfl rfl w_203 dX2_refusalToHear_78 ?_
              refine lv_iload_n C0.1 C0.2.1 dX2_refusalToHear_81 rfl (lv_at hl 2 rfl) ?_
              obtain ⟨h_17, hf⟩ := chk_some hf
              refine r_aald (t0 := 1) C0 C1 hI (a + 6) (kdlt4 (kd1_6 ha)) (shI_4 (kd1_6 ha)) rfl h_17 rfl dX2_refusalToHear_82 ?_
              refine lv_iload_n C0.1 C0.2.1 dX2_refusalToHear_83 rfl (lv_at hl 3 rfl) ?_
              obtain ⟨r_19, h_18, hf⟩ := ob_some hf
              refine k_i C1 hI (q_VN C0 C1 hI (a + 6 + 1 + 4 * ix x1) (c_X6_hasCroakOf l g X r b H.size n M (a + 6 + 1 + 4 * ix x1) (kd4_i (kd1_6 ha) h_17) x2 h_18) 44 rfl w_1354 w_58 w_73 w_1355 ⟨rfl, rfl⟩ hd_X6_hasCroakOf ⟨Nat.le_of_ble_eq_true rfl, Nat.le_of_ble_eq_true rfl⟩ (kdlt5 (kd4_i (kd1_6 ha) h_17)) ((shI_5 (kd4_i (kd1_6 ha) h_17)) _) rfl rfl rfl hl.1 rfl (Nat.le_of_ble_eq_true rfl) dX2_refusalToHear_84 ⟨Nat.le_of_ble_eq_true rfl, Nat.le_of_ble_eq_true rfl⟩) (fun H locs hI => ?_)
              refine lv_if_eq (tgt := 96) C0.1 C0.2.1 dX2_refusalToHear_87 (by decide) (fun c_20 => ?_) (fun c_20 => ?_)
              · have hf := (if_pos c_20).symm.trans hf
                refine r_refu C0 C1 hI 0 (by decide) (n := "NOTHING") rfl w_599 dX2_refusalToHear_96 ?_
                exact ee_e C0 hI hr hlocks hf dX2_refusalToHear_99
              · have hf := (if_neg c_20).symm.trans hf
                refine r_refu C0 C1 hI 20 (by decide) (n := "HAS_CROAKED") rfl w_1356 dX2_refusalToHear_90 ?_
                refine lv_goto (tgt := 99) C0.1 C0.2.1 dX2_refusalToHear_93 (by decide) ?_
                exact ee_e C0 hI hr hlocks hf dX2_refusalToHear_99
            · have hf := (if_pos c_16).symm.trans hf
              refine r_refu C0 C1 hI 19 (by decide) (n := "NO_SEAT") rfl w_1343 dX2_refusalToHear_73 ?_
              exact ee_e C0 hI hr hlocks hf dX2_refusalToHear_76
          · have hf := (if_neg (fun z => c_12 (h_13.mpr z))).symm.trans hf
            refine lv_aload C0.1 C0.2.1 dX2_refusalToHear_62 (lv_at hl 0 rfl) ?_
            exact ee_e C0 hI hr hlocks hf dX2_refusalToHear_64
        · have hf := (if_pos c_9).symm.trans hf
          refine r_refu C0 C1 hI 9 (by decide) (n := "NOT_ENTITLED") rfl w_852 dX2_refusalToHear_43 ?_
          exact ee_e C0 hI hr hlocks hf dX2_refusalToHear_46
      · have hf := (if_neg c_6).symm.trans hf
        refine r_refu C0 C1 hI 8 (by decide) (n := "WRONG_LOUDNESS") rfl w_1349 dX2_refusalToHear_30 ?_
        exact ee_e C0 hI hr hlocks hf dX2_refusalToHear_33
  · have hf := (if_neg (fun z => c_3 (h_4.mpr z))).symm.trans hf
    refine lv_aload C0.1 C0.2.1 dX2_refusalToHear_16 (lv_at hl 0 rfl) ?_
    exact ee_e C0 hI hr hlocks hf dX2_refusalToHear_18

def F_X6_addCroak (n : Nat) (a : Nat) (x1 : Int32) (x2 : Int32) (x3 : Int32) (M : Mem) : Option Mem :=
  (if 12 ≤ (M a 7) then some M else chk (inb (M a 7) 12) (lt' (up2 M (a + 2) (ix (M a 7)) x1) (fun M_5 => chk (inb (M_5 a 7) 12) (lt' (up2 M_5 (a + 3) (ix (M_5 a 7)) x2) (fun M_10 => lt' (up2 M_10 a 7 ((M_10 a 7) + 1)) (fun M_12 => (if x3 = 0 then lt' (up2 M_12 a 8 ((M_12 a 8) ||| 0)) (fun M_15 => some M_15) else lt' (up2 M_12 a 8 ((M_12 a 8) ||| (1 <<< (x1 &&& 31)))) (fun M_17 => some M_17))))))))
theorem hd_X6_addCroak : yX6_addCroak.cls ≠ "java/lang/invoke/MethodHandle" ∧ yX6_addCroak.cls ≠ "java/lang/invoke/VarHandle" ∧ (parseMethodDescriptor yX6_addCroak.desc).map (fun d => d.parameters.length) = some 3 := ⟨by decide +kernel, by decide +kernel, by decide +kernel⟩
set_option maxHeartbeats 4000000 in
set_option maxRecDepth 100000 in
theorem c_X6_addCroak (l : Launch) (g : GG) (X : va_W) (r : Nat → Nat) (b : Nat → Nat) (sz n : Nat) (M : Mem) (a : Nat) (ha : kdI a = 5) (x1 : Int32) (x2 : Int32) (x3 : Int32)  {M' : Mem} (hf : F_X6_addCroak n a x1 x2 x3 M = some M') : Met l yX6_addCroak (.code yX6_addCroak cX6_addCroak 4 none :: LWg) (rmD 0 0 0) (va_Pc [.ref (b a), .int x1, .int x2, .int x3] (PreP g X 372 (shI g r b) b sz M)) (Qv g X 372 (shI g r b) b sz M') 0 0 (AA X b 372 sz) := by
  refine met_go (by decide +kernel) rfl (Nat.le_of_ble_eq_true rfl) ?_
  intro p e s m below meth c ls H locs C0 C1 hr hlocks hnm hsz hl hI
  subst hsz
  have hl : lv_has ls 4 [(0, .ref (b a)), (1, .int x1), (2, .int x2), (3, .int x3)] := hl
  unfold F_X6_addCroak at hf
  refine lv_aload_n C0.1 C0.2.1 dX6_addCroak_0 rfl (lv_at hl 0 rfl) ?_
  refine r_get (C := RX6) (T := TX6) (N9 := 12) (ci := 8) C0 C1 hI iX6 rfl a 7 (kdlt5 ha) (by decide) ((shI_5 ha) _) rfl rfl w_147 dX6_addCroak_1 ?_
  refine lv_bipush (v := 12) C0.1 C0.2.1 dX6_addCroak_4 (by decide) ?_
  refine lv_icmp_ge (tgt := 59) C0.1 C0.2.1 dX6_addCroak_6 (by decide) (fun c_1 => ?_) (fun c_1 => ?_)
  · have hf := (if_pos c_1).symm.trans hf
    exact ee_vm C0 hI hr hlocks hf dX6_addCroak_59
  · have hf := (if_neg c_1).symm.trans hf
    refine lv_aload_n C0.1 C0.2.1 dX6_addCroak_9 rfl (lv_at hl 0 rfl) ?_
    refine r_get (C := RX6) (T := TX6) (N9 := 12) (ci := 8) C0 C1 hI iX6 rfl a 5 (kdlt5 ha) (by decide) ((shI_5 ha) _) rfl rfl w_141 dX6_addCroak_10 ?_
    refine lv_aload_n C0.1 C0.2.1 dX6_addCroak_13 rfl (lv_at hl 0 rfl) ?_
    refine r_get (C := RX6) (T := TX6) (N9 := 12) (ci := 8) C0 C1 hI iX6 rfl a 7 (kdlt5 ha) (by decide) ((shI_5 ha) _) rfl rfl w_147 dX6_addCroak_14 ?_
    refine lv_iload_n C0.1 C0.2.1 dX6_addCroak_17 rfl (lv_at hl 1 rfl) ?_
    obtain ⟨h_2, hf⟩ := chk_some hf
    refine r_iast C0 C1 hI (a + 2) (kdlt2 (kd5_2 ha)) (shI_2 (kd5_2 ha)) h_2 dX6_addCroak_18 (fun H locs hI => ?_)
    obtain ⟨M_5, e_6⟩ : ∃ z : Mem, z = up2 M (a + 2) (ix (M a 7)) x1 := ⟨_, rfl⟩
    rw [← e_6] at hI
    have hf := lt_at e_6 hf
    refine lv_aload_n C0.1 C0.2.1 dX6_addCroak_19 rfl (lv_at hl 0 rfl) ?_
    refine r_get (C := RX6) (T := TX6) (N9 := 12) (ci := 8) C0 C1 hI iX6 rfl a 6 (kdlt5 ha) (by decide) ((shI_5 ha) _) rfl rfl w_144 dX6_addCroak_20 ?_
    refine lv_aload_n C0.1 C0.2.1 dX6_addCroak_23 rfl (lv_at hl 0 rfl) ?_
    refine r_get (C := RX6) (T := TX6) (N9 := 12) (ci := 8) C0 C1 hI iX6 rfl a 7 (kdlt5 ha) (by decide) ((shI_5 ha) _) rfl rfl w_147 dX6_addCroak_24 ?_
    refine lv_iload_n C0.1 C0.2.1 dX6_addCroak_27 rfl (lv_at hl 2 rfl) ?_
    obtain ⟨h_7, hf⟩ := chk_some hf
    refine r_iast C0 C1 hI (a + 3) (kdlt2 (kd5_3 ha)) (shI_2 (kd5_3 ha)) h_7 dX6_addCroak_28 (fun H locs hI => ?_)
    obtain ⟨M_10, e_11⟩ : ∃ z : Mem, z = up2 M_5 (a + 3) (ix (M_5 a 7)) x2 := ⟨_, rfl⟩
    rw [← e_11] at hI
    have hf := lt_at e_11 hf
    refine lv_aload_n C0.1 C0.2.1 dX6_addCroak_29 rfl (lv_at hl 0 rfl) ?_
    refine lv_dup C0.1 C0.2.1 dX6_addCroak_30 rfl ?_
    refine r_get (C := RX6) (T := TX6) (N9 := 12) (ci := 8) C0 C1 hI iX6 rfl a 7 (kdlt5 ha) (by decide) ((shI_5 ha) _) rfl rfl w_147 dX6_addCroak_31 ?_
    refine lv_iconst (v := 1) C0.1 C0.2.1 dX6_addCroak_34 (by decide) ?_
    refine lv_iadd C0.1 C0.2.1 dX6_addCroak_35 ?_
    refine r_put (C := RX6) (T := TX6) (N9 := 12) (ci := 8) (fs := fMo b a) (ty := .int) C0 C1 hI iX6 tyX6 tyX6_ok nmX6 rfl a 7 (kdlt5 ha) (by decide) (shI_5 ha) rfl rfl rfl (by decide +kernel) ⟨rfl, rfl⟩ (Nat.le_of_ble_eq_true rfl) w_147 dX6_addCroak_36 (fun H locs hI => ?_)
    obtain ⟨M_12, e_13⟩ : ∃ z : Mem, z = up2 M_10 a 7 ((M_10 a 7) + 1) := ⟨_, rfl⟩
    rw [← e_13] at hI
    have hf := lt_at e_13 hf
    refine lv_aload_n C0.1 C0.2.1 dX6_addCroak_39 rfl (lv_at hl 0 rfl) ?_
    refine lv_dup C0.1 C0.2.1 dX6_addCroak_40 rfl ?_
    refine r_get (C := RX6) (T := TX6) (N9 := 12) (ci := 8) C0 C1 hI iX6 rfl a 8 (kdlt5 ha) (by decide) ((shI_5 ha) _) rfl rfl w_150 dX6_addCroak_41 ?_
    refine lv_iload_n C0.1 C0.2.1 dX6_addCroak_44 rfl (lv_at hl 3 rfl) ?_
    refine lv_if_eq (tgt := 54) C0.1 C0.2.1 dX6_addCroak_45 (by decide) (fun c_14 => ?_) (fun c_14 => ?_)
    · have hf := (if_pos c_14).symm.trans hf
      refine lv_iconst (v := 0) C0.1 C0.2.1 dX6_addCroak_54 (by decide) ?_
      refine lv_ior C0.1 C0.2.1 dX6_addCroak_55 ?_
      refine r_put (C := RX6) (T := TX6) (N9 := 12) (ci := 8) (fs := fMo b a) (ty := .int) C0 C1 hI iX6 tyX6 tyX6_ok nmX6 rfl a 8 (kdlt5 ha) (by decide) (shI_5 ha) rfl rfl rfl (by decide +kernel) ⟨rfl, rfl⟩ (Nat.le_of_ble_eq_true rfl) w_150 dX6_addCroak_56 (fun H locs hI => ?_)
      obtain ⟨M_15, e_16⟩ : ∃ z : Mem, z = up2 M_12 a 8 ((M_12 a 8) ||| 0) := ⟨_, rfl⟩
      rw [← e_16] at hI
      have hf := lt_at e_16 hf
      exact ee_vm C0 hI hr hlocks hf dX6_addCroak_59
    · have hf := (if_neg c_14).symm.trans hf
      refine lv_iconst (v := 1) C0.1 C0.2.1 dX6_addCroak_48 (by decide) ?_
      refine lv_iload_n C0.1 C0.2.1 dX6_addCroak_49 rfl (lv_at hl 1 rfl) ?_
      refine lv_ishl C0.1 C0.2.1 dX6_addCroak_50 ?_
      refine lv_goto (tgt := 55) C0.1 C0.2.1 dX6_addCroak_51 (by decide) ?_
      refine lv_ior C0.1 C0.2.1 dX6_addCroak_55 ?_
      refine r_put (C := RX6) (T := TX6) (N9 := 12) (ci := 8) (fs := fMo b a) (ty := .int) C0 C1 hI iX6 tyX6 tyX6_ok nmX6 rfl a 8 (kdlt5 ha) (by decide) (shI_5 ha) rfl rfl rfl (by decide +kernel) ⟨rfl, rfl⟩ (Nat.le_of_ble_eq_true rfl) w_150 dX6_addCroak_56 (fun H locs hI => ?_)
      obtain ⟨M_17, e_18⟩ : ∃ z : Mem, z = up2 M_12 a 8 ((M_12 a 8) ||| (1 <<< (x1 &&& 31))) := ⟨_, rfl⟩
      rw [← e_18] at hI
      have hf := lt_at e_18 hf
      exact ee_vm C0 hI hr hlocks hf dX6_addCroak_59

def F_X6_isFor (n : Nat) (a : Nat) (x1 : Int32) (M : Mem) : Option Int32 :=
  chk (inb x1 12) ((if (((M a 8) >>> ((M (a + 2) (ix x1)) &&& 31)) &&& 1) = 0 then some 0 else some 1))
theorem hd_X6_isFor : yX6_isFor.cls ≠ "java/lang/invoke/MethodHandle" ∧ yX6_isFor.cls ≠ "java/lang/invoke/VarHandle" ∧ (parseMethodDescriptor yX6_isFor.desc).map (fun d => d.parameters.length) = some 1 := ⟨by decide +kernel, by decide +kernel, by decide +kernel⟩
set_option maxHeartbeats 4000000 in
set_option maxRecDepth 100000 in
theorem c_X6_isFor (l : Launch) (g : GG) (X : va_W) (r : Nat → Nat) (b : Nat → Nat) (sz n : Nat) (M : Mem) (a : Nat) (ha : kdI a = 5) (x1 : Int32) {r0 : Int32} (hf : F_X6_isFor n a x1 M = some r0) : Met l yX6_isFor (.code yX6_isFor cX6_isFor 2 (some .boolean) :: LWg) (rmD 0 0 0) (va_Pc [.ref (b a), .int x1] (PreP g X 372 (shI g r b) b sz M)) (Qi g X 372 (shI g r b) b sz r0 M) 0 0 (AA X b 372 sz) := by
  refine met_go (by decide +kernel) rfl (Nat.le_of_ble_eq_true rfl) ?_
  intro p e s m below meth c ls H locs C0 C1 hr hlocks hnm hsz hl hI
  subst hsz
  have hl : lv_has ls 2 [(0, .ref (b a)), (1, .int x1)] := hl
  unfold F_X6_isFor at hf
  refine lv_aload_n C0.1 C0.2.1 dX6_isFor_0 rfl (lv_at hl 0 rfl) ?_
  refine r_get (C := RX6) (T := TX6) (N9 := 12) (ci := 8) C0 C1 hI iX6 rfl a 8 (kdlt5 ha) (by decide) ((shI_5 ha) _) rfl rfl w_150 dX6_isFor_1 ?_
  refine lv_aload_n C0.1 C0.2.1 dX6_isFor_4 rfl (lv_at hl 0 rfl) ?_
  refine r_get (C := RX6) (T := TX6) (N9 := 12) (ci := 8) C0 C1 hI iX6 rfl a 5 (kdlt5 ha) (by decide) ((shI_5 ha) _) rfl rfl w_141 dX6_isFor_5 ?_
  refine lv_iload_n C0.1 C0.2.1 dX6_isFor_8 rfl (lv_at hl 1 rfl) ?_
  obtain ⟨h_1, hf⟩ := chk_some hf
  refine r_iald C0 C1 hI (a + 2) (kdlt2 (kd5_2 ha)) (shI_2 (kd5_2 ha)) h_1 dX6_isFor_9 ?_
  refine lv_ishr C0.1 C0.2.1 dX6_isFor_10 ?_
  refine lv_iconst (v := 1) C0.1 C0.2.1 dX6_isFor_11 (by decide) ?_
  refine lv_iand C0.1 C0.2.1 dX6_isFor_12 ?_
  refine lv_if_eq (tgt := 20) C0.1 C0.2.1 dX6_isFor_13 (by decide) (fun c_2 => ?_) (fun c_2 => ?_)
  · have hf := (if_pos c_2).symm.trans hf
    refine lv_iconst (v := 0) C0.1 C0.2.1 dX6_isFor_20 (by decide) ?_
    exact ee_z C0 hI hr hlocks rfl hf dX6_isFor_21
  · have hf := (if_neg c_2).symm.trans hf
    refine lv_iconst (v := 1) C0.1 C0.2.1 dX6_isFor_16 (by decide) ?_
    refine lv_goto (tgt := 21) C0.1 C0.2.1 dX6_isFor_17 (by decide) ?_
    exact ee_z C0 hI hr hlocks rfl hf dX6_isFor_21

def F_X6_sumOfSide_L4 (n : Nat) (a : Nat) (M : Mem) : Nat → Int32 → Int32 → Int32 → Option Int32
  | 0, _, _, _ => none
  | k4 + 1, x1_4, x2_4, x3_4 =>
    (if (M a 7) ≤ x3_4 then some x2_4 else ob (F_X6_isFor n a x3_4 M) (fun r_4_3 => (if r_4_3 = x1_4 then chk (inb x3_4 12) (lt' (x2_4 + (M (a + 3) (ix x3_4))) (fun x2_4_8 => lt' (x3_4 + 1) (fun x3_4_10 => F_X6_sumOfSide_L4 n a M k4 x1_4 x2_4_8 x3_4_10))) else lt' (x3_4 + 1) (fun x3_4_5 => F_X6_sumOfSide_L4 n a M k4 x1_4 x2_4 x3_4_5))))
def F_X6_sumOfSide (n : Nat) (a : Nat) (x1 : Int32) (M : Mem) : Option Int32 :=
  F_X6_sumOfSide_L4 n a M n x1 0 0
theorem hd_X6_sumOfSide : yX6_sumOfSide.cls ≠ "java/lang/invoke/MethodHandle" ∧ yX6_sumOfSide.cls ≠ "java/lang/invoke/VarHandle" ∧ (parseMethodDescriptor yX6_sumOfSide.desc).map (fun d => d.parameters.length) = some 1 := ⟨by decide +kernel, by decide +kernel, by decide +kernel⟩
set_option maxHeartbeats 4000000 in
set_option maxRecDepth 100000 in
theorem c_X6_sumOfSide (l : Launch) (g : GG) (X : va_W) (r : Nat → Nat) (b : Nat → Nat) (sz n : Nat) (M : Mem) (a : Nat) (ha : kdI a = 5) (x1 : Int32) {r0 : Int32} (hf : F_X6_sumOfSide n a x1 M = some r0) : Met l yX6_sumOfSide (.code yX6_sumOfSide cX6_sumOfSide 4 (some .int) :: LWg) (rmD 1 0 0) (va_Pc [.ref (b a), .int x1] (PreP g X 372 (shI g r b) b sz M)) (Qi g X 372 (shI g r b) b sz r0 M) 0 0 (AA X b 372 sz) := by
  refine met_go (by decide +kernel) rfl (Nat.le_of_ble_eq_true rfl) ?_
  intro p e s m below meth c ls H locs C0 C1 hr hlocks hnm hsz hl hI
  subst hsz
  have hl : lv_has ls 4 [(0, .ref (b a)), (1, .int x1)] := hl
  unfold F_X6_sumOfSide at hf
  refine lv_iconst (v := 0) C0.1 C0.2.1 dX6_sumOfSide_0 (by decide) ?_
  refine lv_istore_n (lv' := [(2, .int 0), (0, .ref (b a)), (1, .int x1)]) C0.1 C0.2.1 dX6_sumOfSide_1 rfl hl (by decide) rfl (fun ls hl => ?_)
  refine lv_iconst (v := 0) C0.1 C0.2.1 dX6_sumOfSide_2 (by decide) ?_
  refine lv_istore_n (lv' := [(3, .int 0), (2, .int 0), (0, .ref (b a)), (1, .int x1)]) C0.1 C0.2.1 dX6_sumOfSide_3 rfl hl (by decide) rfl (fun ls hl => ?_)
  have L4 : ∀ (k4 : Nat) (x1_4 : Int32) (x2_4 : Int32) (x3_4 : Int32), F_X6_sumOfSide_L4 n a M k4 x1_4 x2_4 x3_4 = some r0 → ∀ (H : Heap) (locs : List Loc) (ls : Array Slot), PI g X 372 (shI g r b) b s M H locs → lv_has ls 4 [(0, .ref (b a)), (1, .int x1_4), (2, .int x2_4), (3, .int x3_4)] → W p l e (rmD 1 0 0) s m ([.ref (b a), .int x1] : List Value).toArray below meth c H locs 0 0 (MQ below (Qi g X 372 (shI g r b) b s.heap.size r0 M) ([.ref (b a), .int x1] : List Value).toArray s 0 0 (AA X b 372 s.heap.size)) (F0 m 4 ls []) := by
    intro k4
    induction k4 with
    | zero => intro x1_4 x2_4 x3_4 hf; exact absurd (show (none : Option Int32) = some r0 from hf) (fun h => by cases h)
    | succ k4 ih4 =>
      intro x1_4 x2_4 x3_4 hf H locs ls hI hl
      unfold F_X6_sumOfSide_L4 at hf
      refine lv_iload_n C0.1 C0.2.1 dX6_sumOfSide_4 rfl (lv_at hl 3 rfl) ?_
      refine lv_aload_n C0.1 C0.2.1 dX6_sumOfSide_5 rfl (lv_at hl 0 rfl) ?_
      refine r_get (C := RX6) (T := TX6) (N9 := 12) (ci := 8) C0 C1 hI iX6 rfl a 7 (kdlt5 ha) (by decide) ((shI_5 ha) _) rfl rfl w_147 dX6_sumOfSide_6 ?_
      refine lv_icmp_ge (tgt := 36) C0.1 C0.2.1 dX6_sumOfSide_9 (by decide) (fun c_4_1 => ?_) (fun c_4_1 => ?_)
      · have hf := (if_pos c_4_1).symm.trans hf
        refine lv_iload_n C0.1 C0.2.1 dX6_sumOfSide_36 rfl (lv_at hl 2 rfl) ?_
        exact ee_i C0 hI hr hlocks hf dX6_sumOfSide_37
      · have hf := (if_neg c_4_1).symm.trans hf
        refine lv_aload_n C0.1 C0.2.1 dX6_sumOfSide_12 rfl (lv_at hl 0 rfl) ?_
        refine lv_iload_n C0.1 C0.2.1 dX6_sumOfSide_13 rfl (lv_at hl 3 rfl) ?_
        obtain ⟨r_4_3, h_4_2, hf⟩ := ob_some hf
        refine k_i C1 hI (q_V C0 C1 hI a (c_X6_isFor l g X r b H.size n M a ha x3_4 h_4_2) w_642 w_644 w_14 w_73 w_645 ⟨rfl, rfl⟩ hd_X6_isFor ⟨Nat.le_of_ble_eq_true rfl, Nat.le_of_ble_eq_true rfl⟩ (kdlt5 ha) ((shI_5 ha) _) rfl rfl rfl hl.1 rfl (Nat.le_of_ble_eq_true rfl) dX6_sumOfSide_14 ⟨Nat.le_of_ble_eq_true rfl, Nat.le_of_ble_eq_true rfl⟩) (fun H locs hI => ?_)
        refine lv_iload_n C0.1 C0.2.1 dX6_sumOfSide_17 rfl (lv_at hl 1 rfl) ?_
        refine lv_icmp_ne (tgt := 30) C0.1 C0.2.1 dX6_sumOfSide_18 (by decide) (fun c_4_4 => ?_) (fun c_4_4 => ?_)
        · have hf := (if_neg c_4_4).symm.trans hf
          obtain ⟨x3_4_5, e_4_6⟩ : ∃ z : Int32, z = x3_4 + 1 := ⟨_, rfl⟩
          have hf := lt_at e_4_6 hf
          refine lv_iinc (v := x3_4_5) (lv' := [(3, .int x3_4_5), (0, .ref (b a)), (1, .int x1_4), (2, .int x2_4)]) C0.1 C0.2.1 dX6_sumOfSide_30 hl (k := 3) rfl (by rw [e_4_6]; rfl) (by decide) rfl (fun ls hl => ?_)
          refine lv_goto (tgt := 4) C0.1 C0.2.1 dX6_sumOfSide_33 (by decide) ?_
          exact ih4 x1_4 x2_4 x3_4_5 hf H locs ls hI (lv_sub hl [1, 2, 3, 0] rfl)
        · have hf := (if_pos c_4_4).symm.trans hf
          refine lv_iload_n C0.1 C0.2.1 dX6_sumOfSide_21 rfl (lv_at hl 2 rfl) ?_
          refine lv_aload_n C0.1 C0.2.1 dX6_sumOfSide_22 rfl (lv_at hl 0 rfl) ?_
          refine r_get (C := RX6) (T := TX6) (N9 := 12) (ci := 8) C0 C1 hI iX6 rfl a 6 (kdlt5 ha) (by decide) ((shI_5 ha) _) rfl rfl w_144 dX6_sumOfSide_23 ?_
          refine lv_iload_n C0.1 C0.2.1 dX6_sumOfSide_26 rfl (lv_at hl 3 rfl) ?_
          obtain ⟨h_4_7, hf⟩ := chk_some hf
          refine r_iald C0 C1 hI (a + 3) (kdlt2 (kd5_3 ha)) (shI_2 (kd5_3 ha)) h_4_7 dX6_sumOfSide_27 ?_
          refine lv_iadd C0.1 C0.2.1 dX6_sumOfSide_28 ?_
          refine lv_topi (fun x2_4_8 e_4_9 => ?_)
          have hf := lt_at e_4_9 hf
          refine lv_istore_n (lv' := [(2, .int x2_4_8), (0, .ref (b a)), (1, .int x1_4), (3, .int x3_4)]) C0.1 C0.2.1 dX6_sumOfSide_29 rfl hl (by decide) rfl (fun ls hl => ?_)
          obtain ⟨x3_4_10, e_4_11⟩ : ∃ z : Int32, z = x3_4 + 1 := ⟨_, rfl⟩
          have hf := lt_at e_4_11 hf
          refine lv_iinc (v := x3_4_10) (lv' := [(3, .int x3_4_10), (2, .int x2_4_8), (0, .ref (b a)), (1, .int x1_4)]) C0.1 C0.2.1 dX6_sumOfSide_30 hl (k := 3) rfl (by rw [e_4_11]; rfl) (by decide) rfl (fun ls hl => ?_)
          refine lv_goto (tgt := 4) C0.1 C0.2.1 dX6_sumOfSide_33 (by decide) ?_
          exact ih4 x1_4 x2_4_8 x3_4_10 hf H locs ls hI (lv_sub hl [2, 3, 1, 0] rfl)
  exact L4 n x1 0 0 hf H locs ls hI (lv_sub hl [2, 3, 1, 0] rfl)

def F_X2_hear (n : Nat) (a : Nat) (x1 : Int32) (x2 : Int32) (x3 : Int32) (x4 : Int32) (M : Mem) : Option (Int32 × Mem) :=
  chk (inb x1 6) (chk (inb x2 12) (ob (F_X6_addCroak n (a + 6 + 1 + 4 * ix x1) x2 (x3 * (M (a + 2) (ix x2))) x4 M) (fun M_4 => ob (F_X6_sumOfSide n (a + 6 + 1 + 4 * ix x1) x4 M_4) (fun r_6 => some (r_6, M_4)))))
theorem hd_X2_hear : yX2_hear.cls ≠ "java/lang/invoke/MethodHandle" ∧ yX2_hear.cls ≠ "java/lang/invoke/VarHandle" ∧ (parseMethodDescriptor yX2_hear.desc).map (fun d => d.parameters.length) = some 4 := ⟨by decide +kernel, by decide +kernel, by decide +kernel⟩
set_option maxHeartbeats 4000000 in
set_option maxRecDepth 100000 in
theorem c_X2_hear (l : Launch) (g : GG) (X : va_W) (r : Nat → Nat) (b : Nat → Nat) (sz n : Nat) (M : Mem) (a : Nat) (ha : kdI a = 1) (x1 : Int32) (x2 : Int32) (x3 : Int32) (x4 : Int32) {r0 : Int32} {M' : Mem} (hf : F_X2_hear n a x1 x2 x3 x4 M = some (r0, M')) : Met l yX2_hear (.code yX2_hear cX2_hear 6 (some .int) :: LWg) (rmD 2 0 0) (va_Pc [.ref (b a), .int x1, .int x2, .int x3, .int x4] (PreP g X 372 (shI g r b) b sz M)) (Qi g X 372 (shI g r b) b sz r0 M') 0 0 (AA X b 372 sz) := by
  refine met_go (by decide +kernel) rfl (Nat.le_of_ble_eq_true rfl) ?_
  intro p e s m below meth c ls H locs C0 C1 hr hlocks hnm hsz hl hI
  subst hsz
  have hl : lv_has ls 6 [(0, .ref (b a)), (1, .int x1), (2, .int x2), (3, .int x3), (4, .int x4)] := hl
  unfold F_X2_hear at hf
  refine lv_aload_n C0.1 C0.2.1 dX2_hear_0 rfl (lv_at hl 0 rfl) ?_
  refine r_get (C := RX2) (T := TX2) (N9 := 12) (ci := 4) C0 C1 hI iX2 rfl a 9 (kdlt1 ha) (by decide) ((shI_1 ha) _) rfl rfl w_203 dX2_hear_1 ?_
  refine lv_iload_n C0.1 C0.2.1 dX2_hear_4 rfl (lv_at hl 1 rfl) ?_
  obtain ⟨h_1, hf⟩ := chk_some hf
  refine r_aald (t0 := 1) C0 C1 hI (a + 6) (kdlt4 (kd1_6 ha)) (shI_4 (kd1_6 ha)) rfl h_1 rfl dX2_hear_5 ?_
  refine lv_astore (lv' := [(5, .ref (b (a + 6 + 1 + 4 * ix x1))), (0, .ref (b a)), (1, .int x1), (2, .int x2), (3, .int x3), (4, .int x4)]) C0.1 C0.2.1 dX2_hear_6 hl (by decide) rfl (fun ls hl => ?_)
  refine lv_aload C0.1 C0.2.1 dX2_hear_8 (lv_at hl 0 rfl) ?_
  refine lv_iload_n C0.1 C0.2.1 dX2_hear_10 rfl (lv_at hl 3 rfl) ?_
  refine lv_iload_n C0.1 C0.2.1 dX2_hear_11 rfl (lv_at hl 4 rfl) ?_
  refine lv_aload_n C0.1 C0.2.1 dX2_hear_12 rfl (lv_at hl 1 rfl) ?_
  refine r_get (C := RX2) (T := TX2) (N9 := 12) (ci := 4) C0 C1 hI iX2 rfl a 2 (kdlt1 ha) (by decide) ((shI_1 ha) _) rfl rfl w_190 dX2_hear_13 ?_
  refine lv_iload_n C0.1 C0.2.1 dX2_hear_16 rfl (lv_at hl 3 rfl) ?_
  obtain ⟨h_2, hf⟩ := chk_some hf
  refine r_iald C0 C1 hI (a + 2) (kdlt2 (kd1_2 ha)) (shI_2 (kd1_2 ha)) h_2 dX2_hear_17 ?_
  refine lv_imul C0.1 C0.2.1 dX2_hear_18 ?_
  refine lv_iload C0.1 C0.2.1 dX2_hear_19 (lv_at hl 5 rfl) ?_
  obtain ⟨M_4, h_3, hf⟩ := ob_some hf
  refine k_v C1 hI (q_VN C0 C1 hI (a + 6 + 1 + 4 * ix x1) (c_X6_addCroak l g X r b H.size n M (a + 6 + 1 + 4 * ix x1) (kd4_i (kd1_6 ha) h_1) x2 (x3 * (M (a + 2) (ix x2))) x4 h_3) 46 rfl w_1391 w_65 w_73 w_1392 ⟨rfl, rfl⟩ hd_X6_addCroak ⟨Nat.le_of_ble_eq_true rfl, Nat.le_of_ble_eq_true rfl⟩ (kdlt5 (kd4_i (kd1_6 ha) h_1)) ((shI_5 (kd4_i (kd1_6 ha) h_1)) _) rfl rfl rfl hl.1 rfl (Nat.le_of_ble_eq_true rfl) dX2_hear_21 ⟨Nat.le_of_ble_eq_true rfl, Nat.le_of_ble_eq_true rfl⟩) (fun H locs hI => ?_)
  refine lv_aload C0.1 C0.2.1 dX2_hear_24 (lv_at hl 0 rfl) ?_
  refine lv_iload C0.1 C0.2.1 dX2_hear_26 (lv_at hl 5 rfl) ?_
  obtain ⟨r_6, h_5, hf⟩ := ob_some hf
  refine k_i C1 hI (q_VN C0 C1 hI (a + 6 + 1 + 4 * ix x1) (c_X6_sumOfSide l g X r b H.size n M_4 (a + 6 + 1 + 4 * ix x1) (kd4_i (kd1_6 ha) h_1) x4 h_5) 39 rfl w_640 w_13 w_73 w_641 ⟨rfl, rfl⟩ hd_X6_sumOfSide ⟨Nat.le_of_ble_eq_true rfl, Nat.le_of_ble_eq_true rfl⟩ (kdlt5 (kd4_i (kd1_6 ha) h_1)) ((shI_5 (kd4_i (kd1_6 ha) h_1)) _) rfl rfl rfl hl.1 rfl (Nat.le_of_ble_eq_true rfl) dX2_hear_28 ⟨Nat.le_of_ble_eq_true rfl, Nat.le_of_ble_eq_true rfl⟩) (fun H locs hI => ?_)
  exact ee_im C0 hI hr hlocks hf dX2_hear_31

def F_X2_sumForFromPond_L13 (n : Nat) (a : Nat) (x1 : Int32) (M : Mem) : Nat → Int32 → Int32 → Int32 → Option Int32
  | 0, _, _, _ => none
  | k13 + 1, x2_13, x4_13, x5_13 =>
    (if (M (a + 6 + 1 + 4 * ix x1) 7) ≤ x5_13 then some x4_13 else ob (F_X6_isFor n (a + 6 + 1 + 4 * ix x1) x5_13 M) (fun r_13_3 => (if r_13_3 = 0 then lt' (x5_13 + 1) (fun x5_13_5 => F_X2_sumForFromPond_L13 n a x1 M k13 x2_13 x4_13 x5_13_5) else chk (inb x5_13 12) (chk (inb (M (a + 6 + 1 + 4 * ix x1 + 2) (ix x5_13)) 12) ((if (M (a + 1) (ix (M (a + 6 + 1 + 4 * ix x1 + 2) (ix x5_13)))) = x2_13 then chk (inb x5_13 12) (lt' (x4_13 + (M (a + 6 + 1 + 4 * ix x1 + 3) (ix x5_13))) (fun x4_13_13 => lt' (x5_13 + 1) (fun x5_13_15 => F_X2_sumForFromPond_L13 n a x1 M k13 x2_13 x4_13_13 x5_13_15))) else lt' (x5_13 + 1) (fun x5_13_10 => F_X2_sumForFromPond_L13 n a x1 M k13 x2_13 x4_13 x5_13_10)))))))
def F_X2_sumForFromPond (n : Nat) (a : Nat) (x1 : Int32) (x2 : Int32) (M : Mem) : Option Int32 :=
  chk (inb x1 6) (F_X2_sumForFromPond_L13 n a x1 M n x2 0 0)
theorem hd_X2_sumForFromPond : yX2_sumForFromPond.cls ≠ "java/lang/invoke/MethodHandle" ∧ yX2_sumForFromPond.cls ≠ "java/lang/invoke/VarHandle" ∧ (parseMethodDescriptor yX2_sumForFromPond.desc).map (fun d => d.parameters.length) = some 2 := ⟨by decide +kernel, by decide +kernel, by decide +kernel⟩
set_option maxHeartbeats 4000000 in
set_option maxRecDepth 100000 in
theorem c_X2_sumForFromPond (l : Launch) (g : GG) (X : va_W) (r : Nat → Nat) (b : Nat → Nat) (sz n : Nat) (M : Mem) (a : Nat) (ha : kdI a = 1) (x1 : Int32) (x2 : Int32) {r0 : Int32} (hf : F_X2_sumForFromPond n a x1 x2 M = some r0) : Met l yX2_sumForFromPond (.code yX2_sumForFromPond cX2_sumForFromPond 6 (some .int) :: LWg) (rmD 1 0 0) (va_Pc [.ref (b a), .int x1, .int x2] (PreP g X 372 (shI g r b) b sz M)) (Qi g X 372 (shI g r b) b sz r0 M) 0 0 (AA X b 372 sz) := by
  refine met_go (by decide +kernel) rfl (Nat.le_of_ble_eq_true rfl) ?_
  intro p e s m below meth c ls H locs C0 C1 hr hlocks hnm hsz hl hI
  subst hsz
  have hl : lv_has ls 6 [(0, .ref (b a)), (1, .int x1), (2, .int x2)] := hl
  unfold F_X2_sumForFromPond at hf
  refine lv_aload_n C0.1 C0.2.1 dX2_sumForFromPond_0 rfl (lv_at hl 0 rfl) ?_
  refine r_get (C := RX2) (T := TX2) (N9 := 12) (ci := 4) C0 C1 hI iX2 rfl a 9 (kdlt1 ha) (by decide) ((shI_1 ha) _) rfl rfl w_203 dX2_sumForFromPond_1 ?_
  refine lv_iload_n C0.1 C0.2.1 dX2_sumForFromPond_4 rfl (lv_at hl 1 rfl) ?_
  obtain ⟨h_1, hf⟩ := chk_some hf
  refine r_aald (t0 := 1) C0 C1 hI (a + 6) (kdlt4 (kd1_6 ha)) (shI_4 (kd1_6 ha)) rfl h_1 rfl dX2_sumForFromPond_5 ?_
  refine lv_astore_n (lv' := [(3, .ref (b (a + 6 + 1 + 4 * ix x1))), (0, .ref (b a)), (1, .int x1), (2, .int x2)]) C0.1 C0.2.1 dX2_sumForFromPond_6 rfl hl (by decide) rfl (fun ls hl => ?_)
  refine lv_iconst (v := 0) C0.1 C0.2.1 dX2_sumForFromPond_7 (by decide) ?_
  refine lv_istore (lv' := [(4, .int 0), (3, .ref (b (a + 6 + 1 + 4 * ix x1))), (0, .ref (b a)), (1, .int x1), (2, .int x2)]) C0.1 C0.2.1 dX2_sumForFromPond_8 hl (by decide) rfl (fun ls hl => ?_)
  refine lv_iconst (v := 0) C0.1 C0.2.1 dX2_sumForFromPond_10 (by decide) ?_
  refine lv_istore (lv' := [(5, .int 0), (4, .int 0), (3, .ref (b (a + 6 + 1 + 4 * ix x1))), (0, .ref (b a)), (1, .int x1), (2, .int x2)]) C0.1 C0.2.1 dX2_sumForFromPond_11 hl (by decide) rfl (fun ls hl => ?_)
  have L13 : ∀ (k13 : Nat) (x2_13 : Int32) (x4_13 : Int32) (x5_13 : Int32), F_X2_sumForFromPond_L13 n a x1 M k13 x2_13 x4_13 x5_13 = some r0 → ∀ (H : Heap) (locs : List Loc) (ls : Array Slot), PI g X 372 (shI g r b) b s M H locs → lv_has ls 6 [(0, .ref (b a)), (2, .int x2_13), (3, .ref (b (a + 6 + 1 + 4 * ix x1))), (4, .int x4_13), (5, .int x5_13)] → W p l e (rmD 1 0 0) s m ([.ref (b a), .int x1, .int x2] : List Value).toArray below meth c H locs 0 0 (MQ below (Qi g X 372 (shI g r b) b s.heap.size r0 M) ([.ref (b a), .int x1, .int x2] : List Value).toArray s 0 0 (AA X b 372 s.heap.size)) (F0 m 13 ls []) := by
    intro k13
    induction k13 with
    | zero => intro x2_13 x4_13 x5_13 hf; exact absurd (show (none : Option Int32) = some r0 from hf) (fun h => by cases h)
    | succ k13 ih13 =>
      intro x2_13 x4_13 x5_13 hf H locs ls hI hl
      unfold F_X2_sumForFromPond_L13 at hf
      refine lv_iload C0.1 C0.2.1 dX2_sumForFromPond_13 (lv_at hl 4 rfl) ?_
      refine lv_aload_n C0.1 C0.2.1 dX2_sumForFromPond_15 rfl (lv_at hl 2 rfl) ?_
      refine r_getN (C := RX6) (T := TX6) (N9 := 12) (ci := 8) C0 C1 hI iX6 rfl (a + 6 + 1 + 4 * ix x1) 7 (kdlt5 (kd4_i (kd1_6 ha) h_1)) (by decide) ((shI_5 (kd4_i (kd1_6 ha) h_1)) _) rfl rfl 13 rfl dX2_sumForFromPond_16 ?_
      refine lv_icmp_ge (tgt := 65) C0.1 C0.2.1 dX2_sumForFromPond_19 (by decide) (fun c_13_1 => ?_) (fun c_13_1 => ?_)
      · have hf := (if_pos c_13_1).symm.trans hf
        refine lv_iload C0.1 C0.2.1 dX2_sumForFromPond_65 (lv_at hl 3 rfl) ?_
        exact ee_i C0 hI hr hlocks hf dX2_sumForFromPond_67
      · have hf := (if_neg c_13_1).symm.trans hf
        refine lv_aload_n C0.1 C0.2.1 dX2_sumForFromPond_22 rfl (lv_at hl 2 rfl) ?_
        refine lv_iload C0.1 C0.2.1 dX2_sumForFromPond_23 (lv_at hl 4 rfl) ?_
        obtain ⟨r_13_3, h_13_2, hf⟩ := ob_some hf
        refine k_i C1 hI (q_VN C0 C1 hI (a + 6 + 1 + 4 * ix x1) (c_X6_isFor l g X r b H.size n M (a + 6 + 1 + 4 * ix x1) (kd4_i (kd1_6 ha) h_1) x5_13 h_13_2) 16 rfl w_644 w_14 w_73 w_645 ⟨rfl, rfl⟩ hd_X6_isFor ⟨Nat.le_of_ble_eq_true rfl, Nat.le_of_ble_eq_true rfl⟩ (kdlt5 (kd4_i (kd1_6 ha) h_1)) ((shI_5 (kd4_i (kd1_6 ha) h_1)) _) rfl rfl rfl hl.1 rfl (Nat.le_of_ble_eq_true rfl) dX2_sumForFromPond_25 ⟨Nat.le_of_ble_eq_true rfl, Nat.le_of_ble_eq_true rfl⟩) (fun H locs hI => ?_)
        refine lv_if_eq (tgt := 59) C0.1 C0.2.1 dX2_sumForFromPond_28 (by decide) (fun c_13_4 => ?_) (fun c_13_4 => ?_)
        · have hf := (if_pos c_13_4).symm.trans hf
          obtain ⟨x5_13_5, e_13_6⟩ : ∃ z : Int32, z = x5_13 + 1 := ⟨_, rfl⟩
          have hf := lt_at e_13_6 hf
          refine lv_iinc (v := x5_13_5) (lv' := [(5, .int x5_13_5), (0, .ref (b a)), (2, .int x2_13), (3, .ref (b (a + 6 + 1 + 4 * ix x1))), (4, .int x4_13)]) C0.1 C0.2.1 dX2_sumForFromPond_59 hl (k := 4) rfl (by rw [e_13_6]; rfl) (by decide) rfl (fun ls hl => ?_)
          refine lv_goto (tgt := 13) C0.1 C0.2.1 dX2_sumForFromPond_62 (by decide) ?_
          exact ih13 x2_13 x4_13 x5_13_5 hf H locs ls hI (lv_sub hl [1, 2, 3, 4, 0] rfl)
        · have hf := (if_neg c_13_4).symm.trans hf
          refine lv_aload_n C0.1 C0.2.1 dX2_sumForFromPond_31 rfl (lv_at hl 0 rfl) ?_
          refine r_get (C := RX2) (T := TX2) (N9 := 12) (ci := 4) C0 C1 hI iX2 rfl a 1 (kdlt1 ha) (by decide) ((shI_1 ha) _) rfl rfl w_188 dX2_sumForFromPond_32 ?_
          refine lv_aload_n C0.1 C0.2.1 dX2_sumForFromPond_35 rfl (lv_at hl 2 rfl) ?_
          refine r_getN (C := RX6) (T := TX6) (N9 := 12) (ci := 8) C0 C1 hI iX6 rfl (a + 6 + 1 + 4 * ix x1) 5 (kdlt5 (kd4_i (kd1_6 ha) h_1)) (by decide) ((shI_5 (kd4_i (kd1_6 ha) h_1)) _) rfl rfl 9 rfl dX2_sumForFromPond_36 ?_
          refine lv_iload C0.1 C0.2.1 dX2_sumForFromPond_39 (lv_at hl 4 rfl) ?_
          obtain ⟨h_13_7, hf⟩ := chk_some hf
          refine r_iald C0 C1 hI (a + 6 + 1 + 4 * ix x1 + 2) (kdlt2 (kd5_2 (kd4_i (kd1_6 ha) h_1))) (shI_2 (kd5_2 (kd4_i (kd1_6 ha) h_1))) h_13_7 dX2_sumForFromPond_41 ?_
          obtain ⟨h_13_8, hf⟩ := chk_some hf
          refine r_iald C0 C1 hI (a + 1) (kdlt2 (kd1_1 ha)) (shI_2 (kd1_1 ha)) h_13_8 dX2_sumForFromPond_42 ?_
          refine lv_iload_n C0.1 C0.2.1 dX2_sumForFromPond_43 rfl (lv_at hl 1 rfl) ?_
          refine lv_icmp_ne (tgt := 59) C0.1 C0.2.1 dX2_sumForFromPond_44 (by decide) (fun c_13_9 => ?_) (fun c_13_9 => ?_)
          · have hf := (if_neg c_13_9).symm.trans hf
            obtain ⟨x5_13_10, e_13_11⟩ : ∃ z : Int32, z = x5_13 + 1 := ⟨_, rfl⟩
            have hf := lt_at e_13_11 hf
            refine lv_iinc (v := x5_13_10) (lv' := [(5, .int x5_13_10), (0, .ref (b a)), (2, .int x2_13), (3, .ref (b (a + 6 + 1 + 4 * ix x1))), (4, .int x4_13)]) C0.1 C0.2.1 dX2_sumForFromPond_59 hl (k := 4) rfl (by rw [e_13_11]; rfl) (by decide) rfl (fun ls hl => ?_)
            refine lv_goto (tgt := 13) C0.1 C0.2.1 dX2_sumForFromPond_62 (by decide) ?_
            exact ih13 x2_13 x4_13 x5_13_10 hf H locs ls hI (lv_sub hl [1, 2, 3, 4, 0] rfl)
          · have hf := (if_pos c_13_9).symm.trans hf
            refine lv_iload C0.1 C0.2.1 dX2_sumForFromPond_47 (lv_at hl 3 rfl) ?_
            refine lv_aload_n C0.1 C0.2.1 dX2_sumForFromPond_49 rfl (lv_at hl 2 rfl) ?_
            refine r_getN (C := RX6) (T := TX6) (N9 := 12) (ci := 8) C0 C1 hI iX6 rfl (a + 6 + 1 + 4 * ix x1) 6 (kdlt5 (kd4_i (kd1_6 ha) h_1)) (by decide) ((shI_5 (kd4_i (kd1_6 ha) h_1)) _) rfl rfl 11 rfl dX2_sumForFromPond_50 ?_
            refine lv_iload C0.1 C0.2.1 dX2_sumForFromPond_53 (lv_at hl 4 rfl) ?_
            obtain ⟨h_13_12, hf⟩ := chk_some hf
            refine r_iald C0 C1 hI (a + 6 + 1 + 4 * ix x1 + 3) (kdlt2 (kd5_3 (kd4_i (kd1_6 ha) h_1))) (shI_2 (kd5_3 (kd4_i (kd1_6 ha) h_1))) h_13_12 dX2_sumForFromPond_55 ?_
            refine lv_iadd C0.1 C0.2.1 dX2_sumForFromPond_56 ?_
            refine lv_topi (fun x4_13_13 e_13_14 => ?_)
            have hf := lt_at e_13_14 hf
            refine lv_istore (lv' := [(4, .int x4_13_13), (0, .ref (b a)), (2, .int x2_13), (3, .ref (b (a + 6 + 1 + 4 * ix x1))), (5, .int x5_13)]) C0.1 C0.2.1 dX2_sumForFromPond_57 hl (by decide) rfl (fun ls hl => ?_)
            obtain ⟨x5_13_15, e_13_16⟩ : ∃ z : Int32, z = x5_13 + 1 := ⟨_, rfl⟩
            have hf := lt_at e_13_16 hf
            refine lv_iinc (v := x5_13_15) (lv' := [(5, .int x5_13_15), (4, .int x4_13_13), (0, .ref (b a)), (2, .int x2_13), (3, .ref (b (a + 6 + 1 + 4 * ix x1)))]) C0.1 C0.2.1 dX2_sumForFromPond_59 hl (k := 4) rfl (by rw [e_13_16]; rfl) (by decide) rfl (fun ls hl => ?_)
            refine lv_goto (tgt := 13) C0.1 C0.2.1 dX2_sumForFromPond_62 (by decide) ?_
            exact ih13 x2_13 x4_13_13 x5_13_15 hf H locs ls hI (lv_sub hl [2, 3, 4, 1, 0] rfl)
  exact L13 n x2 0 0 hf H locs ls hI (lv_sub hl [3, 5, 2, 1, 0] rfl)

def F_X2_settle (n : Nat) (a : Nat) (x1 : Int32) (M : Mem) : Option (Int32 × Mem) :=
  chk (inb x1 6) (lt' (up2 M (a + 6 + 1 + 4 * ix x1) 9 1) (fun M_2 => ob (F_X6_sumOfSide n (a + 6 + 1 + 4 * ix x1) 1 M_2) (fun r_5 => ob (F_X6_sumOfSide n (a + 6 + 1 + 4 * ix x1) 0 M_2) (fun r_7 => (if r_5 ≤ r_7 then lt' (up2 M_2 (a + 6 + 1 + 4 * ix x1) 10 0) (fun M_9 => chk (isB (M_9 (a + 6 + 1 + 4 * ix x1) 10)) (some (M_9 (a + 6 + 1 + 4 * ix x1) 10, M_9))) else lt' (up2 M_2 (a + 6 + 1 + 4 * ix x1) 10 1) (fun M_12 => chk (isB (M_12 (a + 6 + 1 + 4 * ix x1) 10)) (some (M_12 (a + 6 + 1 + 4 * ix x1) 10, M_12))))))))
theorem hd_X2_settle : yX2_settle.cls ≠ "java/lang/invoke/MethodHandle" ∧ yX2_settle.cls ≠ "java/lang/invoke/VarHandle" ∧ (parseMethodDescriptor yX2_settle.desc).map (fun d => d.parameters.length) = some 1 := ⟨by decide +kernel, by decide +kernel, by decide +kernel⟩
set_option maxHeartbeats 4000000 in
set_option maxRecDepth 100000 in
theorem c_X2_settle (l : Launch) (g : GG) (X : va_W) (r : Nat → Nat) (b : Nat → Nat) (sz n : Nat) (M : Mem) (a : Nat) (ha : kdI a = 1) (x1 : Int32) {r0 : Int32} {M' : Mem} (hf : F_X2_settle n a x1 M = some (r0, M')) : Met l yX2_settle (.code yX2_settle cX2_settle 3 (some .boolean) :: LWg) (rmD 2 0 0) (va_Pc [.ref (b a), .int x1] (PreP g X 372 (shI g r b) b sz M)) (Qi g X 372 (shI g r b) b sz r0 M') 0 0 (AA X b 372 sz) := by
  refine met_go (by decide +kernel) rfl (Nat.le_of_ble_eq_true rfl) ?_
  intro p e s m below meth c ls H locs C0 C1 hr hlocks hnm hsz hl hI
  subst hsz
  have hl : lv_has ls 3 [(0, .ref (b a)), (1, .int x1)] := hl
  unfold F_X2_settle at hf
  refine lv_aload_n C0.1 C0.2.1 dX2_settle_0 rfl (lv_at hl 0 rfl) ?_
  refine r_get (C := RX2) (T := TX2) (N9 := 12) (ci := 4) C0 C1 hI iX2 rfl a 9 (kdlt1 ha) (by decide) ((shI_1 ha) _) rfl rfl w_203 dX2_settle_1 ?_
  refine lv_iload_n C0.1 C0.2.1 dX2_settle_4 rfl (lv_at hl 1 rfl) ?_
  obtain ⟨h_1, hf⟩ := chk_some hf
  refine r_aald (t0 := 1) C0 C1 hI (a + 6) (kdlt4 (kd1_6 ha)) (shI_4 (kd1_6 ha)) rfl h_1 rfl dX2_settle_5 ?_
  refine lv_astore_n (lv' := [(2, .ref (b (a + 6 + 1 + 4 * ix x1))), (0, .ref (b a)), (1, .int x1)]) C0.1 C0.2.1 dX2_settle_6 rfl hl (by decide) rfl (fun ls hl => ?_)
  refine lv_aload_n C0.1 C0.2.1 dX2_settle_7 rfl (lv_at hl 0 rfl) ?_
  refine lv_iconst (v := 1) C0.1 C0.2.1 dX2_settle_8 (by decide) ?_
  refine r_putN (C := RX6) (T := TX6) (N9 := 12) (ci := 8) (fs := fMo b (a + 6 + 1 + 4 * ix x1)) (ty := .boolean) C0 C1 hI iX6 tyX6 tyX6_ok nmX6 rfl (a + 6 + 1 + 4 * ix x1) 9 (kdlt5 (kd4_i (kd1_6 ha) h_1)) (by decide) (shI_5 (kd4_i (kd1_6 ha) h_1)) rfl rfl rfl (by decide +kernel) ⟨rfl, rfl⟩ (Nat.le_of_ble_eq_true rfl) 15 rfl dX2_settle_9 (fun H locs hI => ?_)
  obtain ⟨M_2, e_3⟩ : ∃ z : Mem, z = up2 M (a + 6 + 1 + 4 * ix x1) 9 1 := ⟨_, rfl⟩
  rw [← e_3] at hI
  have hf := lt_at e_3 hf
  refine lv_aload_n C0.1 C0.2.1 dX2_settle_12 rfl (lv_at hl 0 rfl) ?_
  refine lv_aload_n C0.1 C0.2.1 dX2_settle_13 rfl (lv_at hl 0 rfl) ?_
  refine lv_iconst (v := 1) C0.1 C0.2.1 dX2_settle_14 (by decide) ?_
  obtain ⟨r_5, h_4, hf⟩ := ob_some hf
  refine k_i C1 hI (q_VN C0 C1 hI (a + 6 + 1 + 4 * ix x1) (c_X6_sumOfSide l g X r b H.size n M_2 (a + 6 + 1 + 4 * ix x1) (kd4_i (kd1_6 ha) h_1) 1 h_4) 39 rfl w_640 w_13 w_73 w_641 ⟨rfl, rfl⟩ hd_X6_sumOfSide ⟨Nat.le_of_ble_eq_true rfl, Nat.le_of_ble_eq_true rfl⟩ (kdlt5 (kd4_i (kd1_6 ha) h_1)) ((shI_5 (kd4_i (kd1_6 ha) h_1)) _) rfl rfl rfl hl.1 rfl (Nat.le_of_ble_eq_true rfl) dX2_settle_15 ⟨Nat.le_of_ble_eq_true rfl, Nat.le_of_ble_eq_true rfl⟩) (fun H locs hI => ?_)
  refine lv_aload_n C0.1 C0.2.1 dX2_settle_18 rfl (lv_at hl 0 rfl) ?_
  refine lv_iconst (v := 0) C0.1 C0.2.1 dX2_settle_19 (by decide) ?_
  obtain ⟨r_7, h_6, hf⟩ := ob_some hf
  refine k_i C1 hI (q_VN C0 C1 hI (a + 6 + 1 + 4 * ix x1) (c_X6_sumOfSide l g X r b H.size n M_2 (a + 6 + 1 + 4 * ix x1) (kd4_i (kd1_6 ha) h_1) 0 h_6) 39 rfl w_640 w_13 w_73 w_641 ⟨rfl, rfl⟩ hd_X6_sumOfSide ⟨Nat.le_of_ble_eq_true rfl, Nat.le_of_ble_eq_true rfl⟩ (kdlt5 (kd4_i (kd1_6 ha) h_1)) ((shI_5 (kd4_i (kd1_6 ha) h_1)) _) rfl rfl rfl hl.1 rfl (Nat.le_of_ble_eq_true rfl) dX2_settle_20 ⟨Nat.le_of_ble_eq_true rfl, Nat.le_of_ble_eq_true rfl⟩) (fun H locs hI => ?_)
  refine lv_icmp_le (tgt := 30) C0.1 C0.2.1 dX2_settle_23 (by decide) (fun c_8 => ?_) (fun c_8 => ?_)
  · have hf := (if_pos c_8).symm.trans hf
    refine lv_iconst (v := 0) C0.1 C0.2.1 dX2_settle_30 (by decide) ?_
    refine r_putN (C := RX6) (T := TX6) (N9 := 12) (ci := 8) (fs := fMo b (a + 6 + 1 + 4 * ix x1)) (ty := .boolean) C0 C1 hI iX6 tyX6 tyX6_ok nmX6 rfl (a + 6 + 1 + 4 * ix x1) 10 (kdlt5 (kd4_i (kd1_6 ha) h_1)) (by decide) (shI_5 (kd4_i (kd1_6 ha) h_1)) rfl rfl rfl (by decide +kernel) ⟨rfl, rfl⟩ (Nat.le_of_ble_eq_true rfl) 18 rfl dX2_settle_31 (fun H locs hI => ?_)
    obtain ⟨M_9, e_10⟩ : ∃ z : Mem, z = up2 M_2 (a + 6 + 1 + 4 * ix x1) 10 0 := ⟨_, rfl⟩
    rw [← e_10] at hI
    have hf := lt_at e_10 hf
    refine lv_aload_n C0.1 C0.2.1 dX2_settle_34 rfl (lv_at hl 0 rfl) ?_
    refine r_getN (C := RX6) (T := TX6) (N9 := 12) (ci := 8) C0 C1 hI iX6 rfl (a + 6 + 1 + 4 * ix x1) 10 (kdlt5 (kd4_i (kd1_6 ha) h_1)) (by decide) ((shI_5 (kd4_i (kd1_6 ha) h_1)) _) rfl rfl 18 rfl dX2_settle_35 ?_
    obtain ⟨h_11, hf⟩ := chk_some hf
    exact ee_zm C0 hI hr hlocks (isB_n h_11).1 hf dX2_settle_38
  · have hf := (if_neg c_8).symm.trans hf
    refine lv_iconst (v := 1) C0.1 C0.2.1 dX2_settle_26 (by decide) ?_
    refine lv_goto (tgt := 31) C0.1 C0.2.1 dX2_settle_27 (by decide) ?_
    refine r_putN (C := RX6) (T := TX6) (N9 := 12) (ci := 8) (fs := fMo b (a + 6 + 1 + 4 * ix x1)) (ty := .boolean) C0 C1 hI iX6 tyX6 tyX6_ok nmX6 rfl (a + 6 + 1 + 4 * ix x1) 10 (kdlt5 (kd4_i (kd1_6 ha) h_1)) (by decide) (shI_5 (kd4_i (kd1_6 ha) h_1)) rfl rfl rfl (by decide +kernel) ⟨rfl, rfl⟩ (Nat.le_of_ble_eq_true rfl) 18 rfl dX2_settle_31 (fun H locs hI => ?_)
    obtain ⟨M_12, e_13⟩ : ∃ z : Mem, z = up2 M_2 (a + 6 + 1 + 4 * ix x1) 10 1 := ⟨_, rfl⟩
    rw [← e_13] at hI
    have hf := lt_at e_13 hf
    refine lv_aload_n C0.1 C0.2.1 dX2_settle_34 rfl (lv_at hl 0 rfl) ?_
    refine r_getN (C := RX6) (T := TX6) (N9 := 12) (ci := 8) C0 C1 hI iX6 rfl (a + 6 + 1 + 4 * ix x1) 10 (kdlt5 (kd4_i (kd1_6 ha) h_1)) (by decide) ((shI_5 (kd4_i (kd1_6 ha) h_1)) _) rfl rfl 18 rfl dX2_settle_35 ?_
    obtain ⟨h_14, hf⟩ := chk_some hf
    exact ee_zm C0 hI hr hlocks (isB_n h_14).1 hf dX2_settle_38

def F_X2_refusalOf (n : Nat) (a : Nat) (o1 : Nat) (M : Mem) : Option Nat :=
  chk (decide (ix (M o1 0) < 11)) (chk (inb (nI (ix (M o1 0))) 11) ((if (swAl.getD (ix (nI (ix (M o1 0)))) 0) = 1 then chk (inb 0 4) (chk (inb 1 4) (ob (F_X2_refusalToAdmit n a (M (o1 + 1) (ix 0)) (M (o1 + 1) (ix 1)) M) (fun r_7 => some r_7))) else if (swAl.getD (ix (nI (ix (M o1 0)))) 0) = 2 then chk (inb 0 4) (ob (F_X2_refusalToLay n a (M (o1 + 1) (ix 0)) M) (fun r_11 => some r_11)) else if (swAl.getD (ix (nI (ix (M o1 0)))) 0) = 3 then chk (inb 0 4) (chk (inb 1 4) (ob (F_X2_refusalToSeat n a (M (o1 + 1) (ix 0)) (M (o1 + 1) (ix 1)) M) (fun r_16 => some r_16))) else if (swAl.getD (ix (nI (ix (M o1 0)))) 0) = 4 then chk (inb 0 4) (ob (F_X2_refusalToUnseat n a (M (o1 + 1) (ix 0)) M) (fun r_20 => some r_20)) else if (swAl.getD (ix (nI (ix (M o1 0)))) 0) = 5 then chk (inb 0 4) (ob (F_X2_refusalToPropose n a (M (o1 + 1) (ix 0)) M) (fun r_24 => some r_24)) else if (swAl.getD (ix (nI (ix (M o1 0)))) 0) = 6 then chk (inb 0 4) (chk (inb 1 4) (ob (F_X2_refusalToEnlist n a (M (o1 + 1) (ix 0)) (M (o1 + 1) (ix 1)) M) (fun r_29 => some r_29))) else if (swAl.getD (ix (nI (ix (M o1 0)))) 0) = 7 then chk (inb 0 4) (chk (inb 1 4) (ob (F_X2_refusalToUnlist n a (M (o1 + 1) (ix 0)) (M (o1 + 1) (ix 1)) M) (fun r_34 => some r_34))) else if (swAl.getD (ix (nI (ix (M o1 0)))) 0) = 8 then chk (inb 0 4) (ob (F_X2_refusalToCall n a (M (o1 + 1) (ix 0)) M) (fun r_38 => some r_38)) else if (swAl.getD (ix (nI (ix (M o1 0)))) 0) = 9 then chk (inb 0 4) (chk (inb 1 4) (ob (F_X2_refusalToSupport n a (M (o1 + 1) (ix 0)) (M (o1 + 1) (ix 1)) M) (fun r_43 => some r_43))) else if (swAl.getD (ix (nI (ix (M o1 0)))) 0) = 10 then chk (inb 0 4) (chk (inb 1 4) (chk (inb 3 4) (ob (F_X2_refusalToHear n a (M (o1 + 1) (ix 0)) (M (o1 + 1) (ix 1)) (M (o1 + 1) (ix 3)) M) (fun r_49 => some r_49)))) else chk (inb 0 4) (ob (F_X2_refusalToSettle n a (M (o1 + 1) (ix 0)) M) (fun r_52 => some r_52)))))
theorem hd_X2_refusalOf : yX2_refusalOf.cls ≠ "java/lang/invoke/MethodHandle" ∧ yX2_refusalOf.cls ≠ "java/lang/invoke/VarHandle" ∧ (parseMethodDescriptor yX2_refusalOf.desc).map (fun d => d.parameters.length) = some 1 := ⟨by decide +kernel, by decide +kernel, by decide +kernel⟩
set_option maxHeartbeats 4000000 in
set_option maxRecDepth 100000 in
theorem c_X2_refusalOf (l : Launch) (g : GG) (X : va_W) (r : Nat → Nat) (b : Nat → Nat) (sz n : Nat) (M : Mem) (a : Nat) (ha : kdI a = 1) (o1 : Nat) (ho1 : kdI o1 = 11) {r0 : Nat} (hf : F_X2_refusalOf n a o1 M = some r0) : Met l yX2_refusalOf (.code yX2_refusalOf cX2_refusalOf 3 (some (.object "FrogParliament$Refusal")) :: LWg) (rmD 4 0 0) (va_Pc [.ref (b a), .ref (b o1)] (PreP g X 372 (shI g r b) b sz M)) (Qe g X 372 (shI g r b) b sz r0 M) 0 0 (AA X b 372 sz) := by
  refine met_go (by decide +kernel) rfl (Nat.le_of_ble_eq_true rfl) ?_
  intro p e s m below meth c ls H locs C0 C1 hr hlocks hnm hsz hl hI
  subst hsz
  have hl : lv_has ls 3 [(0, .ref (b a)), (1, .ref (b o1))] := hl
  unfold F_X2_refusalOf at hf
  refine lv_aload_n C0.1 C0.2.1 dX2_refusalOf_0 rfl (lv_at hl 1 rfl) ?_
  refine r_getN (C := RX3) (T := TX3) (N9 := 3) (ci := 5) C0 C1 hI iX3 rfl o1 1 (kdlt11 ho1) (by decide) ((shI_11 ho1) _) rfl rfl 35 rfl dX2_refusalOf_1 ?_
  refine lv_astore_n (lv' := [(2, .ref (b (o1 + 1))), (0, .ref (b a)), (1, .ref (b o1))]) C0.1 C0.2.1 dX2_refusalOf_4 rfl hl (by decide) rfl (fun ls hl => ?_)
  refine r_swA C0 C1 hI w_1321 dX2_refusalOf_5 ?_
  refine lv_aload_n C0.1 C0.2.1 dX2_refusalOf_8 rfl (lv_at hl 2 rfl) ?_
  refine r_getN (C := RX3) (T := TX3) (N9 := 3) (ci := 5) C0 C1 hI iX3 rfl o1 0 (kdlt11 ho1) (by decide) ((shI_11 ho1) _) rfl rfl 34 rfl dX2_refusalOf_9 ?_
  obtain ⟨h_1, hf⟩ := chk_some hf
  refine r_ordA C0 C1 hI hl.1 (ix (M o1 0)) (of_decide_eq_true h_1) w_1323 ⟨Nat.le_of_ble_eq_true rfl, Nat.le_of_ble_eq_true rfl⟩ ⟨Nat.le_of_ble_eq_true rfl, Nat.le_of_ble_eq_true rfl⟩ (Nat.le_of_ble_eq_true rfl) dX2_refusalOf_12 (fun H locs hI => ?_)
  obtain ⟨h_2, hf⟩ := chk_some hf
  refine r_swAld C0 C1 hI h_2 dX2_refusalOf_15 ?_
  by_cases c_3 : (swAl.getD (ix (nI (ix (M o1 0)))) 0) = 1
  · have hf := (if_pos c_3).symm.trans hf
    refine lv_tableIn (off := 56) (tgt := 72) C0.1 C0.2.1 dX2_refusalOf_16 (by rw [c_3]; decide) (by rw [c_3]; decide) (by rw [c_3]; rfl) (by decide) ?_
    refine lv_aload_n C0.1 C0.2.1 dX2_refusalOf_72 rfl (lv_at hl 1 rfl) ?_
    refine lv_aload_n C0.1 C0.2.1 dX2_refusalOf_73 rfl (lv_at hl 0 rfl) ?_
    refine lv_iconst (v := 0) C0.1 C0.2.1 dX2_refusalOf_74 (by decide) ?_
    obtain ⟨h_4, hf⟩ := chk_some hf
    refine r_iald C0 C1 hI (o1 + 1) (kdlt12 (kd11_1 ho1)) (shI_12 (kd11_1 ho1)) h_4 dX2_refusalOf_75 ?_
    refine lv_aload_n C0.1 C0.2.1 dX2_refusalOf_76 rfl (lv_at hl 0 rfl) ?_
    refine lv_iconst (v := 1) C0.1 C0.2.1 dX2_refusalOf_77 (by decide) ?_
    obtain ⟨h_5, hf⟩ := chk_some hf
    refine r_iald C0 C1 hI (o1 + 1) (kdlt12 (kd11_1 ho1)) (shI_12 (kd11_1 ho1)) h_5 dX2_refusalOf_78 ?_
    obtain ⟨r_7, h_6, hf⟩ := ob_some hf
    refine k_e C1 hI (q_V C0 C1 hI a (c_X2_refusalToAdmit l g X r b H.size n M a ha (M (o1 + 1) (ix 0)) (M (o1 + 1) (ix 1)) h_6) w_1326 w_713 w_16 w_72 w_714 ⟨rfl, rfl⟩ hd_X2_refusalToAdmit ⟨Nat.le_of_ble_eq_true rfl, Nat.le_of_ble_eq_true rfl⟩ (kdlt1 ha) ((shI_1 ha) _) rfl rfl rfl hl.1 rfl (Nat.le_of_ble_eq_true rfl) dX2_refusalOf_79 ⟨Nat.le_of_ble_eq_true rfl, Nat.le_of_ble_eq_true rfl⟩) (fun H locs hI => ?_)
    exact ee_e C0 hI hr hlocks hf dX2_refusalOf_82
  have hf := (if_neg c_3).symm.trans hf
  by_cases c_8 : (swAl.getD (ix (nI (ix (M o1 0)))) 0) = 2
  · have hf := (if_pos c_8).symm.trans hf
    refine lv_tableIn (off := 67) (tgt := 83) C0.1 C0.2.1 dX2_refusalOf_16 (by rw [c_8]; decide) (by rw [c_8]; decide) (by rw [c_8]; rfl) (by decide) ?_
    refine lv_aload_n C0.1 C0.2.1 dX2_refusalOf_83 rfl (lv_at hl 1 rfl) ?_
    refine lv_aload_n C0.1 C0.2.1 dX2_refusalOf_84 rfl (lv_at hl 0 rfl) ?_
    refine lv_iconst (v := 0) C0.1 C0.2.1 dX2_refusalOf_85 (by decide) ?_
    obtain ⟨h_9, hf⟩ := chk_some hf
    refine r_iald C0 C1 hI (o1 + 1) (kdlt12 (kd11_1 ho1)) (shI_12 (kd11_1 ho1)) h_9 dX2_refusalOf_86 ?_
    obtain ⟨r_11, h_10, hf⟩ := ob_some hf
    refine k_e C1 hI (q_V C0 C1 hI a (c_X2_refusalToLay l g X r b H.size n M a ha (M (o1 + 1) (ix 0)) h_10) w_1327 w_750 w_21 w_72 w_751 ⟨rfl, rfl⟩ hd_X2_refusalToLay ⟨Nat.le_of_ble_eq_true rfl, Nat.le_of_ble_eq_true rfl⟩ (kdlt1 ha) ((shI_1 ha) _) rfl rfl rfl hl.1 rfl (Nat.le_of_ble_eq_true rfl) dX2_refusalOf_87 ⟨Nat.le_of_ble_eq_true rfl, Nat.le_of_ble_eq_true rfl⟩) (fun H locs hI => ?_)
    exact ee_e C0 hI hr hlocks hf dX2_refusalOf_90
  have hf := (if_neg c_8).symm.trans hf
  by_cases c_12 : (swAl.getD (ix (nI (ix (M o1 0)))) 0) = 3
  · have hf := (if_pos c_12).symm.trans hf
    refine lv_tableIn (off := 75) (tgt := 91) C0.1 C0.2.1 dX2_refusalOf_16 (by rw [c_12]; decide) (by rw [c_12]; decide) (by rw [c_12]; rfl) (by decide) ?_
    refine lv_aload_n C0.1 C0.2.1 dX2_refusalOf_91 rfl (lv_at hl 1 rfl) ?_
    refine lv_aload_n C0.1 C0.2.1 dX2_refusalOf_92 rfl (lv_at hl 0 rfl) ?_
    refine lv_iconst (v := 0) C0.1 C0.2.1 dX2_refusalOf_93 (by decide) ?_
    obtain ⟨h_13, hf⟩ := chk_some hf
    refine r_iald C0 C1 hI (o1 + 1) (kdlt12 (kd11_1 ho1)) (shI_12 (kd11_1 ho1)) h_13 dX2_refusalOf_94 ?_
    refine lv_aload_n C0.1 C0.2.1 dX2_refusalOf_95 rfl (lv_at hl 0 rfl) ?_
    refine lv_iconst (v := 1) C0.1 C0.2.1 dX2_refusalOf_96 (by decide) ?_
    obtain ⟨h_14, hf⟩ := chk_some hf
    refine r_iald C0 C1 hI (o1 + 1) (kdlt12 (kd11_1 ho1)) (shI_12 (kd11_1 ho1)) h_14 dX2_refusalOf_97 ?_
    obtain ⟨r_16, h_15, hf⟩ := ob_some hf
    refine k_e C1 hI (q_V C0 C1 hI a (c_X2_refusalToSeat l g X r b H.size n M a ha (M (o1 + 1) (ix 0)) (M (o1 + 1) (ix 1)) h_15) w_1328 w_767 w_23 w_72 w_768 ⟨rfl, rfl⟩ hd_X2_refusalToSeat ⟨Nat.le_of_ble_eq_true rfl, Nat.le_of_ble_eq_true rfl⟩ (kdlt1 ha) ((shI_1 ha) _) rfl rfl rfl hl.1 rfl (Nat.le_of_ble_eq_true rfl) dX2_refusalOf_98 ⟨Nat.le_of_ble_eq_true rfl, Nat.le_of_ble_eq_true rfl⟩) (fun H locs hI => ?_)
    exact ee_e C0 hI hr hlocks hf dX2_refusalOf_101
  have hf := (if_neg c_12).symm.trans hf
  by_cases c_17 : (swAl.getD (ix (nI (ix (M o1 0)))) 0) = 4
  · have hf := (if_pos c_17).symm.trans hf
    refine lv_tableIn (off := 86) (tgt := 102) C0.1 C0.2.1 dX2_refusalOf_16 (by rw [c_17]; decide) (by rw [c_17]; decide) (by rw [c_17]; rfl) (by decide) ?_
    refine lv_aload_n C0.1 C0.2.1 dX2_refusalOf_102 rfl (lv_at hl 1 rfl) ?_
    refine lv_aload_n C0.1 C0.2.1 dX2_refusalOf_103 rfl (lv_at hl 0 rfl) ?_
    refine lv_iconst (v := 0) C0.1 C0.2.1 dX2_refusalOf_104 (by decide) ?_
    obtain ⟨h_18, hf⟩ := chk_some hf
    refine r_iald C0 C1 hI (o1 + 1) (kdlt12 (kd11_1 ho1)) (shI_12 (kd11_1 ho1)) h_18 dX2_refusalOf_105 ?_
    obtain ⟨r_20, h_19, hf⟩ := ob_some hf
    refine k_e C1 hI (q_V C0 C1 hI a (c_X2_refusalToUnseat l g X r b H.size n M a ha (M (o1 + 1) (ix 0)) h_19) w_1329 w_799 w_27 w_72 w_800 ⟨rfl, rfl⟩ hd_X2_refusalToUnseat ⟨Nat.le_of_ble_eq_true rfl, Nat.le_of_ble_eq_true rfl⟩ (kdlt1 ha) ((shI_1 ha) _) rfl rfl rfl hl.1 rfl (Nat.le_of_ble_eq_true rfl) dX2_refusalOf_106 ⟨Nat.le_of_ble_eq_true rfl, Nat.le_of_ble_eq_true rfl⟩) (fun H locs hI => ?_)
    exact ee_e C0 hI hr hlocks hf dX2_refusalOf_109
  have hf := (if_neg c_17).symm.trans hf
  by_cases c_21 : (swAl.getD (ix (nI (ix (M o1 0)))) 0) = 5
  · have hf := (if_pos c_21).symm.trans hf
    refine lv_tableIn (off := 94) (tgt := 110) C0.1 C0.2.1 dX2_refusalOf_16 (by rw [c_21]; decide) (by rw [c_21]; decide) (by rw [c_21]; rfl) (by decide) ?_
    refine lv_aload_n C0.1 C0.2.1 dX2_refusalOf_110 rfl (lv_at hl 1 rfl) ?_
    refine lv_aload_n C0.1 C0.2.1 dX2_refusalOf_111 rfl (lv_at hl 0 rfl) ?_
    refine lv_iconst (v := 0) C0.1 C0.2.1 dX2_refusalOf_112 (by decide) ?_
    obtain ⟨h_22, hf⟩ := chk_some hf
    refine r_iald C0 C1 hI (o1 + 1) (kdlt12 (kd11_1 ho1)) (shI_12 (kd11_1 ho1)) h_22 dX2_refusalOf_113 ?_
    obtain ⟨r_24, h_23, hf⟩ := ob_some hf
    refine k_e C1 hI (q_V C0 C1 hI a (c_X2_refusalToPropose l g X r b H.size n M a ha (M (o1 + 1) (ix 0)) h_23) w_1330 w_820 w_30 w_72 w_821 ⟨rfl, rfl⟩ hd_X2_refusalToPropose ⟨Nat.le_of_ble_eq_true rfl, Nat.le_of_ble_eq_true rfl⟩ (kdlt1 ha) ((shI_1 ha) _) rfl rfl rfl hl.1 rfl (Nat.le_of_ble_eq_true rfl) dX2_refusalOf_114 ⟨Nat.le_of_ble_eq_true rfl, Nat.le_of_ble_eq_true rfl⟩) (fun H locs hI => ?_)
    exact ee_e C0 hI hr hlocks hf dX2_refusalOf_117
  have hf := (if_neg c_21).symm.trans hf
  by_cases c_25 : (swAl.getD (ix (nI (ix (M o1 0)))) 0) = 6
  · have hf := (if_pos c_25).symm.trans hf
    refine lv_tableIn (off := 102) (tgt := 118) C0.1 C0.2.1 dX2_refusalOf_16 (by rw [c_25]; decide) (by rw [c_25]; decide) (by rw [c_25]; rfl) (by decide) ?_
    refine lv_aload_n C0.1 C0.2.1 dX2_refusalOf_118 rfl (lv_at hl 1 rfl) ?_
    refine lv_aload_n C0.1 C0.2.1 dX2_refusalOf_119 rfl (lv_at hl 0 rfl) ?_
    refine lv_iconst (v := 0) C0.1 C0.2.1 dX2_refusalOf_120 (by decide) ?_
    obtain ⟨h_26, hf⟩ := chk_some hf
    refine r_iald C0 C1 hI (o1 + 1) (kdlt12 (kd11_1 ho1)) (shI_12 (kd11_1 ho1)) h_26 dX2_refusalOf_121 ?_
    refine lv_aload_n C0.1 C0.2.1 dX2_refusalOf_122 rfl (lv_at hl 0 rfl) ?_
    refine lv_iconst (v := 1) C0.1 C0.2.1 dX2_refusalOf_123 (by decide) ?_
    obtain ⟨h_27, hf⟩ := chk_some hf
    refine r_iald C0 C1 hI (o1 + 1) (kdlt12 (kd11_1 ho1)) (shI_12 (kd11_1 ho1)) h_27 dX2_refusalOf_124 ?_
    obtain ⟨r_29, h_28, hf⟩ := ob_some hf
    refine k_e C1 hI (q_V C0 C1 hI a (c_X2_refusalToEnlist l g X r b H.size n M a ha (M (o1 + 1) (ix 0)) (M (o1 + 1) (ix 1)) h_28) w_1331 w_838 w_32 w_72 w_839 ⟨rfl, rfl⟩ hd_X2_refusalToEnlist ⟨Nat.le_of_ble_eq_true rfl, Nat.le_of_ble_eq_true rfl⟩ (kdlt1 ha) ((shI_1 ha) _) rfl rfl rfl hl.1 rfl (Nat.le_of_ble_eq_true rfl) dX2_refusalOf_125 ⟨Nat.le_of_ble_eq_true rfl, Nat.le_of_ble_eq_true rfl⟩) (fun H locs hI => ?_)
    exact ee_e C0 hI hr hlocks hf dX2_refusalOf_128
  have hf := (if_neg c_25).symm.trans hf
  by_cases c_30 : (swAl.getD (ix (nI (ix (M o1 0)))) 0) = 7
  · have hf := (if_pos c_30).symm.trans hf
    refine lv_tableIn (off := 113) (tgt := 129) C0.1 C0.2.1 dX2_refusalOf_16 (by rw [c_30]; decide) (by rw [c_30]; decide) (by rw [c_30]; rfl) (by decide) ?_
    refine lv_aload_n C0.1 C0.2.1 dX2_refusalOf_129 rfl (lv_at hl 1 rfl) ?_
    refine lv_aload_n C0.1 C0.2.1 dX2_refusalOf_130 rfl (lv_at hl 0 rfl) ?_
    refine lv_iconst (v := 0) C0.1 C0.2.1 dX2_refusalOf_131 (by decide) ?_
    obtain ⟨h_31, hf⟩ := chk_some hf
    refine r_iald C0 C1 hI (o1 + 1) (kdlt12 (kd11_1 ho1)) (shI_12 (kd11_1 ho1)) h_31 dX2_refusalOf_132 ?_
    refine lv_aload_n C0.1 C0.2.1 dX2_refusalOf_133 rfl (lv_at hl 0 rfl) ?_
    refine lv_iconst (v := 1) C0.1 C0.2.1 dX2_refusalOf_134 (by decide) ?_
    obtain ⟨h_32, hf⟩ := chk_some hf
    refine r_iald C0 C1 hI (o1 + 1) (kdlt12 (kd11_1 ho1)) (shI_12 (kd11_1 ho1)) h_32 dX2_refusalOf_135 ?_
    obtain ⟨r_34, h_33, hf⟩ := ob_some hf
    refine k_e C1 hI (q_V C0 C1 hI a (c_X2_refusalToUnlist l g X r b H.size n M a ha (M (o1 + 1) (ix 0)) (M (o1 + 1) (ix 1)) h_33) w_1332 w_1334 w_55 w_72 w_1335 ⟨rfl, rfl⟩ hd_X2_refusalToUnlist ⟨Nat.le_of_ble_eq_true rfl, Nat.le_of_ble_eq_true rfl⟩ (kdlt1 ha) ((shI_1 ha) _) rfl rfl rfl hl.1 rfl (Nat.le_of_ble_eq_true rfl) dX2_refusalOf_136 ⟨Nat.le_of_ble_eq_true rfl, Nat.le_of_ble_eq_true rfl⟩) (fun H locs hI => ?_)
    exact ee_e C0 hI hr hlocks hf dX2_refusalOf_139
  have hf := (if_neg c_30).symm.trans hf
  by_cases c_35 : (swAl.getD (ix (nI (ix (M o1 0)))) 0) = 8
  · have hf := (if_pos c_35).symm.trans hf
    refine lv_tableIn (off := 124) (tgt := 140) C0.1 C0.2.1 dX2_refusalOf_16 (by rw [c_35]; decide) (by rw [c_35]; decide) (by rw [c_35]; rfl) (by decide) ?_
    refine lv_aload_n C0.1 C0.2.1 dX2_refusalOf_140 rfl (lv_at hl 1 rfl) ?_
    refine lv_aload_n C0.1 C0.2.1 dX2_refusalOf_141 rfl (lv_at hl 0 rfl) ?_
    refine lv_iconst (v := 0) C0.1 C0.2.1 dX2_refusalOf_142 (by decide) ?_
    obtain ⟨h_36, hf⟩ := chk_some hf
    refine r_iald C0 C1 hI (o1 + 1) (kdlt12 (kd11_1 ho1)) (shI_12 (kd11_1 ho1)) h_36 dX2_refusalOf_143 ?_
    obtain ⟨r_38, h_37, hf⟩ := ob_some hf
    refine k_e C1 hI (q_V C0 C1 hI a (c_X2_refusalToCall l g X r b H.size n M a ha (M (o1 + 1) (ix 0)) h_37) w_1338 w_595 w_5 w_72 w_596 ⟨rfl, rfl⟩ hd_X2_refusalToCall ⟨Nat.le_of_ble_eq_true rfl, Nat.le_of_ble_eq_true rfl⟩ (kdlt1 ha) ((shI_1 ha) _) rfl rfl rfl hl.1 rfl (Nat.le_of_ble_eq_true rfl) dX2_refusalOf_144 ⟨Nat.le_of_ble_eq_true rfl, Nat.le_of_ble_eq_true rfl⟩) (fun H locs hI => ?_)
    exact ee_e C0 hI hr hlocks hf dX2_refusalOf_147
  have hf := (if_neg c_35).symm.trans hf
  by_cases c_39 : (swAl.getD (ix (nI (ix (M o1 0)))) 0) = 9
  · have hf := (if_pos c_39).symm.trans hf
    refine lv_tableIn (off := 132) (tgt := 148) C0.1 C0.2.1 dX2_refusalOf_16 (by rw [c_39]; decide) (by rw [c_39]; decide) (by rw [c_39]; rfl) (by decide) ?_
    refine lv_aload_n C0.1 C0.2.1 dX2_refusalOf_148 rfl (lv_at hl 1 rfl) ?_
    refine lv_aload_n C0.1 C0.2.1 dX2_refusalOf_149 rfl (lv_at hl 0 rfl) ?_
    refine lv_iconst (v := 0) C0.1 C0.2.1 dX2_refusalOf_150 (by decide) ?_
    obtain ⟨h_40, hf⟩ := chk_some hf
    refine r_iald C0 C1 hI (o1 + 1) (kdlt12 (kd11_1 ho1)) (shI_12 (kd11_1 ho1)) h_40 dX2_refusalOf_151 ?_
    refine lv_aload_n C0.1 C0.2.1 dX2_refusalOf_152 rfl (lv_at hl 0 rfl) ?_
    refine lv_iconst (v := 1) C0.1 C0.2.1 dX2_refusalOf_153 (by decide) ?_
    obtain ⟨h_41, hf⟩ := chk_some hf
    refine r_iald C0 C1 hI (o1 + 1) (kdlt12 (kd11_1 ho1)) (shI_12 (kd11_1 ho1)) h_41 dX2_refusalOf_154 ?_
    obtain ⟨r_43, h_42, hf⟩ := ob_some hf
    refine k_e C1 hI (q_V C0 C1 hI a (c_X2_refusalToSupport l g X r b H.size n M a ha (M (o1 + 1) (ix 0)) (M (o1 + 1) (ix 1)) h_42) w_1339 w_1341 w_56 w_72 w_1342 ⟨rfl, rfl⟩ hd_X2_refusalToSupport ⟨Nat.le_of_ble_eq_true rfl, Nat.le_of_ble_eq_true rfl⟩ (kdlt1 ha) ((shI_1 ha) _) rfl rfl rfl hl.1 rfl (Nat.le_of_ble_eq_true rfl) dX2_refusalOf_155 ⟨Nat.le_of_ble_eq_true rfl, Nat.le_of_ble_eq_true rfl⟩) (fun H locs hI => ?_)
    exact ee_e C0 hI hr hlocks hf dX2_refusalOf_158
  have hf := (if_neg c_39).symm.trans hf
  by_cases c_44 : (swAl.getD (ix (nI (ix (M o1 0)))) 0) = 10
  · have hf := (if_pos c_44).symm.trans hf
    refine lv_tableIn (off := 143) (tgt := 159) C0.1 C0.2.1 dX2_refusalOf_16 (by rw [c_44]; decide) (by rw [c_44]; decide) (by rw [c_44]; rfl) (by decide) ?_
    refine lv_aload_n C0.1 C0.2.1 dX2_refusalOf_159 rfl (lv_at hl 1 rfl) ?_
    refine lv_aload_n C0.1 C0.2.1 dX2_refusalOf_160 rfl (lv_at hl 0 rfl) ?_
    refine lv_iconst (v := 0) C0.1 C0.2.1 dX2_refusalOf_161 (by decide) ?_
    obtain ⟨h_45, hf⟩ := chk_some hf
    refine r_iald C0 C1 hI (o1 + 1) (kdlt12 (kd11_1 ho1)) (shI_12 (kd11_1 ho1)) h_45 dX2_refusalOf_162 ?_
    refine lv_aload_n C0.1 C0.2.1 dX2_refusalOf_163 rfl (lv_at hl 0 rfl) ?_
    refine lv_iconst (v := 1) C0.1 C0.2.1 dX2_refusalOf_164 (by decide) ?_
    obtain ⟨h_46, hf⟩ := chk_some hf
    refine r_iald C0 C1 hI (o1 + 1) (kdlt12 (kd11_1 ho1)) (shI_12 (kd11_1 ho1)) h_46 dX2_refusalOf_165 ?_
    refine lv_aload_n C0.1 C0.2.1 dX2_refusalOf_166 rfl (lv_at hl 0 rfl) ?_
    refine lv_iconst (v := 3) C0.1 C0.2.1 dX2_refusalOf_167 (by decide) ?_
    obtain ⟨h_47, hf⟩ := chk_some hf
    refine r_iald C0 C1 hI (o1 + 1) (kdlt12 (kd11_1 ho1)) (shI_12 (kd11_1 ho1)) h_47 dX2_refusalOf_168 ?_
    obtain ⟨r_49, h_48, hf⟩ := ob_some hf
    refine k_e C1 hI (q_V C0 C1 hI a (c_X2_refusalToHear l g X r b H.size n M a ha (M (o1 + 1) (ix 0)) (M (o1 + 1) (ix 1)) (M (o1 + 1) (ix 3)) h_48) w_1345 w_1347 w_57 w_72 w_1348 ⟨rfl, rfl⟩ hd_X2_refusalToHear ⟨Nat.le_of_ble_eq_true rfl, Nat.le_of_ble_eq_true rfl⟩ (kdlt1 ha) ((shI_1 ha) _) rfl rfl rfl hl.1 rfl (Nat.le_of_ble_eq_true rfl) dX2_refusalOf_169 ⟨Nat.le_of_ble_eq_true rfl, Nat.le_of_ble_eq_true rfl⟩) (fun H locs hI => ?_)
    exact ee_e C0 hI hr hlocks hf dX2_refusalOf_172
  have hf := (if_neg c_44).symm.trans hf
  have c_3 := lv_neT c_3 (show (1 : Int32).toInt = 1 from rfl)
  have c_8 := lv_neT c_8 (show (2 : Int32).toInt = 2 from rfl)
  have c_12 := lv_neT c_12 (show (3 : Int32).toInt = 3 from rfl)
  have c_17 := lv_neT c_17 (show (4 : Int32).toInt = 4 from rfl)
  have c_21 := lv_neT c_21 (show (5 : Int32).toInt = 5 from rfl)
  have c_25 := lv_neT c_25 (show (6 : Int32).toInt = 6 from rfl)
  have c_30 := lv_neT c_30 (show (7 : Int32).toInt = 7 from rfl)
  have c_35 := lv_neT c_35 (show (8 : Int32).toInt = 8 from rfl)
  have c_39 := lv_neT c_39 (show (9 : Int32).toInt = 9 from rfl)
  have c_44 := lv_neT c_44 (show (10 : Int32).toInt = 10 from rfl)
  refine lv_tableOut (tgt := 173) C0.1 C0.2.1 dX2_refusalOf_16 (by omega) (by decide) ?_
  refine lv_aload_n C0.1 C0.2.1 dX2_refusalOf_173 rfl (lv_at hl 1 rfl) ?_
  refine lv_aload_n C0.1 C0.2.1 dX2_refusalOf_174 rfl (lv_at hl 0 rfl) ?_
  refine lv_iconst (v := 0) C0.1 C0.2.1 dX2_refusalOf_175 (by decide) ?_
  obtain ⟨h_50, hf⟩ := chk_some hf
  refine r_iald C0 C1 hI (o1 + 1) (kdlt12 (kd11_1 ho1)) (shI_12 (kd11_1 ho1)) h_50 dX2_refusalOf_176 ?_
  obtain ⟨r_52, h_51, hf⟩ := ob_some hf
  refine k_e C1 hI (q_V C0 C1 hI a (c_X2_refusalToSettle l g X r b H.size n M a ha (M (o1 + 1) (ix 0)) h_51) w_1351 w_914 w_43 w_72 w_915 ⟨rfl, rfl⟩ hd_X2_refusalToSettle ⟨Nat.le_of_ble_eq_true rfl, Nat.le_of_ble_eq_true rfl⟩ (kdlt1 ha) ((shI_1 ha) _) rfl rfl rfl hl.1 rfl (Nat.le_of_ble_eq_true rfl) dX2_refusalOf_177 ⟨Nat.le_of_ble_eq_true rfl, Nat.le_of_ble_eq_true rfl⟩) (fun H locs hI => ?_)
  exact ee_e C0 hI hr hlocks hf dX2_refusalOf_180

def F_X2_carryOut (n : Nat) (a : Nat) (o1 : Nat) (M : Mem) : Option Mem :=
  chk (decide (ix (M o1 0) < 11)) (chk (inb (nI (ix (M o1 0))) 11) ((if (swAl.getD (ix (nI (ix (M o1 0)))) 0) = 1 then chk (inb 0 4) (chk (inb 1 4) (ob2 (F_X2_admit n a (M (o1 + 1) (ix 0)) (M (o1 + 1) (ix 1)) M) (fun r_7 M_8 => some M_8))) else if (swAl.getD (ix (nI (ix (M o1 0)))) 0) = 2 then chk (inb 0 4) (ob2 (F_X2_lay n a (M (o1 + 1) (ix 0)) M) (fun r_12 M_13 => some M_13)) else if (swAl.getD (ix (nI (ix (M o1 0)))) 0) = 3 then chk (inb 0 4) (chk (inb 1 4) (ob2 (F_X2_seat n a (M (o1 + 1) (ix 0)) (M (o1 + 1) (ix 1)) M) (fun r_18 M_19 => some M_19))) else if (swAl.getD (ix (nI (ix (M o1 0)))) 0) = 4 then chk (inb 0 4) (ob2 (F_X2_unseat n a (M (o1 + 1) (ix 0)) M) (fun r_23 M_24 => some M_24)) else if (swAl.getD (ix (nI (ix (M o1 0)))) 0) = 5 then chk (inb 0 4) (ob2 (F_X2_propose n a (M (o1 + 1) (ix 0)) M) (fun r_28 M_29 => some M_29)) else if (swAl.getD (ix (nI (ix (M o1 0)))) 0) = 6 then chk (inb 0 4) (chk (inb 1 4) (ob2 (F_X2_enlist n a (M (o1 + 1) (ix 0)) (M (o1 + 1) (ix 1)) M) (fun r_34 M_35 => some M_35))) else if (swAl.getD (ix (nI (ix (M o1 0)))) 0) = 7 then chk (inb 0 4) (chk (inb 1 4) (ob2 (F_X2_unlist n a (M (o1 + 1) (ix 0)) (M (o1 + 1) (ix 1)) M) (fun r_40 M_41 => some M_41))) else if (swAl.getD (ix (nI (ix (M o1 0)))) 0) = 8 then chk (inb 0 4) (ob2 (F_X2_callFirst n a (M (o1 + 1) (ix 0)) M) (fun r_45 M_46 => some M_46)) else if (swAl.getD (ix (nI (ix (M o1 0)))) 0) = 9 then chk (inb 0 4) (chk (inb 1 4) (ob2 (F_X2_support n a (M (o1 + 1) (ix 0)) (M (o1 + 1) (ix 1)) M) (fun r_51 M_52 => some M_52))) else if (swAl.getD (ix (nI (ix (M o1 0)))) 0) = 10 then chk (inb 0 4) (chk (inb 1 4) (chk (inb 3 4) (chk (inb 2 4) ((if (M (o1 + 1) (ix 2)) = 0 then ob2 (F_X2_hear n a (M (o1 + 1) (ix 0)) (M (o1 + 1) (ix 1)) (M (o1 + 1) (ix 3)) 0 M) (fun r_60 M_61 => some M_61) else ob2 (F_X2_hear n a (M (o1 + 1) (ix 0)) (M (o1 + 1) (ix 1)) (M (o1 + 1) (ix 3)) 1 M) (fun r_63 M_64 => some M_64)))))) else chk (inb 0 4) (ob2 (F_X2_settle n a (M (o1 + 1) (ix 0)) M) (fun r_67 M_68 => some M_68)))))
theorem hd_X2_carryOut : yX2_carryOut.cls ≠ "java/lang/invoke/MethodHandle" ∧ yX2_carryOut.cls ≠ "java/lang/invoke/VarHandle" ∧ (parseMethodDescriptor yX2_carryOut.desc).map (fun d => d.parameters.length) = some 1 := ⟨by decide +kernel, by decide +kernel, by decide +kernel⟩
set_option maxHeartbeats 4000000 in
set_option maxRecDepth 100000 in
theorem c_X2_carryOut (l : Launch) (g : GG) (X : va_W) (r : Nat → Nat) (b : Nat → Nat) (sz n : Nat) (M : Mem) (a : Nat) (ha : kdI a = 1) (o1 : Nat) (ho1 : kdI o1 = 11)  {M' : Mem} (hf : F_X2_carryOut n a o1 M = some M') : Met l yX2_carryOut (.code yX2_carryOut cX2_carryOut 3 none :: LWg) (rmD 3 0 0) (va_Pc [.ref (b a), .ref (b o1)] (PreP g X 372 (shI g r b) b sz M)) (Qv g X 372 (shI g r b) b sz M') 0 0 (AA X b 372 sz) := by
  refine met_go (by decide +kernel) rfl (Nat.le_of_ble_eq_true rfl) ?_
  intro p e s m below meth c ls H locs C0 C1 hr hlocks hnm hsz hl hI
  subst hsz
  have hl : lv_has ls 3 [(0, .ref (b a)), (1, .ref (b o1))] := hl
  unfold F_X2_carryOut at hf
  refine lv_aload_n C0.1 C0.2.1 dX2_carryOut_0 rfl (lv_at hl 1 rfl) ?_
  refine r_getN (C := RX3) (T := TX3) (N9 := 3) (ci := 5) C0 C1 hI iX3 rfl o1 1 (kdlt11 ho1) (by decide) ((shI_11 ho1) _) rfl rfl 35 rfl dX2_carryOut_1 ?_
  refine lv_astore_n (lv' := [(2, .ref (b (o1 + 1))), (0, .ref (b a)), (1, .ref (b o1))]) C0.1 C0.2.1 dX2_carryOut_4 rfl hl (by decide) rfl (fun ls hl => ?_)
  refine r_swA C0 C1 hI w_1321 dX2_carryOut_5 ?_
  refine lv_aload_n C0.1 C0.2.1 dX2_carryOut_8 rfl (lv_at hl 2 rfl) ?_
  refine r_getN (C := RX3) (T := TX3) (N9 := 3) (ci := 5) C0 C1 hI iX3 rfl o1 0 (kdlt11 ho1) (by decide) ((shI_11 ho1) _) rfl rfl 34 rfl dX2_carryOut_9 ?_
  obtain ⟨h_1, hf⟩ := chk_some hf
  refine r_ordA C0 C1 hI hl.1 (ix (M o1 0)) (of_decide_eq_true h_1) w_1323 ⟨Nat.le_of_ble_eq_true rfl, Nat.le_of_ble_eq_true rfl⟩ ⟨Nat.le_of_ble_eq_true rfl, Nat.le_of_ble_eq_true rfl⟩ (Nat.le_of_ble_eq_true rfl) dX2_carryOut_12 (fun H locs hI => ?_)
  obtain ⟨h_2, hf⟩ := chk_some hf
  refine r_swAld C0 C1 hI h_2 dX2_carryOut_15 ?_
  by_cases c_3 : (swAl.getD (ix (nI (ix (M o1 0)))) 0) = 1
  · have hf := (if_pos c_3).symm.trans hf
    refine lv_tableIn (off := 56) (tgt := 72) C0.1 C0.2.1 dX2_carryOut_16 (by rw [c_3]; decide) (by rw [c_3]; decide) (by rw [c_3]; rfl) (by decide) ?_
    refine lv_aload_n C0.1 C0.2.1 dX2_carryOut_72 rfl (lv_at hl 1 rfl) ?_
    refine lv_aload_n C0.1 C0.2.1 dX2_carryOut_73 rfl (lv_at hl 0 rfl) ?_
    refine lv_iconst (v := 0) C0.1 C0.2.1 dX2_carryOut_74 (by decide) ?_
    obtain ⟨h_4, hf⟩ := chk_some hf
    refine r_iald C0 C1 hI (o1 + 1) (kdlt12 (kd11_1 ho1)) (shI_12 (kd11_1 ho1)) h_4 dX2_carryOut_75 ?_
    refine lv_aload_n C0.1 C0.2.1 dX2_carryOut_76 rfl (lv_at hl 0 rfl) ?_
    refine lv_iconst (v := 1) C0.1 C0.2.1 dX2_carryOut_77 (by decide) ?_
    obtain ⟨h_5, hf⟩ := chk_some hf
    refine r_iald C0 C1 hI (o1 + 1) (kdlt12 (kd11_1 ho1)) (shI_12 (kd11_1 ho1)) h_5 dX2_carryOut_78 ?_
    obtain ⟨r_7, M_8, h_6, hf⟩ := ob2_some hf
    refine k_i C1 hI (q_V C0 C1 hI a (c_X2_admit l g X r b H.size n M a ha (M (o1 + 1) (ix 0)) (M (o1 + 1) (ix 1)) h_6) w_1362 w_739 w_20 w_72 w_740 ⟨rfl, rfl⟩ hd_X2_admit ⟨Nat.le_of_ble_eq_true rfl, Nat.le_of_ble_eq_true rfl⟩ (kdlt1 ha) ((shI_1 ha) _) rfl rfl rfl hl.1 rfl (Nat.le_of_ble_eq_true rfl) dX2_carryOut_79 ⟨Nat.le_of_ble_eq_true rfl, Nat.le_of_ble_eq_true rfl⟩) (fun H locs hI => ?_)
    refine lv_pop C0.1 C0.2.1 dX2_carryOut_82 rfl ?_
    refine lv_goto (tgt := 222) C0.1 C0.2.1 dX2_carryOut_83 (by decide) ?_
    exact ee_vm C0 hI hr hlocks hf dX2_carryOut_222
  have hf := (if_neg c_3).symm.trans hf
  by_cases c_9 : (swAl.getD (ix (nI (ix (M o1 0)))) 0) = 2
  · have hf := (if_pos c_9).symm.trans hf
    refine lv_tableIn (off := 70) (tgt := 86) C0.1 C0.2.1 dX2_carryOut_16 (by rw [c_9]; decide) (by rw [c_9]; decide) (by rw [c_9]; rfl) (by decide) ?_
    refine lv_aload_n C0.1 C0.2.1 dX2_carryOut_86 rfl (lv_at hl 1 rfl) ?_
    refine lv_aload_n C0.1 C0.2.1 dX2_carryOut_87 rfl (lv_at hl 0 rfl) ?_
    refine lv_iconst (v := 0) C0.1 C0.2.1 dX2_carryOut_88 (by decide) ?_
    obtain ⟨h_10, hf⟩ := chk_some hf
    refine r_iald C0 C1 hI (o1 + 1) (kdlt12 (kd11_1 ho1)) (shI_12 (kd11_1 ho1)) h_10 dX2_carryOut_89 ?_
    obtain ⟨r_12, M_13, h_11, hf⟩ := ob2_some hf
    refine k_i C1 hI (q_V C0 C1 hI a (c_X2_lay l g X r b H.size n M a ha (M (o1 + 1) (ix 0)) h_11) w_1363 w_756 w_22 w_72 w_757 ⟨rfl, rfl⟩ hd_X2_lay ⟨Nat.le_of_ble_eq_true rfl, Nat.le_of_ble_eq_true rfl⟩ (kdlt1 ha) ((shI_1 ha) _) rfl rfl rfl hl.1 rfl (Nat.le_of_ble_eq_true rfl) dX2_carryOut_90 ⟨Nat.le_of_ble_eq_true rfl, Nat.le_of_ble_eq_true rfl⟩) (fun H locs hI => ?_)
    refine lv_pop C0.1 C0.2.1 dX2_carryOut_93 rfl ?_
    refine lv_goto (tgt := 222) C0.1 C0.2.1 dX2_carryOut_94 (by decide) ?_
    exact ee_vm C0 hI hr hlocks hf dX2_carryOut_222
  have hf := (if_neg c_9).symm.trans hf
  by_cases c_14 : (swAl.getD (ix (nI (ix (M o1 0)))) 0) = 3
  · have hf := (if_pos c_14).symm.trans hf
    refine lv_tableIn (off := 81) (tgt := 97) C0.1 C0.2.1 dX2_carryOut_16 (by rw [c_14]; decide) (by rw [c_14]; decide) (by rw [c_14]; rfl) (by decide) ?_
    refine lv_aload_n C0.1 C0.2.1 dX2_carryOut_97 rfl (lv_at hl 1 rfl) ?_
    refine lv_aload_n C0.1 C0.2.1 dX2_carryOut_98 rfl (lv_at hl 0 rfl) ?_
    refine lv_iconst (v := 0) C0.1 C0.2.1 dX2_carryOut_99 (by decide) ?_
    obtain ⟨h_15, hf⟩ := chk_some hf
    refine r_iald C0 C1 hI (o1 + 1) (kdlt12 (kd11_1 ho1)) (shI_12 (kd11_1 ho1)) h_15 dX2_carryOut_100 ?_
    refine lv_aload_n C0.1 C0.2.1 dX2_carryOut_101 rfl (lv_at hl 0 rfl) ?_
    refine lv_iconst (v := 1) C0.1 C0.2.1 dX2_carryOut_102 (by decide) ?_
    obtain ⟨h_16, hf⟩ := chk_some hf
    refine r_iald C0 C1 hI (o1 + 1) (kdlt12 (kd11_1 ho1)) (shI_12 (kd11_1 ho1)) h_16 dX2_carryOut_103 ?_
    obtain ⟨r_18, M_19, h_17, hf⟩ := ob2_some hf
    refine k_i C1 hI (q_V C0 C1 hI a (c_X2_seat l g X r b H.size n M a ha (M (o1 + 1) (ix 0)) (M (o1 + 1) (ix 1)) h_17) w_1364 w_788 w_26 w_72 w_789 ⟨rfl, rfl⟩ hd_X2_seat ⟨Nat.le_of_ble_eq_true rfl, Nat.le_of_ble_eq_true rfl⟩ (kdlt1 ha) ((shI_1 ha) _) rfl rfl rfl hl.1 rfl (Nat.le_of_ble_eq_true rfl) dX2_carryOut_104 ⟨Nat.le_of_ble_eq_true rfl, Nat.le_of_ble_eq_true rfl⟩) (fun H locs hI => ?_)
    refine lv_pop C0.1 C0.2.1 dX2_carryOut_107 rfl ?_
    refine lv_goto (tgt := 222) C0.1 C0.2.1 dX2_carryOut_108 (by decide) ?_
    exact ee_vm C0 hI hr hlocks hf dX2_carryOut_222
  have hf := (if_neg c_14).symm.trans hf
  by_cases c_20 : (swAl.getD (ix (nI (ix (M o1 0)))) 0) = 4
  · have hf := (if_pos c_20).symm.trans hf
    refine lv_tableIn (off := 95) (tgt := 111) C0.1 C0.2.1 dX2_carryOut_16 (by rw [c_20]; decide) (by rw [c_20]; decide) (by rw [c_20]; rfl) (by decide) ?_
    refine lv_aload_n C0.1 C0.2.1 dX2_carryOut_111 rfl (lv_at hl 1 rfl) ?_
    refine lv_aload_n C0.1 C0.2.1 dX2_carryOut_112 rfl (lv_at hl 0 rfl) ?_
    refine lv_iconst (v := 0) C0.1 C0.2.1 dX2_carryOut_113 (by decide) ?_
    obtain ⟨h_21, hf⟩ := chk_some hf
    refine r_iald C0 C1 hI (o1 + 1) (kdlt12 (kd11_1 ho1)) (shI_12 (kd11_1 ho1)) h_21 dX2_carryOut_114 ?_
    obtain ⟨r_23, M_24, h_22, hf⟩ := ob2_some hf
    refine k_i C1 hI (q_V C0 C1 hI a (c_X2_unseat l g X r b H.size n M a ha (M (o1 + 1) (ix 0)) h_22) w_1365 w_809 w_29 w_72 w_810 ⟨rfl, rfl⟩ hd_X2_unseat ⟨Nat.le_of_ble_eq_true rfl, Nat.le_of_ble_eq_true rfl⟩ (kdlt1 ha) ((shI_1 ha) _) rfl rfl rfl hl.1 rfl (Nat.le_of_ble_eq_true rfl) dX2_carryOut_115 ⟨Nat.le_of_ble_eq_true rfl, Nat.le_of_ble_eq_true rfl⟩) (fun H locs hI => ?_)
    refine lv_pop C0.1 C0.2.1 dX2_carryOut_118 rfl ?_
    refine lv_goto (tgt := 222) C0.1 C0.2.1 dX2_carryOut_119 (by decide) ?_
    exact ee_vm C0 hI hr hlocks hf dX2_carryOut_222
  have hf := (if_neg c_20).symm.trans hf
  by_cases c_25 : (swAl.getD (ix (nI (ix (M o1 0)))) 0) = 5
  · have hf := (if_pos c_25).symm.trans hf
    refine lv_tableIn (off := 106) (tgt := 122) C0.1 C0.2.1 dX2_carryOut_16 (by rw [c_25]; decide) (by rw [c_25]; decide) (by rw [c_25]; rfl) (by decide) ?_
    refine lv_aload_n C0.1 C0.2.1 dX2_carryOut_122 rfl (lv_at hl 1 rfl) ?_
    refine lv_aload_n C0.1 C0.2.1 dX2_carryOut_123 rfl (lv_at hl 0 rfl) ?_
    refine lv_iconst (v := 0) C0.1 C0.2.1 dX2_carryOut_124 (by decide) ?_
    obtain ⟨h_26, hf⟩ := chk_some hf
    refine r_iald C0 C1 hI (o1 + 1) (kdlt12 (kd11_1 ho1)) (shI_12 (kd11_1 ho1)) h_26 dX2_carryOut_125 ?_
    obtain ⟨r_28, M_29, h_27, hf⟩ := ob2_some hf
    refine k_i C1 hI (q_V C0 C1 hI a (c_X2_propose l g X r b H.size n M a ha (M (o1 + 1) (ix 0)) h_27) w_1366 w_826 w_31 w_72 w_827 ⟨rfl, rfl⟩ hd_X2_propose ⟨Nat.le_of_ble_eq_true rfl, Nat.le_of_ble_eq_true rfl⟩ (kdlt1 ha) ((shI_1 ha) _) rfl rfl rfl hl.1 rfl (Nat.le_of_ble_eq_true rfl) dX2_carryOut_126 ⟨Nat.le_of_ble_eq_true rfl, Nat.le_of_ble_eq_true rfl⟩) (fun H locs hI => ?_)
    refine lv_pop C0.1 C0.2.1 dX2_carryOut_129 rfl ?_
    refine lv_goto (tgt := 222) C0.1 C0.2.1 dX2_carryOut_130 (by decide) ?_
    exact ee_vm C0 hI hr hlocks hf dX2_carryOut_222
  have hf := (if_neg c_25).symm.trans hf
  by_cases c_30 : (swAl.getD (ix (nI (ix (M o1 0)))) 0) = 6
  · have hf := (if_pos c_30).symm.trans hf
    refine lv_tableIn (off := 117) (tgt := 133) C0.1 C0.2.1 dX2_carryOut_16 (by rw [c_30]; decide) (by rw [c_30]; decide) (by rw [c_30]; rfl) (by decide) ?_
    refine lv_aload_n C0.1 C0.2.1 dX2_carryOut_133 rfl (lv_at hl 1 rfl) ?_
    refine lv_aload_n C0.1 C0.2.1 dX2_carryOut_134 rfl (lv_at hl 0 rfl) ?_
    refine lv_iconst (v := 0) C0.1 C0.2.1 dX2_carryOut_135 (by decide) ?_
    obtain ⟨h_31, hf⟩ := chk_some hf
    refine r_iald C0 C1 hI (o1 + 1) (kdlt12 (kd11_1 ho1)) (shI_12 (kd11_1 ho1)) h_31 dX2_carryOut_136 ?_
    refine lv_aload_n C0.1 C0.2.1 dX2_carryOut_137 rfl (lv_at hl 0 rfl) ?_
    refine lv_iconst (v := 1) C0.1 C0.2.1 dX2_carryOut_138 (by decide) ?_
    obtain ⟨h_32, hf⟩ := chk_some hf
    refine r_iald C0 C1 hI (o1 + 1) (kdlt12 (kd11_1 ho1)) (shI_12 (kd11_1 ho1)) h_32 dX2_carryOut_139 ?_
    obtain ⟨r_34, M_35, h_33, hf⟩ := ob2_some hf
    refine k_i C1 hI (q_V C0 C1 hI a (c_X2_enlist l g X r b H.size n M a ha (M (o1 + 1) (ix 0)) (M (o1 + 1) (ix 1)) h_33) w_1367 w_866 w_37 w_72 w_867 ⟨rfl, rfl⟩ hd_X2_enlist ⟨Nat.le_of_ble_eq_true rfl, Nat.le_of_ble_eq_true rfl⟩ (kdlt1 ha) ((shI_1 ha) _) rfl rfl rfl hl.1 rfl (Nat.le_of_ble_eq_true rfl) dX2_carryOut_140 ⟨Nat.le_of_ble_eq_true rfl, Nat.le_of_ble_eq_true rfl⟩) (fun H locs hI => ?_)
    refine lv_pop C0.1 C0.2.1 dX2_carryOut_143 rfl ?_
    refine lv_goto (tgt := 222) C0.1 C0.2.1 dX2_carryOut_144 (by decide) ?_
    exact ee_vm C0 hI hr hlocks hf dX2_carryOut_222
  have hf := (if_neg c_30).symm.trans hf
  by_cases c_36 : (swAl.getD (ix (nI (ix (M o1 0)))) 0) = 7
  · have hf := (if_pos c_36).symm.trans hf
    refine lv_tableIn (off := 131) (tgt := 147) C0.1 C0.2.1 dX2_carryOut_16 (by rw [c_36]; decide) (by rw [c_36]; decide) (by rw [c_36]; rfl) (by decide) ?_
    refine lv_aload_n C0.1 C0.2.1 dX2_carryOut_147 rfl (lv_at hl 1 rfl) ?_
    refine lv_aload_n C0.1 C0.2.1 dX2_carryOut_148 rfl (lv_at hl 0 rfl) ?_
    refine lv_iconst (v := 0) C0.1 C0.2.1 dX2_carryOut_149 (by decide) ?_
    obtain ⟨h_37, hf⟩ := chk_some hf
    refine r_iald C0 C1 hI (o1 + 1) (kdlt12 (kd11_1 ho1)) (shI_12 (kd11_1 ho1)) h_37 dX2_carryOut_150 ?_
    refine lv_aload_n C0.1 C0.2.1 dX2_carryOut_151 rfl (lv_at hl 0 rfl) ?_
    refine lv_iconst (v := 1) C0.1 C0.2.1 dX2_carryOut_152 (by decide) ?_
    obtain ⟨h_38, hf⟩ := chk_some hf
    refine r_iald C0 C1 hI (o1 + 1) (kdlt12 (kd11_1 ho1)) (shI_12 (kd11_1 ho1)) h_38 dX2_carryOut_153 ?_
    obtain ⟨r_40, M_41, h_39, hf⟩ := ob2_some hf
    refine k_i C1 hI (q_V C0 C1 hI a (c_X2_unlist l g X r b H.size n M a ha (M (o1 + 1) (ix 0)) (M (o1 + 1) (ix 1)) h_39) w_1368 w_1370 w_60 w_72 w_1371 ⟨rfl, rfl⟩ hd_X2_unlist ⟨Nat.le_of_ble_eq_true rfl, Nat.le_of_ble_eq_true rfl⟩ (kdlt1 ha) ((shI_1 ha) _) rfl rfl rfl hl.1 rfl (Nat.le_of_ble_eq_true rfl) dX2_carryOut_154 ⟨Nat.le_of_ble_eq_true rfl, Nat.le_of_ble_eq_true rfl⟩) (fun H locs hI => ?_)
    refine lv_pop C0.1 C0.2.1 dX2_carryOut_157 rfl ?_
    refine lv_goto (tgt := 222) C0.1 C0.2.1 dX2_carryOut_158 (by decide) ?_
    exact ee_vm C0 hI hr hlocks hf dX2_carryOut_222
  have hf := (if_neg c_36).symm.trans hf
  by_cases c_42 : (swAl.getD (ix (nI (ix (M o1 0)))) 0) = 8
  · have hf := (if_pos c_42).symm.trans hf
    refine lv_tableIn (off := 145) (tgt := 161) C0.1 C0.2.1 dX2_carryOut_16 (by rw [c_42]; decide) (by rw [c_42]; decide) (by rw [c_42]; rfl) (by decide) ?_
    refine lv_aload_n C0.1 C0.2.1 dX2_carryOut_161 rfl (lv_at hl 1 rfl) ?_
    refine lv_aload_n C0.1 C0.2.1 dX2_carryOut_162 rfl (lv_at hl 0 rfl) ?_
    refine lv_iconst (v := 0) C0.1 C0.2.1 dX2_carryOut_163 (by decide) ?_
    obtain ⟨h_43, hf⟩ := chk_some hf
    refine r_iald C0 C1 hI (o1 + 1) (kdlt12 (kd11_1 ho1)) (shI_12 (kd11_1 ho1)) h_43 dX2_carryOut_164 ?_
    obtain ⟨r_45, M_46, h_44, hf⟩ := ob2_some hf
    refine k_i C1 hI (q_V C0 C1 hI a (c_X2_callFirst l g X r b H.size n M a ha (M (o1 + 1) (ix 0)) h_44) w_1372 w_882 w_39 w_72 w_883 ⟨rfl, rfl⟩ hd_X2_callFirst ⟨Nat.le_of_ble_eq_true rfl, Nat.le_of_ble_eq_true rfl⟩ (kdlt1 ha) ((shI_1 ha) _) rfl rfl rfl hl.1 rfl (Nat.le_of_ble_eq_true rfl) dX2_carryOut_165 ⟨Nat.le_of_ble_eq_true rfl, Nat.le_of_ble_eq_true rfl⟩) (fun H locs hI => ?_)
    refine lv_pop C0.1 C0.2.1 dX2_carryOut_168 rfl ?_
    refine lv_goto (tgt := 222) C0.1 C0.2.1 dX2_carryOut_169 (by decide) ?_
    exact ee_vm C0 hI hr hlocks hf dX2_carryOut_222
  have hf := (if_neg c_42).symm.trans hf
  by_cases c_47 : (swAl.getD (ix (nI (ix (M o1 0)))) 0) = 9
  · have hf := (if_pos c_47).symm.trans hf
    refine lv_tableIn (off := 156) (tgt := 172) C0.1 C0.2.1 dX2_carryOut_16 (by rw [c_47]; decide) (by rw [c_47]; decide) (by rw [c_47]; rfl) (by decide) ?_
    refine lv_aload_n C0.1 C0.2.1 dX2_carryOut_172 rfl (lv_at hl 1 rfl) ?_
    refine lv_aload_n C0.1 C0.2.1 dX2_carryOut_173 rfl (lv_at hl 0 rfl) ?_
    refine lv_iconst (v := 0) C0.1 C0.2.1 dX2_carryOut_174 (by decide) ?_
    obtain ⟨h_48, hf⟩ := chk_some hf
    refine r_iald C0 C1 hI (o1 + 1) (kdlt12 (kd11_1 ho1)) (shI_12 (kd11_1 ho1)) h_48 dX2_carryOut_175 ?_
    refine lv_aload_n C0.1 C0.2.1 dX2_carryOut_176 rfl (lv_at hl 0 rfl) ?_
    refine lv_iconst (v := 1) C0.1 C0.2.1 dX2_carryOut_177 (by decide) ?_
    obtain ⟨h_49, hf⟩ := chk_some hf
    refine r_iald C0 C1 hI (o1 + 1) (kdlt12 (kd11_1 ho1)) (shI_12 (kd11_1 ho1)) h_49 dX2_carryOut_178 ?_
    obtain ⟨r_51, M_52, h_50, hf⟩ := ob2_some hf
    refine k_i C1 hI (q_V C0 C1 hI a (c_X2_support l g X r b H.size n M a ha (M (o1 + 1) (ix 0)) (M (o1 + 1) (ix 1)) h_50) w_1373 w_1375 w_61 w_72 w_1376 ⟨rfl, rfl⟩ hd_X2_support ⟨Nat.le_of_ble_eq_true rfl, Nat.le_of_ble_eq_true rfl⟩ (kdlt1 ha) ((shI_1 ha) _) rfl rfl rfl hl.1 rfl (Nat.le_of_ble_eq_true rfl) dX2_carryOut_179 ⟨Nat.le_of_ble_eq_true rfl, Nat.le_of_ble_eq_true rfl⟩) (fun H locs hI => ?_)
    refine lv_pop C0.1 C0.2.1 dX2_carryOut_182 rfl ?_
    refine lv_goto (tgt := 222) C0.1 C0.2.1 dX2_carryOut_183 (by decide) ?_
    exact ee_vm C0 hI hr hlocks hf dX2_carryOut_222
  have hf := (if_neg c_47).symm.trans hf
  by_cases c_53 : (swAl.getD (ix (nI (ix (M o1 0)))) 0) = 10
  · have hf := (if_pos c_53).symm.trans hf
    refine lv_tableIn (off := 170) (tgt := 186) C0.1 C0.2.1 dX2_carryOut_16 (by rw [c_53]; decide) (by rw [c_53]; decide) (by rw [c_53]; rfl) (by decide) ?_
    refine lv_aload_n C0.1 C0.2.1 dX2_carryOut_186 rfl (lv_at hl 1 rfl) ?_
    refine lv_aload_n C0.1 C0.2.1 dX2_carryOut_187 rfl (lv_at hl 0 rfl) ?_
    refine lv_iconst (v := 0) C0.1 C0.2.1 dX2_carryOut_188 (by decide) ?_
    obtain ⟨h_54, hf⟩ := chk_some hf
    refine r_iald C0 C1 hI (o1 + 1) (kdlt12 (kd11_1 ho1)) (shI_12 (kd11_1 ho1)) h_54 dX2_carryOut_189 ?_
    refine lv_aload_n C0.1 C0.2.1 dX2_carryOut_190 rfl (lv_at hl 0 rfl) ?_
    refine lv_iconst (v := 1) C0.1 C0.2.1 dX2_carryOut_191 (by decide) ?_
    obtain ⟨h_55, hf⟩ := chk_some hf
    refine r_iald C0 C1 hI (o1 + 1) (kdlt12 (kd11_1 ho1)) (shI_12 (kd11_1 ho1)) h_55 dX2_carryOut_192 ?_
    refine lv_aload_n C0.1 C0.2.1 dX2_carryOut_193 rfl (lv_at hl 0 rfl) ?_
    refine lv_iconst (v := 3) C0.1 C0.2.1 dX2_carryOut_194 (by decide) ?_
    obtain ⟨h_56, hf⟩ := chk_some hf
    refine r_iald C0 C1 hI (o1 + 1) (kdlt12 (kd11_1 ho1)) (shI_12 (kd11_1 ho1)) h_56 dX2_carryOut_195 ?_
    refine lv_aload_n C0.1 C0.2.1 dX2_carryOut_196 rfl (lv_at hl 0 rfl) ?_
    refine lv_iconst (v := 2) C0.1 C0.2.1 dX2_carryOut_197 (by decide) ?_
    obtain ⟨h_57, hf⟩ := chk_some hf
    refine r_iald C0 C1 hI (o1 + 1) (kdlt12 (kd11_1 ho1)) (shI_12 (kd11_1 ho1)) h_57 dX2_carryOut_198 ?_
    refine lv_if_eq (tgt := 206) C0.1 C0.2.1 dX2_carryOut_199 (by decide) (fun c_58 => ?_) (fun c_58 => ?_)
    · have hf := (if_pos c_58).symm.trans hf
      refine lv_iconst (v := 0) C0.1 C0.2.1 dX2_carryOut_206 (by decide) ?_
      obtain ⟨r_60, M_61, h_59, hf⟩ := ob2_some hf
      refine k_i C1 hI (q_V C0 C1 hI a (c_X2_hear l g X r b H.size n M a ha (M (o1 + 1) (ix 0)) (M (o1 + 1) (ix 1)) (M (o1 + 1) (ix 3)) 0 h_59) w_1385 w_1387 w_64 w_72 w_1388 ⟨rfl, rfl⟩ hd_X2_hear ⟨Nat.le_of_ble_eq_true rfl, Nat.le_of_ble_eq_true rfl⟩ (kdlt1 ha) ((shI_1 ha) _) rfl rfl rfl hl.1 rfl (Nat.le_of_ble_eq_true rfl) dX2_carryOut_207 ⟨Nat.le_of_ble_eq_true rfl, Nat.le_of_ble_eq_true rfl⟩) (fun H locs hI => ?_)
      refine lv_pop C0.1 C0.2.1 dX2_carryOut_210 rfl ?_
      refine lv_goto (tgt := 222) C0.1 C0.2.1 dX2_carryOut_211 (by decide) ?_
      exact ee_vm C0 hI hr hlocks hf dX2_carryOut_222
    · have hf := (if_neg c_58).symm.trans hf
      refine lv_iconst (v := 1) C0.1 C0.2.1 dX2_carryOut_202 (by decide) ?_
      refine lv_goto (tgt := 207) C0.1 C0.2.1 dX2_carryOut_203 (by decide) ?_
      obtain ⟨r_63, M_64, h_62, hf⟩ := ob2_some hf
      refine k_i C1 hI (q_V C0 C1 hI a (c_X2_hear l g X r b H.size n M a ha (M (o1 + 1) (ix 0)) (M (o1 + 1) (ix 1)) (M (o1 + 1) (ix 3)) 1 h_62) w_1385 w_1387 w_64 w_72 w_1388 ⟨rfl, rfl⟩ hd_X2_hear ⟨Nat.le_of_ble_eq_true rfl, Nat.le_of_ble_eq_true rfl⟩ (kdlt1 ha) ((shI_1 ha) _) rfl rfl rfl hl.1 rfl (Nat.le_of_ble_eq_true rfl) dX2_carryOut_207 ⟨Nat.le_of_ble_eq_true rfl, Nat.le_of_ble_eq_true rfl⟩) (fun H locs hI => ?_)
      refine lv_pop C0.1 C0.2.1 dX2_carryOut_210 rfl ?_
      refine lv_goto (tgt := 222) C0.1 C0.2.1 dX2_carryOut_211 (by decide) ?_
      exact ee_vm C0 hI hr hlocks hf dX2_carryOut_222
  have hf := (if_neg c_53).symm.trans hf
  have c_3 := lv_neT c_3 (show (1 : Int32).toInt = 1 from rfl)
  have c_9 := lv_neT c_9 (show (2 : Int32).toInt = 2 from rfl)
  have c_14 := lv_neT c_14 (show (3 : Int32).toInt = 3 from rfl)
  have c_20 := lv_neT c_20 (show (4 : Int32).toInt = 4 from rfl)
  have c_25 := lv_neT c_25 (show (5 : Int32).toInt = 5 from rfl)
  have c_30 := lv_neT c_30 (show (6 : Int32).toInt = 6 from rfl)
  have c_36 := lv_neT c_36 (show (7 : Int32).toInt = 7 from rfl)
  have c_42 := lv_neT c_42 (show (8 : Int32).toInt = 8 from rfl)
  have c_47 := lv_neT c_47 (show (9 : Int32).toInt = 9 from rfl)
  have c_53 := lv_neT c_53 (show (10 : Int32).toInt = 10 from rfl)
  refine lv_tableOut (tgt := 214) C0.1 C0.2.1 dX2_carryOut_16 (by omega) (by decide) ?_
  refine lv_aload_n C0.1 C0.2.1 dX2_carryOut_214 rfl (lv_at hl 1 rfl) ?_
  refine lv_aload_n C0.1 C0.2.1 dX2_carryOut_215 rfl (lv_at hl 0 rfl) ?_
  refine lv_iconst (v := 0) C0.1 C0.2.1 dX2_carryOut_216 (by decide) ?_
  obtain ⟨h_65, hf⟩ := chk_some hf
  refine r_iald C0 C1 hI (o1 + 1) (kdlt12 (kd11_1 ho1)) (shI_12 (kd11_1 ho1)) h_65 dX2_carryOut_217 ?_
  obtain ⟨r_67, M_68, h_66, hf⟩ := ob2_some hf
  refine k_i C1 hI (q_V C0 C1 hI a (c_X2_settle l g X r b H.size n M a ha (M (o1 + 1) (ix 0)) h_66) w_1393 w_922 w_44 w_72 w_923 ⟨rfl, rfl⟩ hd_X2_settle ⟨Nat.le_of_ble_eq_true rfl, Nat.le_of_ble_eq_true rfl⟩ (kdlt1 ha) ((shI_1 ha) _) rfl rfl rfl hl.1 rfl (Nat.le_of_ble_eq_true rfl) dX2_carryOut_218 ⟨Nat.le_of_ble_eq_true rfl, Nat.le_of_ble_eq_true rfl⟩) (fun H locs hI => ?_)
  refine lv_pop C0.1 C0.2.1 dX2_carryOut_221 rfl ?_
  exact ee_vm C0 hI hr hlocks hf dX2_carryOut_222

def F_X3_addNumber (n : Nat) (a : Nat) (x1 : Int32) (M : Mem) : Option Mem :=
  (if 4 ≤ (M a 2) then some M else chk (inb (M a 2) 4) (lt' (up2 M (a + 1) (ix (M a 2)) x1) (fun M_5 => lt' (up2 M_5 a 2 ((M_5 a 2) + 1)) (fun M_7 => some M_7))))
theorem hd_X3_addNumber : yX3_addNumber.cls ≠ "java/lang/invoke/MethodHandle" ∧ yX3_addNumber.cls ≠ "java/lang/invoke/VarHandle" ∧ (parseMethodDescriptor yX3_addNumber.desc).map (fun d => d.parameters.length) = some 1 := ⟨by decide +kernel, by decide +kernel, by decide +kernel⟩
set_option maxHeartbeats 4000000 in
set_option maxRecDepth 100000 in
theorem c_X3_addNumber (l : Launch) (g : GG) (X : va_W) (r : Nat → Nat) (b : Nat → Nat) (sz n : Nat) (M : Mem) (a : Nat) (ha : kdI a = 11) (x1 : Int32)  {M' : Mem} (hf : F_X3_addNumber n a x1 M = some M') : Met l yX3_addNumber (.code yX3_addNumber cX3_addNumber 2 none :: LWg) (rmD 0 0 0) (va_Pc [.ref (b a), .int x1] (PreP g X 372 (shI g r b) b sz M)) (Qv g X 372 (shI g r b) b sz M') 0 0 (AA X b 372 sz) := by
  refine met_go (by decide +kernel) rfl (Nat.le_of_ble_eq_true rfl) ?_
  intro p e s m below meth c ls H locs C0 C1 hr hlocks hnm hsz hl hI
  subst hsz
  have hl : lv_has ls 2 [(0, .ref (b a)), (1, .int x1)] := hl
  unfold F_X3_addNumber at hf
  refine lv_aload_n C0.1 C0.2.1 dX3_addNumber_0 rfl (lv_at hl 0 rfl) ?_
  refine r_get (C := RX3) (T := TX3) (N9 := 3) (ci := 5) C0 C1 hI iX3 rfl a 2 (kdlt11 ha) (by decide) ((shI_11 ha) _) rfl rfl w_287 dX3_addNumber_1 ?_
  refine lv_iconst (v := 4) C0.1 C0.2.1 dX3_addNumber_4 (by decide) ?_
  refine lv_icmp_ge (tgt := 28) C0.1 C0.2.1 dX3_addNumber_5 (by decide) (fun c_1 => ?_) (fun c_1 => ?_)
  · have hf := (if_pos c_1).symm.trans hf
    exact ee_vm C0 hI hr hlocks hf dX3_addNumber_28
  · have hf := (if_neg c_1).symm.trans hf
    refine lv_aload_n C0.1 C0.2.1 dX3_addNumber_8 rfl (lv_at hl 0 rfl) ?_
    refine r_get (C := RX3) (T := TX3) (N9 := 3) (ci := 5) C0 C1 hI iX3 rfl a 1 (kdlt11 ha) (by decide) ((shI_11 ha) _) rfl rfl w_285 dX3_addNumber_9 ?_
    refine lv_aload_n C0.1 C0.2.1 dX3_addNumber_12 rfl (lv_at hl 0 rfl) ?_
    refine r_get (C := RX3) (T := TX3) (N9 := 3) (ci := 5) C0 C1 hI iX3 rfl a 2 (kdlt11 ha) (by decide) ((shI_11 ha) _) rfl rfl w_287 dX3_addNumber_13 ?_
    refine lv_iload_n C0.1 C0.2.1 dX3_addNumber_16 rfl (lv_at hl 1 rfl) ?_
    obtain ⟨h_2, hf⟩ := chk_some hf
    refine r_iast C0 C1 hI (a + 1) (kdlt12 (kd11_1 ha)) (shI_12 (kd11_1 ha)) h_2 dX3_addNumber_17 (fun H locs hI => ?_)
    obtain ⟨M_5, e_6⟩ : ∃ z : Mem, z = up2 M (a + 1) (ix (M a 2)) x1 := ⟨_, rfl⟩
    rw [← e_6] at hI
    have hf := lt_at e_6 hf
    refine lv_aload_n C0.1 C0.2.1 dX3_addNumber_18 rfl (lv_at hl 0 rfl) ?_
    refine lv_dup C0.1 C0.2.1 dX3_addNumber_19 rfl ?_
    refine r_get (C := RX3) (T := TX3) (N9 := 3) (ci := 5) C0 C1 hI iX3 rfl a 2 (kdlt11 ha) (by decide) ((shI_11 ha) _) rfl rfl w_287 dX3_addNumber_20 ?_
    refine lv_iconst (v := 1) C0.1 C0.2.1 dX3_addNumber_23 (by decide) ?_
    refine lv_iadd C0.1 C0.2.1 dX3_addNumber_24 ?_
    refine r_put (C := RX3) (T := TX3) (N9 := 3) (ci := 5) (fs := fC g b a) (ty := .int) C0 C1 hI iX3 tyX3 tyX3_ok nmX3 rfl a 2 (kdlt11 ha) (by decide) (shI_11 ha) rfl rfl rfl (by decide +kernel) ⟨rfl, rfl⟩ (Nat.le_of_ble_eq_true rfl) w_287 dX3_addNumber_25 (fun H locs hI => ?_)
    obtain ⟨M_7, e_8⟩ : ∃ z : Mem, z = up2 M_5 a 2 ((M_5 a 2) + 1) := ⟨_, rfl⟩
    rw [← e_8] at hI
    have hf := lt_at e_8 hf
    exact ee_vm C0 hI hr hlocks hf dX3_addNumber_28

def F_X5_push (n : Nat) (a : Nat) (o1 : Nat) (M : Mem) : Option Mem :=
  chk (inb (M a 1) 8) (ob (F_X2_copyFrom n (a + 1 + 1 + 31 * ix (M a 1)) o1 M) (fun M_3 => lt' (up2 M_3 a 1 (((M_3 a 1) + 1) - ((M_3 a 1) + 1) / 8 * 8)) (fun M_4 => (if 8 ≤ (M_4 a 2) then some M_4 else lt' (up2 M_4 a 2 ((M_4 a 2) + 1)) (fun M_7 => some M_7)))))
theorem hd_X5_push : yX5_push.cls ≠ "java/lang/invoke/MethodHandle" ∧ yX5_push.cls ≠ "java/lang/invoke/VarHandle" ∧ (parseMethodDescriptor yX5_push.desc).map (fun d => d.parameters.length) = some 1 := ⟨by decide +kernel, by decide +kernel, by decide +kernel⟩
set_option maxHeartbeats 4000000 in
set_option maxRecDepth 100000 in
theorem c_X5_push (l : Launch) (g : GG) (X : va_W) (r : Nat → Nat) (b : Nat → Nat) (sz n : Nat) (M : Mem) (a : Nat) (ha : kdI a = 6) (o1 : Nat) (ho1 : kdI o1 = 1)  {M' : Mem} (hf : F_X5_push n a o1 M = some M') : Met l yX5_push (.code yX5_push cX5_push 2 none :: LWg) (rmD 5 0 0) (va_Pc [.ref (b a), .ref (b o1)] (PreP g X 372 (shI g r b) b sz M)) (Qv g X 372 (shI g r b) b sz M') 0 0 (AA X b 372 sz) := by
  refine met_go (by decide +kernel) rfl (Nat.le_of_ble_eq_true rfl) ?_
  intro p e s m below meth c ls H locs C0 C1 hr hlocks hnm hsz hl hI
  subst hsz
  have hl : lv_has ls 2 [(0, .ref (b a)), (1, .ref (b o1))] := hl
  unfold F_X5_push at hf
  refine lv_aload_n C0.1 C0.2.1 dX5_push_0 rfl (lv_at hl 0 rfl) ?_
  refine r_get (C := RX5) (T := TX5) (N9 := 3) (ci := 7) C0 C1 hI iX5 rfl a 0 (kdlt6 ha) (by decide) ((shI_6 ha) _) rfl rfl w_243 dX5_push_1 ?_
  refine lv_aload_n C0.1 C0.2.1 dX5_push_4 rfl (lv_at hl 0 rfl) ?_
  refine r_get (C := RX5) (T := TX5) (N9 := 3) (ci := 7) C0 C1 hI iX5 rfl a 1 (kdlt6 ha) (by decide) ((shI_6 ha) _) rfl rfl w_244 dX5_push_5 ?_
  obtain ⟨h_1, hf⟩ := chk_some hf
  refine r_aald (t0 := 2) C0 C1 hI (a + 1) (kdlt7 (kd6_1 ha)) (shI_7 (kd6_1 ha)) rfl h_1 rfl dX5_push_8 ?_
  refine lv_aload_n C0.1 C0.2.1 dX5_push_9 rfl (lv_at hl 1 rfl) ?_
  obtain ⟨M_3, h_2, hf⟩ := ob_some hf
  refine k_v C1 hI (q_VN C0 C1 hI (a + 1 + 1 + 31 * ix (M a 1)) (c_X2_copyFrom l g X r b H.size n M (a + 1 + 1 + 31 * ix (M a 1)) (kd7_i (kd6_1 ha) h_1) o1 ho1 h_2) 19 rfl w_727 w_18 w_72 w_728 ⟨rfl, rfl⟩ hd_X2_copyFrom ⟨Nat.le_of_ble_eq_true rfl, Nat.le_of_ble_eq_true rfl⟩ (kdlt1 (kd7_i (kd6_1 ha) h_1)) ((shI_1 (kd7_i (kd6_1 ha) h_1)) _) rfl rfl rfl hl.1 rfl (Nat.le_of_ble_eq_true rfl) dX5_push_10 ⟨Nat.le_of_ble_eq_true rfl, Nat.le_of_ble_eq_true rfl⟩) (fun H locs hI => ?_)
  refine lv_aload_n C0.1 C0.2.1 dX5_push_13 rfl (lv_at hl 0 rfl) ?_
  refine lv_aload_n C0.1 C0.2.1 dX5_push_14 rfl (lv_at hl 0 rfl) ?_
  refine r_get (C := RX5) (T := TX5) (N9 := 3) (ci := 7) C0 C1 hI iX5 rfl a 1 (kdlt6 ha) (by decide) ((shI_6 ha) _) rfl rfl w_244 dX5_push_15 ?_
  refine lv_iconst (v := 1) C0.1 C0.2.1 dX5_push_18 (by decide) ?_
  refine lv_iadd C0.1 C0.2.1 dX5_push_19 ?_
  refine lv_bipush (v := 8) C0.1 C0.2.1 dX5_push_20 (by decide) ?_
  refine lv_irem C0.1 C0.2.1 dX5_push_22 (by decide) ?_
  refine r_put (C := RX5) (T := TX5) (N9 := 3) (ci := 7) (fs := fH b a) (ty := .int) C0 C1 hI iX5 tyX5 tyX5_ok nmX5 rfl a 1 (kdlt6 ha) (by decide) (shI_6 ha) rfl rfl rfl (by decide +kernel) ⟨rfl, rfl⟩ (Nat.le_of_ble_eq_true rfl) w_244 dX5_push_23 (fun H locs hI => ?_)
  obtain ⟨M_4, e_5⟩ : ∃ z : Mem, z = up2 M_3 a 1 (((M_3 a 1) + 1) - ((M_3 a 1) + 1) / 8 * 8) := ⟨_, rfl⟩
  rw [← e_5] at hI
  have hf := lt_at e_5 hf
  refine lv_aload_n C0.1 C0.2.1 dX5_push_26 rfl (lv_at hl 0 rfl) ?_
  refine r_get (C := RX5) (T := TX5) (N9 := 3) (ci := 7) C0 C1 hI iX5 rfl a 2 (kdlt6 ha) (by decide) ((shI_6 ha) _) rfl rfl w_245 dX5_push_27 ?_
  refine lv_bipush (v := 8) C0.1 C0.2.1 dX5_push_30 (by decide) ?_
  refine lv_icmp_ge (tgt := 45) C0.1 C0.2.1 dX5_push_32 (by decide) (fun c_6 => ?_) (fun c_6 => ?_)
  · have hf := (if_pos c_6).symm.trans hf
    exact ee_vm C0 hI hr hlocks hf dX5_push_45
  · have hf := (if_neg c_6).symm.trans hf
    refine lv_aload_n C0.1 C0.2.1 dX5_push_35 rfl (lv_at hl 0 rfl) ?_
    refine lv_dup C0.1 C0.2.1 dX5_push_36 rfl ?_
    refine r_get (C := RX5) (T := TX5) (N9 := 3) (ci := 7) C0 C1 hI iX5 rfl a 2 (kdlt6 ha) (by decide) ((shI_6 ha) _) rfl rfl w_245 dX5_push_37 ?_
    refine lv_iconst (v := 1) C0.1 C0.2.1 dX5_push_40 (by decide) ?_
    refine lv_iadd C0.1 C0.2.1 dX5_push_41 ?_
    refine r_put (C := RX5) (T := TX5) (N9 := 3) (ci := 7) (fs := fH b a) (ty := .int) C0 C1 hI iX5 tyX5 tyX5_ok nmX5 rfl a 2 (kdlt6 ha) (by decide) (shI_6 ha) rfl rfl rfl (by decide +kernel) ⟨rfl, rfl⟩ (Nat.le_of_ble_eq_true rfl) w_245 dX5_push_42 (fun H locs hI => ?_)
    obtain ⟨M_7, e_8⟩ : ∃ z : Mem, z = up2 M_4 a 2 ((M_4 a 2) + 1) := ⟨_, rfl⟩
    rw [← e_8] at hI
    have hf := lt_at e_8 hf
    exact ee_vm C0 hI hr hlocks hf dX5_push_45

def F_X5_pop (n : Nat) (a : Nat) (o1 : Nat) (M : Mem) : Option Mem :=
  lt' (up2 M a 1 ((((M a 1) + 8) - 1) - (((M a 1) + 8) - 1) / 8 * 8)) (fun M_1 => lt' (up2 M_1 a 2 ((M_1 a 2) - 1)) (fun M_3 => chk (inb (M_3 a 1) 8) (ob (F_X2_copyFrom n o1 (a + 1 + 1 + 31 * ix (M_3 a 1)) M_3) (fun M_7 => some M_7))))
theorem hd_X5_pop : yX5_pop.cls ≠ "java/lang/invoke/MethodHandle" ∧ yX5_pop.cls ≠ "java/lang/invoke/VarHandle" ∧ (parseMethodDescriptor yX5_pop.desc).map (fun d => d.parameters.length) = some 1 := ⟨by decide +kernel, by decide +kernel, by decide +kernel⟩
set_option maxHeartbeats 4000000 in
set_option maxRecDepth 100000 in
theorem c_X5_pop (l : Launch) (g : GG) (X : va_W) (r : Nat → Nat) (b : Nat → Nat) (sz n : Nat) (M : Mem) (a : Nat) (ha : kdI a = 6) (o1 : Nat) (ho1 : kdI o1 = 1)  {M' : Mem} (hf : F_X5_pop n a o1 M = some M') : Met l yX5_pop (.code yX5_pop cX5_pop 2 none :: LWg) (rmD 5 0 0) (va_Pc [.ref (b a), .ref (b o1)] (PreP g X 372 (shI g r b) b sz M)) (Qv g X 372 (shI g r b) b sz M') 0 0 (AA X b 372 sz) := by
  refine met_go (by decide +kernel) rfl (Nat.le_of_ble_eq_true rfl) ?_
  intro p e s m below meth c ls H locs C0 C1 hr hlocks hnm hsz hl hI
  subst hsz
  have hl : lv_has ls 2 [(0, .ref (b a)), (1, .ref (b o1))] := hl
  unfold F_X5_pop at hf
  refine lv_aload_n C0.1 C0.2.1 dX5_pop_0 rfl (lv_at hl 0 rfl) ?_
  refine lv_aload_n C0.1 C0.2.1 dX5_pop_1 rfl (lv_at hl 0 rfl) ?_
  refine r_get (C := RX5) (T := TX5) (N9 := 3) (ci := 7) C0 C1 hI iX5 rfl a 1 (kdlt6 ha) (by decide) ((shI_6 ha) _) rfl rfl w_244 dX5_pop_2 ?_
  refine lv_bipush (v := 8) C0.1 C0.2.1 dX5_pop_5 (by decide) ?_
  refine lv_iadd C0.1 C0.2.1 dX5_pop_7 ?_
  refine lv_iconst (v := 1) C0.1 C0.2.1 dX5_pop_8 (by decide) ?_
  refine lv_isub C0.1 C0.2.1 dX5_pop_9 ?_
  refine lv_bipush (v := 8) C0.1 C0.2.1 dX5_pop_10 (by decide) ?_
  refine lv_irem C0.1 C0.2.1 dX5_pop_12 (by decide) ?_
  refine r_put (C := RX5) (T := TX5) (N9 := 3) (ci := 7) (fs := fH b a) (ty := .int) C0 C1 hI iX5 tyX5 tyX5_ok nmX5 rfl a 1 (kdlt6 ha) (by decide) (shI_6 ha) rfl rfl rfl (by decide +kernel) ⟨rfl, rfl⟩ (Nat.le_of_ble_eq_true rfl) w_244 dX5_pop_13 (fun H locs hI => ?_)
  obtain ⟨M_1, e_2⟩ : ∃ z : Mem, z = up2 M a 1 ((((M a 1) + 8) - 1) - (((M a 1) + 8) - 1) / 8 * 8) := ⟨_, rfl⟩
  rw [← e_2] at hI
  have hf := lt_at e_2 hf
  refine lv_aload_n C0.1 C0.2.1 dX5_pop_16 rfl (lv_at hl 0 rfl) ?_
  refine lv_dup C0.1 C0.2.1 dX5_pop_17 rfl ?_
  refine r_get (C := RX5) (T := TX5) (N9 := 3) (ci := 7) C0 C1 hI iX5 rfl a 2 (kdlt6 ha) (by decide) ((shI_6 ha) _) rfl rfl w_245 dX5_pop_18 ?_
  refine lv_iconst (v := 1) C0.1 C0.2.1 dX5_pop_21 (by decide) ?_
  refine lv_isub C0.1 C0.2.1 dX5_pop_22 ?_
  refine r_put (C := RX5) (T := TX5) (N9 := 3) (ci := 7) (fs := fH b a) (ty := .int) C0 C1 hI iX5 tyX5 tyX5_ok nmX5 rfl a 2 (kdlt6 ha) (by decide) (shI_6 ha) rfl rfl rfl (by decide +kernel) ⟨rfl, rfl⟩ (Nat.le_of_ble_eq_true rfl) w_245 dX5_pop_23 (fun H locs hI => ?_)
  obtain ⟨M_3, e_4⟩ : ∃ z : Mem, z = up2 M_1 a 2 ((M_1 a 2) - 1) := ⟨_, rfl⟩
  rw [← e_4] at hI
  have hf := lt_at e_4 hf
  refine lv_aload_n C0.1 C0.2.1 dX5_pop_26 rfl (lv_at hl 1 rfl) ?_
  refine lv_aload_n C0.1 C0.2.1 dX5_pop_27 rfl (lv_at hl 0 rfl) ?_
  refine r_get (C := RX5) (T := TX5) (N9 := 3) (ci := 7) C0 C1 hI iX5 rfl a 0 (kdlt6 ha) (by decide) ((shI_6 ha) _) rfl rfl w_243 dX5_pop_28 ?_
  refine lv_aload_n C0.1 C0.2.1 dX5_pop_31 rfl (lv_at hl 0 rfl) ?_
  refine r_get (C := RX5) (T := TX5) (N9 := 3) (ci := 7) C0 C1 hI iX5 rfl a 1 (kdlt6 ha) (by decide) ((shI_6 ha) _) rfl rfl w_244 dX5_pop_32 ?_
  obtain ⟨h_5, hf⟩ := chk_some hf
  refine r_aald (t0 := 2) C0 C1 hI (a + 1) (kdlt7 (kd6_1 ha)) (shI_7 (kd6_1 ha)) rfl h_5 rfl dX5_pop_35 ?_
  obtain ⟨M_7, h_6, hf⟩ := ob_some hf
  refine k_v C1 hI (q_VN C0 C1 hI o1 (c_X2_copyFrom l g X r b H.size n M_3 o1 ho1 (a + 1 + 1 + 31 * ix (M_3 a 1)) (kd7_i (kd6_1 ha) h_5) h_6) 19 rfl w_727 w_18 w_72 w_728 ⟨rfl, rfl⟩ hd_X2_copyFrom ⟨Nat.le_of_ble_eq_true rfl, Nat.le_of_ble_eq_true rfl⟩ (kdlt1 ho1) ((shI_1 ho1) _) rfl rfl rfl hl.1 rfl (Nat.le_of_ble_eq_true rfl) dX5_pop_36 ⟨Nat.le_of_ble_eq_true rfl, Nat.le_of_ble_eq_true rfl⟩) (fun H locs hI => ?_)
  exact ee_vm C0 hI hr hlocks hf dX5_pop_39

def F_X5_forget (n : Nat) (a : Nat) (M : Mem) : Option Mem :=
  lt' (up2 M a 2 0) (fun M_1 => some M_1)
theorem hd_X5_forget : yX5_forget.cls ≠ "java/lang/invoke/MethodHandle" ∧ yX5_forget.cls ≠ "java/lang/invoke/VarHandle" ∧ (parseMethodDescriptor yX5_forget.desc).map (fun d => d.parameters.length) = some 0 := ⟨by decide +kernel, by decide +kernel, by decide +kernel⟩
set_option maxHeartbeats 4000000 in
set_option maxRecDepth 100000 in
theorem c_X5_forget (l : Launch) (g : GG) (X : va_W) (r : Nat → Nat) (b : Nat → Nat) (sz n : Nat) (M : Mem) (a : Nat) (ha : kdI a = 6)  {M' : Mem} (hf : F_X5_forget n a M = some M') : Met l yX5_forget (.code yX5_forget cX5_forget 1 none :: LWg) (rmD 0 0 0) (va_Pc [.ref (b a)] (PreP g X 372 (shI g r b) b sz M)) (Qv g X 372 (shI g r b) b sz M') 0 0 (AA X b 372 sz) := by
  refine met_go (by decide +kernel) rfl (Nat.le_of_ble_eq_true rfl) ?_
  intro p e s m below meth c ls H locs C0 C1 hr hlocks hnm hsz hl hI
  subst hsz
  have hl : lv_has ls 1 [(0, .ref (b a))] := hl
  unfold F_X5_forget at hf
  refine lv_aload_n C0.1 C0.2.1 dX5_forget_0 rfl (lv_at hl 0 rfl) ?_
  refine lv_iconst (v := 0) C0.1 C0.2.1 dX5_forget_1 (by decide) ?_
  refine r_put (C := RX5) (T := TX5) (N9 := 3) (ci := 7) (fs := fH b a) (ty := .int) C0 C1 hI iX5 tyX5 tyX5_ok nmX5 rfl a 2 (kdlt6 ha) (by decide) (shI_6 ha) rfl rfl rfl (by decide +kernel) ⟨rfl, rfl⟩ (Nat.le_of_ble_eq_true rfl) w_245 dX5_forget_2 (fun H locs hI => ?_)
  obtain ⟨M_1, e_2⟩ : ∃ z : Mem, z = up2 M a 2 0 := ⟨_, rfl⟩
  rw [← e_2] at hI
  have hf := lt_at e_2 hf
  exact ee_vm C0 hI hr hlocks hf dX5_forget_5

def F_X8_clear (n : Nat) (a : Nat) (M : Mem) : Option Mem :=
  lt' (up2 M a 1 0) (fun M_1 => some M_1)
theorem hd_X8_clear : yX8_clear.cls ≠ "java/lang/invoke/MethodHandle" ∧ yX8_clear.cls ≠ "java/lang/invoke/VarHandle" ∧ (parseMethodDescriptor yX8_clear.desc).map (fun d => d.parameters.length) = some 0 := ⟨by decide +kernel, by decide +kernel, by decide +kernel⟩
set_option maxHeartbeats 4000000 in
set_option maxRecDepth 100000 in
theorem c_X8_clear (l : Launch) (g : GG) (X : va_W) (r : Nat → Nat) (b : Nat → Nat) (sz n : Nat) (M : Mem) (a : Nat) (ha : kdI a = 8)  {M' : Mem} (hf : F_X8_clear n a M = some M') : Met l yX8_clear (.code yX8_clear cX8_clear 1 none :: LWg) (rmD 0 0 0) (va_Pc [.ref (b a)] (PreP g X 372 (shI g r b) b sz M)) (Qv g X 372 (shI g r b) b sz M') 0 0 (AA X b 372 sz) := by
  refine met_go (by decide +kernel) rfl (Nat.le_of_ble_eq_true rfl) ?_
  intro p e s m below meth c ls H locs C0 C1 hr hlocks hnm hsz hl hI
  subst hsz
  have hl : lv_has ls 1 [(0, .ref (b a))] := hl
  unfold F_X8_clear at hf
  refine lv_aload_n C0.1 C0.2.1 dX8_clear_0 rfl (lv_at hl 0 rfl) ?_
  refine lv_iconst (v := 0) C0.1 C0.2.1 dX8_clear_1 (by decide) ?_
  refine r_put (C := RX8) (T := TX8) (N9 := 2) (ci := 9) (fs := fQ b a) (ty := .int) C0 C1 hI iX8 tyX8 tyX8_ok nmX8 rfl a 1 (kdlt8 ha) (by decide) (shI_8 ha) rfl rfl rfl (by decide +kernel) ⟨rfl, rfl⟩ (Nat.le_of_ble_eq_true rfl) w_261 dX8_clear_2 (fun H locs hI => ?_)
  obtain ⟨M_1, e_2⟩ : ∃ z : Mem, z = up2 M a 1 0 := ⟨_, rfl⟩
  rw [← e_2] at hI
  have hf := lt_at e_2 hf
  exact ee_vm C0 hI hr hlocks hf dX8_clear_5

def F_X8_put_L37 (n : Nat) (a : Nat) : Nat → Int32 → Int32 → Mem → Option Mem
  | 0, _, _, _ => none
  | k37 + 1, x4_37, x5_37, M =>
    (if x5_37 ≤ 0 then chk (inb x5_37 12) (lt' (up2 M (a + 1) (ix x5_37) x4_37) (fun M_37_5 => some M_37_5)) else chk (inb ((x5_37 - 1) / 2) 12) ((if (M (a + 1) (ix ((x5_37 - 1) / 2))) ≤ x4_37 then chk (inb x5_37 12) (lt' (up2 M (a + 1) (ix x5_37) x4_37) (fun M_37_12 => some M_37_12)) else chk (inb ((x5_37 - 1) / 2) 12) (chk (inb x5_37 12) (lt' (up2 M (a + 1) (ix x5_37) (M (a + 1) (ix ((x5_37 - 1) / 2)))) (fun M_37_18 => lt' ((x5_37 - 1) / 2) (fun x5_37_20 => F_X8_put_L37 n a k37 x4_37 x5_37_20 M_37_18)))))))
def F_X8_put (n : Nat) (a : Nat) (x1 : Int32) (x2 : Int32) (x3 : Int32) (M : Mem) : Option Mem :=
  (if (M a 1) < 12 then lt' ((((x1 <<< (4 &&& 31)) ||| x2) <<< (4 &&& 31)) ||| x3) (fun x4_2 => lt' (M a 1) (fun x5_4 => lt' (up2 M a 1 ((M a 1) + 1)) (fun M_6 => F_X8_put_L37 n a n x4_2 x5_4 M_6))) else some M)
theorem hd_X8_put : yX8_put.cls ≠ "java/lang/invoke/MethodHandle" ∧ yX8_put.cls ≠ "java/lang/invoke/VarHandle" ∧ (parseMethodDescriptor yX8_put.desc).map (fun d => d.parameters.length) = some 3 := ⟨by decide +kernel, by decide +kernel, by decide +kernel⟩
set_option maxHeartbeats 4000000 in
set_option maxRecDepth 100000 in
theorem c_X8_put (l : Launch) (g : GG) (X : va_W) (r : Nat → Nat) (b : Nat → Nat) (sz n : Nat) (M : Mem) (a : Nat) (ha : kdI a = 8) (x1 : Int32) (x2 : Int32) (x3 : Int32)  {M' : Mem} (hf : F_X8_put n a x1 x2 x3 M = some M') : Met l yX8_put (.code yX8_put cX8_put 6 none :: LWg) (rmD 0 0 0) (va_Pc [.ref (b a), .int x1, .int x2, .int x3] (PreP g X 372 (shI g r b) b sz M)) (Qv g X 372 (shI g r b) b sz M') 0 0 (AA X b 372 sz) := by
  refine met_go (by decide +kernel) rfl (Nat.le_of_ble_eq_true rfl) ?_
  intro p e s m below meth c ls H locs C0 C1 hr hlocks hnm hsz hl hI
  subst hsz
  have hl : lv_has ls 6 [(0, .ref (b a)), (1, .int x1), (2, .int x2), (3, .int x3)] := hl
  unfold F_X8_put at hf
  refine lv_aload_n C0.1 C0.2.1 dX8_put_0 rfl (lv_at hl 0 rfl) ?_
  refine r_get (C := RX8) (T := TX8) (N9 := 2) (ci := 9) C0 C1 hI iX8 rfl a 1 (kdlt8 ha) (by decide) ((shI_8 ha) _) rfl rfl w_261 dX8_put_1 ?_
  refine lv_bipush (v := 12) C0.1 C0.2.1 dX8_put_4 (by decide) ?_
  refine lv_icmp_lt (tgt := 10) C0.1 C0.2.1 dX8_put_6 (by decide) (fun c_1 => ?_) (fun c_1 => ?_)
  · have hf := (if_pos c_1).symm.trans hf
    refine lv_iload_n C0.1 C0.2.1 dX8_put_10 rfl (lv_at hl 1 rfl) ?_
    refine lv_iconst (v := 4) C0.1 C0.2.1 dX8_put_11 (by decide) ?_
    refine lv_ishl C0.1 C0.2.1 dX8_put_12 ?_
    refine lv_iload_n C0.1 C0.2.1 dX8_put_13 rfl (lv_at hl 2 rfl) ?_
    refine lv_ior C0.1 C0.2.1 dX8_put_14 ?_
    refine lv_iconst (v := 4) C0.1 C0.2.1 dX8_put_15 (by decide) ?_
    refine lv_ishl C0.1 C0.2.1 dX8_put_16 ?_
    refine lv_iload_n C0.1 C0.2.1 dX8_put_17 rfl (lv_at hl 3 rfl) ?_
    refine lv_ior C0.1 C0.2.1 dX8_put_18 ?_
    refine lv_topi (fun x4_2 e_3 => ?_)
    have hf := lt_at e_3 hf
    refine lv_istore (lv' := [(4, .int x4_2), (0, .ref (b a)), (1, .int x1), (2, .int x2), (3, .int x3)]) C0.1 C0.2.1 dX8_put_19 hl (by decide) rfl (fun ls hl => ?_)
    refine lv_aload_n C0.1 C0.2.1 dX8_put_21 rfl (lv_at hl 1 rfl) ?_
    refine r_get (C := RX8) (T := TX8) (N9 := 2) (ci := 9) C0 C1 hI iX8 rfl a 1 (kdlt8 ha) (by decide) ((shI_8 ha) _) rfl rfl w_261 dX8_put_22 ?_
    refine lv_topi (fun x5_4 e_5 => ?_)
    have hf := lt_at e_5 hf
    refine lv_istore (lv' := [(5, .int x5_4), (4, .int x4_2), (0, .ref (b a)), (1, .int x1), (2, .int x2), (3, .int x3)]) C0.1 C0.2.1 dX8_put_25 hl (by decide) rfl (fun ls hl => ?_)
    refine lv_aload_n C0.1 C0.2.1 dX8_put_27 rfl (lv_at hl 2 rfl) ?_
    refine lv_dup C0.1 C0.2.1 dX8_put_28 rfl ?_
    refine r_get (C := RX8) (T := TX8) (N9 := 2) (ci := 9) C0 C1 hI iX8 rfl a 1 (kdlt8 ha) (by decide) ((shI_8 ha) _) rfl rfl w_261 dX8_put_29 ?_
    refine lv_iconst (v := 1) C0.1 C0.2.1 dX8_put_32 (by decide) ?_
    refine lv_iadd C0.1 C0.2.1 dX8_put_33 ?_
    refine r_put (C := RX8) (T := TX8) (N9 := 2) (ci := 9) (fs := fQ b a) (ty := .int) C0 C1 hI iX8 tyX8 tyX8_ok nmX8 rfl a 1 (kdlt8 ha) (by decide) (shI_8 ha) rfl rfl rfl (by decide +kernel) ⟨rfl, rfl⟩ (Nat.le_of_ble_eq_true rfl) w_261 dX8_put_34 (fun H locs hI => ?_)
    obtain ⟨M_6, e_7⟩ : ∃ z : Mem, z = up2 M a 1 ((M a 1) + 1) := ⟨_, rfl⟩
    rw [← e_7] at hI
    have hf := lt_at e_7 hf
    have L37 : ∀ (k37 : Nat) (x4_37 : Int32) (x5_37 : Int32) (M : Mem), F_X8_put_L37 n a k37 x4_37 x5_37 M = some M' → ∀ (H : Heap) (locs : List Loc) (ls : Array Slot), PI g X 372 (shI g r b) b s M H locs → lv_has ls 6 [(0, .ref (b a)), (4, .int x4_37), (5, .int x5_37)] → W p l e (rmD 0 0 0) s m ([.ref (b a), .int x1, .int x2, .int x3] : List Value).toArray below meth c H locs 0 0 (MQ below (Qv g X 372 (shI g r b) b s.heap.size M') ([.ref (b a), .int x1, .int x2, .int x3] : List Value).toArray s 0 0 (AA X b 372 s.heap.size)) (F0 m 37 ls []) := by
      intro k37
      induction k37 with
      | zero => intro x4_37 x5_37 M hf; exact absurd (show (none : Option Mem) = some M' from hf) (fun h => by cases h)
      | succ k37 ih37 =>
        intro x4_37 x5_37 M hf H locs ls hI hl
        unfold F_X8_put_L37 at hf
        refine lv_iload C0.1 C0.2.1 dX8_put_37 (lv_at hl 2 rfl) ?_
        refine lv_if_le (tgt := 87) C0.1 C0.2.1 dX8_put_39 (by decide) (fun c_37_1 => ?_) (fun c_37_1 => ?_)
        · have hf := (if_pos c_37_1).symm.trans hf
          refine lv_aload_n C0.1 C0.2.1 dX8_put_87 rfl (lv_at hl 0 rfl) ?_
          refine r_get (C := RX8) (T := TX8) (N9 := 2) (ci := 9) C0 C1 hI iX8 rfl a 0 (kdlt8 ha) (by decide) ((shI_8 ha) _) rfl rfl w_260 dX8_put_88 ?_
          refine lv_iload C0.1 C0.2.1 dX8_put_91 (lv_at hl 2 rfl) ?_
          refine lv_iload C0.1 C0.2.1 dX8_put_93 (lv_at hl 1 rfl) ?_
          obtain ⟨h_37_2, hf⟩ := chk_some hf
          refine r_iast C0 C1 hI (a + 1) (kdlt2 (kd8_1 ha)) (shI_2 (kd8_1 ha)) h_37_2 dX8_put_95 (fun H locs hI => ?_)
          obtain ⟨M_37_5, e_37_6⟩ : ∃ z : Mem, z = up2 M (a + 1) (ix x5_37) x4_37 := ⟨_, rfl⟩
          rw [← e_37_6] at hI
          have hf := lt_at e_37_6 hf
          exact ee_vm C0 hI hr hlocks hf dX8_put_96
        · have hf := (if_neg c_37_1).symm.trans hf
          refine lv_aload_n C0.1 C0.2.1 dX8_put_42 rfl (lv_at hl 0 rfl) ?_
          refine r_get (C := RX8) (T := TX8) (N9 := 2) (ci := 9) C0 C1 hI iX8 rfl a 0 (kdlt8 ha) (by decide) ((shI_8 ha) _) rfl rfl w_260 dX8_put_43 ?_
          refine lv_iload C0.1 C0.2.1 dX8_put_46 (lv_at hl 2 rfl) ?_
          refine lv_iconst (v := 1) C0.1 C0.2.1 dX8_put_48 (by decide) ?_
          refine lv_isub C0.1 C0.2.1 dX8_put_49 ?_
          refine lv_iconst (v := 2) C0.1 C0.2.1 dX8_put_50 (by decide) ?_
          refine lv_idiv C0.1 C0.2.1 dX8_put_51 (by decide) ?_
          obtain ⟨h_37_7, hf⟩ := chk_some hf
          refine r_iald C0 C1 hI (a + 1) (kdlt2 (kd8_1 ha)) (shI_2 (kd8_1 ha)) h_37_7 dX8_put_52 ?_
          refine lv_iload C0.1 C0.2.1 dX8_put_53 (lv_at hl 1 rfl) ?_
          refine lv_icmp_le (tgt := 87) C0.1 C0.2.1 dX8_put_55 (by decide) (fun c_37_8 => ?_) (fun c_37_8 => ?_)
          · have hf := (if_pos c_37_8).symm.trans hf
            refine lv_aload_n C0.1 C0.2.1 dX8_put_87 rfl (lv_at hl 0 rfl) ?_
            refine r_get (C := RX8) (T := TX8) (N9 := 2) (ci := 9) C0 C1 hI iX8 rfl a 0 (kdlt8 ha) (by decide) ((shI_8 ha) _) rfl rfl w_260 dX8_put_88 ?_
            refine lv_iload C0.1 C0.2.1 dX8_put_91 (lv_at hl 2 rfl) ?_
            refine lv_iload C0.1 C0.2.1 dX8_put_93 (lv_at hl 1 rfl) ?_
            obtain ⟨h_37_9, hf⟩ := chk_some hf
            refine r_iast C0 C1 hI (a + 1) (kdlt2 (kd8_1 ha)) (shI_2 (kd8_1 ha)) h_37_9 dX8_put_95 (fun H locs hI => ?_)
            obtain ⟨M_37_12, e_37_13⟩ : ∃ z : Mem, z = up2 M (a + 1) (ix x5_37) x4_37 := ⟨_, rfl⟩
            rw [← e_37_13] at hI
            have hf := lt_at e_37_13 hf
            exact ee_vm C0 hI hr hlocks hf dX8_put_96
          · have hf := (if_neg c_37_8).symm.trans hf
            refine lv_aload_n C0.1 C0.2.1 dX8_put_58 rfl (lv_at hl 0 rfl) ?_
            refine r_get (C := RX8) (T := TX8) (N9 := 2) (ci := 9) C0 C1 hI iX8 rfl a 0 (kdlt8 ha) (by decide) ((shI_8 ha) _) rfl rfl w_260 dX8_put_59 ?_
            refine lv_iload C0.1 C0.2.1 dX8_put_62 (lv_at hl 2 rfl) ?_
            refine lv_aload_n C0.1 C0.2.1 dX8_put_64 rfl (lv_at hl 0 rfl) ?_
            refine r_get (C := RX8) (T := TX8) (N9 := 2) (ci := 9) C0 C1 hI iX8 rfl a 0 (kdlt8 ha) (by decide) ((shI_8 ha) _) rfl rfl w_260 dX8_put_65 ?_
            refine lv_iload C0.1 C0.2.1 dX8_put_68 (lv_at hl 2 rfl) ?_
            refine lv_iconst (v := 1) C0.1 C0.2.1 dX8_put_70 (by decide) ?_
            refine lv_isub C0.1 C0.2.1 dX8_put_71 ?_
            refine lv_iconst (v := 2) C0.1 C0.2.1 dX8_put_72 (by decide) ?_
            refine lv_idiv C0.1 C0.2.1 dX8_put_73 (by decide) ?_
            obtain ⟨h_37_14, hf⟩ := chk_some hf
            refine r_iald C0 C1 hI (a + 1) (kdlt2 (kd8_1 ha)) (shI_2 (kd8_1 ha)) h_37_14 dX8_put_74 ?_
            obtain ⟨h_37_15, hf⟩ := chk_some hf
            refine r_iast C0 C1 hI (a + 1) (kdlt2 (kd8_1 ha)) (shI_2 (kd8_1 ha)) h_37_15 dX8_put_75 (fun H locs hI => ?_)
            obtain ⟨M_37_18, e_37_19⟩ : ∃ z : Mem, z = up2 M (a + 1) (ix x5_37) (M (a + 1) (ix ((x5_37 - 1) / 2))) := ⟨_, rfl⟩
            rw [← e_37_19] at hI
            have hf := lt_at e_37_19 hf
            refine lv_iload C0.1 C0.2.1 dX8_put_76 (lv_at hl 2 rfl) ?_
            refine lv_iconst (v := 1) C0.1 C0.2.1 dX8_put_78 (by decide) ?_
            refine lv_isub C0.1 C0.2.1 dX8_put_79 ?_
            refine lv_iconst (v := 2) C0.1 C0.2.1 dX8_put_80 (by decide) ?_
            refine lv_idiv C0.1 C0.2.1 dX8_put_81 (by decide) ?_
            refine lv_topi (fun x5_37_20 e_37_21 => ?_)
            have hf := lt_at e_37_21 hf
            refine lv_istore (lv' := [(5, .int x5_37_20), (0, .ref (b a)), (4, .int x4_37)]) C0.1 C0.2.1 dX8_put_82 hl (by decide) rfl (fun ls hl => ?_)
            refine lv_goto (tgt := 37) C0.1 C0.2.1 dX8_put_84 (by decide) ?_
            exact ih37 x4_37 x5_37_20 M_37_18 hf H locs ls hI (lv_sub hl [1, 2, 0] rfl)
    exact L37 n x4_2 x5_4 M_6 hf H locs ls hI (lv_sub hl [2, 1, 0] rfl)
  · have hf := (if_neg c_1).symm.trans hf
    exact ee_vm C0 hI hr hlocks hf dX8_put_9

def F_X8_lesserChild (n : Nat) (a : Nat) (x1 : Int32) (M : Mem) : Option Int32 :=
  lt' ((2 * x1) + 1) (fun x2_1 => lt' (x2_1 + 1) (fun x3_3 => (if (M a 1) ≤ x3_3 then some x2_1 else chk (inb x3_3 12) (chk (inb x2_1 12) ((if (M (a + 1) (ix x2_1)) ≤ (M (a + 1) (ix x3_3)) then some x2_1 else some x3_3))))))
theorem hd_X8_lesserChild : yX8_lesserChild.cls ≠ "java/lang/invoke/MethodHandle" ∧ yX8_lesserChild.cls ≠ "java/lang/invoke/VarHandle" ∧ (parseMethodDescriptor yX8_lesserChild.desc).map (fun d => d.parameters.length) = some 1 := ⟨by decide +kernel, by decide +kernel, by decide +kernel⟩
set_option maxHeartbeats 4000000 in
set_option maxRecDepth 100000 in
theorem c_X8_lesserChild (l : Launch) (g : GG) (X : va_W) (r : Nat → Nat) (b : Nat → Nat) (sz n : Nat) (M : Mem) (a : Nat) (ha : kdI a = 8) (x1 : Int32) {r0 : Int32} (hf : F_X8_lesserChild n a x1 M = some r0) : Met l yX8_lesserChild (.code yX8_lesserChild cX8_lesserChild 4 (some .int) :: LWg) (rmD 0 0 0) (va_Pc [.ref (b a), .int x1] (PreP g X 372 (shI g r b) b sz M)) (Qi g X 372 (shI g r b) b sz r0 M) 0 0 (AA X b 372 sz) := by
  refine met_go (by decide +kernel) rfl (Nat.le_of_ble_eq_true rfl) ?_
  intro p e s m below meth c ls H locs C0 C1 hr hlocks hnm hsz hl hI
  subst hsz
  have hl : lv_has ls 4 [(0, .ref (b a)), (1, .int x1)] := hl
  unfold F_X8_lesserChild at hf
  refine lv_iconst (v := 2) C0.1 C0.2.1 dX8_lesserChild_0 (by decide) ?_
  refine lv_iload_n C0.1 C0.2.1 dX8_lesserChild_1 rfl (lv_at hl 1 rfl) ?_
  refine lv_imul C0.1 C0.2.1 dX8_lesserChild_2 ?_
  refine lv_iconst (v := 1) C0.1 C0.2.1 dX8_lesserChild_3 (by decide) ?_
  refine lv_iadd C0.1 C0.2.1 dX8_lesserChild_4 ?_
  refine lv_topi (fun x2_1 e_2 => ?_)
  have hf := lt_at e_2 hf
  refine lv_istore_n (lv' := [(2, .int x2_1), (0, .ref (b a)), (1, .int x1)]) C0.1 C0.2.1 dX8_lesserChild_5 rfl hl (by decide) rfl (fun ls hl => ?_)
  refine lv_iload_n C0.1 C0.2.1 dX8_lesserChild_6 rfl (lv_at hl 0 rfl) ?_
  refine lv_iconst (v := 1) C0.1 C0.2.1 dX8_lesserChild_7 (by decide) ?_
  refine lv_iadd C0.1 C0.2.1 dX8_lesserChild_8 ?_
  refine lv_topi (fun x3_3 e_4 => ?_)
  have hf := lt_at e_4 hf
  refine lv_istore_n (lv' := [(3, .int x3_3), (2, .int x2_1), (0, .ref (b a)), (1, .int x1)]) C0.1 C0.2.1 dX8_lesserChild_9 rfl hl (by decide) rfl (fun ls hl => ?_)
  refine lv_iload_n C0.1 C0.2.1 dX8_lesserChild_10 rfl (lv_at hl 0 rfl) ?_
  refine lv_aload_n C0.1 C0.2.1 dX8_lesserChild_11 rfl (lv_at hl 2 rfl) ?_
  refine r_get (C := RX8) (T := TX8) (N9 := 2) (ci := 9) C0 C1 hI iX8 rfl a 1 (kdlt8 ha) (by decide) ((shI_8 ha) _) rfl rfl w_261 dX8_lesserChild_12 ?_
  refine lv_icmp_ge (tgt := 37) C0.1 C0.2.1 dX8_lesserChild_15 (by decide) (fun c_5 => ?_) (fun c_5 => ?_)
  · have hf := (if_pos c_5).symm.trans hf
    refine lv_iload_n C0.1 C0.2.1 dX8_lesserChild_37 rfl (lv_at hl 1 rfl) ?_
    exact ee_i C0 hI hr hlocks hf dX8_lesserChild_38
  · have hf := (if_neg c_5).symm.trans hf
    refine lv_aload_n C0.1 C0.2.1 dX8_lesserChild_18 rfl (lv_at hl 2 rfl) ?_
    refine r_get (C := RX8) (T := TX8) (N9 := 2) (ci := 9) C0 C1 hI iX8 rfl a 0 (kdlt8 ha) (by decide) ((shI_8 ha) _) rfl rfl w_260 dX8_lesserChild_19 ?_
    refine lv_iload_n C0.1 C0.2.1 dX8_lesserChild_22 rfl (lv_at hl 0 rfl) ?_
    obtain ⟨h_6, hf⟩ := chk_some hf
    refine r_iald C0 C1 hI (a + 1) (kdlt2 (kd8_1 ha)) (shI_2 (kd8_1 ha)) h_6 dX8_lesserChild_23 ?_
    refine lv_aload_n C0.1 C0.2.1 dX8_lesserChild_24 rfl (lv_at hl 2 rfl) ?_
    refine r_get (C := RX8) (T := TX8) (N9 := 2) (ci := 9) C0 C1 hI iX8 rfl a 0 (kdlt8 ha) (by decide) ((shI_8 ha) _) rfl rfl w_260 dX8_lesserChild_25 ?_
    refine lv_iload_n C0.1 C0.2.1 dX8_lesserChild_28 rfl (lv_at hl 1 rfl) ?_
    obtain ⟨h_7, hf⟩ := chk_some hf
    refine r_iald C0 C1 hI (a + 1) (kdlt2 (kd8_1 ha)) (shI_2 (kd8_1 ha)) h_7 dX8_lesserChild_29 ?_
    refine lv_icmp_ge (tgt := 37) C0.1 C0.2.1 dX8_lesserChild_30 (by decide) (fun c_8 => ?_) (fun c_8 => ?_)
    · have hf := (if_pos c_8).symm.trans hf
      refine lv_iload_n C0.1 C0.2.1 dX8_lesserChild_37 rfl (lv_at hl 1 rfl) ?_
      exact ee_i C0 hI hr hlocks hf dX8_lesserChild_38
    · have hf := (if_neg c_8).symm.trans hf
      refine lv_iload_n C0.1 C0.2.1 dX8_lesserChild_33 rfl (lv_at hl 0 rfl) ?_
      refine lv_goto (tgt := 38) C0.1 C0.2.1 dX8_lesserChild_34 (by decide) ?_
      exact ee_i C0 hI hr hlocks hf dX8_lesserChild_38

def F_X8_takeFirst_L45 (n : Nat) (a : Nat) : Nat → Int32 → Int32 → Int32 → Int32 → Mem → Option (Int32 × Mem)
  | 0, _, _, _, _, _ => none
  | k45 + 1, x1_45, x2_45, x3_45, x4_45, M =>
    (if (M a 1) ≤ x4_45 then chk (inb x3_45 12) (lt' (up2 M (a + 1) (ix x3_45) x2_45) (fun M_45_5 => some (x1_45 &&& 15, M_45_5))) else chk (inb x4_45 12) ((if x2_45 ≤ (M (a + 1) (ix x4_45)) then chk (inb x3_45 12) (lt' (up2 M (a + 1) (ix x3_45) x2_45) (fun M_45_12 => some (x1_45 &&& 15, M_45_12))) else chk (inb x4_45 12) (chk (inb x3_45 12) (lt' (up2 M (a + 1) (ix x3_45) (M (a + 1) (ix x4_45))) (fun M_45_18 => ob (F_X8_lesserChild n a x4_45 M_45_18) (fun r_45_21 => F_X8_takeFirst_L45 n a k45 x1_45 x2_45 x4_45 r_45_21 M_45_18)))))))
def F_X8_takeFirst (n : Nat) (a : Nat) (M : Mem) : Option (Int32 × Mem) :=
  (if 0 < (M a 1) then chk (inb 0 12) (lt' (M (a + 1) (ix 0)) (fun x1_3 => lt' (up2 M a 1 ((M a 1) - 1)) (fun M_5 => chk (inb (M_5 a 1) 12) (lt' (M_5 (a + 1) (ix (M_5 a 1))) (fun x2_8 => ob (F_X8_lesserChild n a 0 M_5) (fun r_11 => F_X8_takeFirst_L45 n a n x1_3 x2_8 0 r_11 M_5)))))) else some ((-1), M))
theorem hd_X8_takeFirst : yX8_takeFirst.cls ≠ "java/lang/invoke/MethodHandle" ∧ yX8_takeFirst.cls ≠ "java/lang/invoke/VarHandle" ∧ (parseMethodDescriptor yX8_takeFirst.desc).map (fun d => d.parameters.length) = some 0 := ⟨by decide +kernel, by decide +kernel, by decide +kernel⟩
set_option maxHeartbeats 4000000 in
set_option maxRecDepth 100000 in
theorem c_X8_takeFirst (l : Launch) (g : GG) (X : va_W) (r : Nat → Nat) (b : Nat → Nat) (sz n : Nat) (M : Mem) (a : Nat) (ha : kdI a = 8) {r0 : Int32} {M' : Mem} (hf : F_X8_takeFirst n a M = some (r0, M')) : Met l yX8_takeFirst (.code yX8_takeFirst cX8_takeFirst 5 (some .int) :: LWg) (rmD 1 0 0) (va_Pc [.ref (b a)] (PreP g X 372 (shI g r b) b sz M)) (Qi g X 372 (shI g r b) b sz r0 M') 0 0 (AA X b 372 sz) := by
  refine met_go (by decide +kernel) rfl (Nat.le_of_ble_eq_true rfl) ?_
  intro p e s m below meth c ls H locs C0 C1 hr hlocks hnm hsz hl hI
  subst hsz
  have hl : lv_has ls 5 [(0, .ref (b a))] := hl
  unfold F_X8_takeFirst at hf
  refine lv_aload_n C0.1 C0.2.1 dX8_takeFirst_0 rfl (lv_at hl 0 rfl) ?_
  refine r_get (C := RX8) (T := TX8) (N9 := 2) (ci := 9) C0 C1 hI iX8 rfl a 1 (kdlt8 ha) (by decide) ((shI_8 ha) _) rfl rfl w_261 dX8_takeFirst_1 ?_
  refine lv_if_gt (tgt := 9) C0.1 C0.2.1 dX8_takeFirst_4 (by decide) (fun c_1 => ?_) (fun c_1 => ?_)
  · have hf := (if_pos c_1).symm.trans hf
    refine lv_aload_n C0.1 C0.2.1 dX8_takeFirst_9 rfl (lv_at hl 0 rfl) ?_
    refine r_get (C := RX8) (T := TX8) (N9 := 2) (ci := 9) C0 C1 hI iX8 rfl a 0 (kdlt8 ha) (by decide) ((shI_8 ha) _) rfl rfl w_260 dX8_takeFirst_10 ?_
    refine lv_iconst (v := 0) C0.1 C0.2.1 dX8_takeFirst_13 (by decide) ?_
    obtain ⟨h_2, hf⟩ := chk_some hf
    refine r_iald C0 C1 hI (a + 1) (kdlt2 (kd8_1 ha)) (shI_2 (kd8_1 ha)) h_2 dX8_takeFirst_14 ?_
    refine lv_topi (fun x1_3 e_4 => ?_)
    have hf := lt_at e_4 hf
    refine lv_istore_n (lv' := [(1, .int x1_3), (0, .ref (b a))]) C0.1 C0.2.1 dX8_takeFirst_15 rfl hl (by decide) rfl (fun ls hl => ?_)
    refine lv_aload_n C0.1 C0.2.1 dX8_takeFirst_16 rfl (lv_at hl 1 rfl) ?_
    refine lv_dup C0.1 C0.2.1 dX8_takeFirst_17 rfl ?_
    refine r_get (C := RX8) (T := TX8) (N9 := 2) (ci := 9) C0 C1 hI iX8 rfl a 1 (kdlt8 ha) (by decide) ((shI_8 ha) _) rfl rfl w_261 dX8_takeFirst_18 ?_
    refine lv_iconst (v := 1) C0.1 C0.2.1 dX8_takeFirst_21 (by decide) ?_
    refine lv_isub C0.1 C0.2.1 dX8_takeFirst_22 ?_
    refine r_put (C := RX8) (T := TX8) (N9 := 2) (ci := 9) (fs := fQ b a) (ty := .int) C0 C1 hI iX8 tyX8 tyX8_ok nmX8 rfl a 1 (kdlt8 ha) (by decide) (shI_8 ha) rfl rfl rfl (by decide +kernel) ⟨rfl, rfl⟩ (Nat.le_of_ble_eq_true rfl) w_261 dX8_takeFirst_23 (fun H locs hI => ?_)
    obtain ⟨M_5, e_6⟩ : ∃ z : Mem, z = up2 M a 1 ((M a 1) - 1) := ⟨_, rfl⟩
    rw [← e_6] at hI
    have hf := lt_at e_6 hf
    refine lv_aload_n C0.1 C0.2.1 dX8_takeFirst_26 rfl (lv_at hl 1 rfl) ?_
    refine r_get (C := RX8) (T := TX8) (N9 := 2) (ci := 9) C0 C1 hI iX8 rfl a 0 (kdlt8 ha) (by decide) ((shI_8 ha) _) rfl rfl w_260 dX8_takeFirst_27 ?_
    refine lv_aload_n C0.1 C0.2.1 dX8_takeFirst_30 rfl (lv_at hl 1 rfl) ?_
    refine r_get (C := RX8) (T := TX8) (N9 := 2) (ci := 9) C0 C1 hI iX8 rfl a 1 (kdlt8 ha) (by decide) ((shI_8 ha) _) rfl rfl w_261 dX8_takeFirst_31 ?_
    obtain ⟨h_7, hf⟩ := chk_some hf
    refine r_iald C0 C1 hI (a + 1) (kdlt2 (kd8_1 ha)) (shI_2 (kd8_1 ha)) h_7 dX8_takeFirst_34 ?_
    refine lv_topi (fun x2_8 e_9 => ?_)
    have hf := lt_at e_9 hf
    refine lv_istore_n (lv' := [(2, .int x2_8), (1, .int x1_3), (0, .ref (b a))]) C0.1 C0.2.1 dX8_takeFirst_35 rfl hl (by decide) rfl (fun ls hl => ?_)
    refine lv_iconst (v := 0) C0.1 C0.2.1 dX8_takeFirst_36 (by decide) ?_
    refine lv_istore_n (lv' := [(3, .int 0), (2, .int x2_8), (1, .int x1_3), (0, .ref (b a))]) C0.1 C0.2.1 dX8_takeFirst_37 rfl hl (by decide) rfl (fun ls hl => ?_)
    refine lv_aload_n C0.1 C0.2.1 dX8_takeFirst_38 rfl (lv_at hl 3 rfl) ?_
    refine lv_iload_n C0.1 C0.2.1 dX8_takeFirst_39 rfl (lv_at hl 0 rfl) ?_
    obtain ⟨r_11, h_10, hf⟩ := ob_some hf
    refine k_i C1 hI (q_V C0 C1 hI a (c_X8_lesserChild l g X r b H.size n M_5 a ha 0 h_10) w_618 w_620 w_10 w_75 w_621 ⟨rfl, rfl⟩ hd_X8_lesserChild ⟨Nat.le_of_ble_eq_true rfl, Nat.le_of_ble_eq_true rfl⟩ (kdlt8 ha) ((shI_8 ha) _) rfl rfl rfl hl.1 rfl (Nat.le_of_ble_eq_true rfl) dX8_takeFirst_40 ⟨Nat.le_of_ble_eq_true rfl, Nat.le_of_ble_eq_true rfl⟩) (fun H locs hI => ?_)
    refine lv_istore (lv' := [(4, .int r_11), (3, .int 0), (2, .int x2_8), (1, .int x1_3), (0, .ref (b a))]) C0.1 C0.2.1 dX8_takeFirst_43 hl (by decide) rfl (fun ls hl => ?_)
    have L45 : ∀ (k45 : Nat) (x1_45 : Int32) (x2_45 : Int32) (x3_45 : Int32) (x4_45 : Int32) (M : Mem), F_X8_takeFirst_L45 n a k45 x1_45 x2_45 x3_45 x4_45 M = some (r0, M') → ∀ (H : Heap) (locs : List Loc) (ls : Array Slot), PI g X 372 (shI g r b) b s M H locs → lv_has ls 5 [(0, .ref (b a)), (1, .int x1_45), (2, .int x2_45), (3, .int x3_45), (4, .int x4_45)] → W p l e (rmD 1 0 0) s m ([.ref (b a)] : List Value).toArray below meth c H locs 0 0 (MQ below (Qi g X 372 (shI g r b) b s.heap.size r0 M') ([.ref (b a)] : List Value).toArray s 0 0 (AA X b 372 s.heap.size)) (F0 m 45 ls []) := by
      intro k45
      induction k45 with
      | zero => intro x1_45 x2_45 x3_45 x4_45 M hf; exact absurd (show (none : Option (Int32 × Mem)) = some (r0, M') from hf) (fun h => by cases h)
      | succ k45 ih45 =>
        intro x1_45 x2_45 x3_45 x4_45 M hf H locs ls hI hl
        unfold F_X8_takeFirst_L45 at hf
        refine lv_iload C0.1 C0.2.1 dX8_takeFirst_45 (lv_at hl 4 rfl) ?_
        refine lv_aload_n C0.1 C0.2.1 dX8_takeFirst_47 rfl (lv_at hl 0 rfl) ?_
        refine r_get (C := RX8) (T := TX8) (N9 := 2) (ci := 9) C0 C1 hI iX8 rfl a 1 (kdlt8 ha) (by decide) ((shI_8 ha) _) rfl rfl w_261 dX8_takeFirst_48 ?_
        refine lv_icmp_ge (tgt := 91) C0.1 C0.2.1 dX8_takeFirst_51 (by decide) (fun c_45_1 => ?_) (fun c_45_1 => ?_)
        · have hf := (if_pos c_45_1).symm.trans hf
          refine lv_aload_n C0.1 C0.2.1 dX8_takeFirst_91 rfl (lv_at hl 0 rfl) ?_
          refine r_get (C := RX8) (T := TX8) (N9 := 2) (ci := 9) C0 C1 hI iX8 rfl a 0 (kdlt8 ha) (by decide) ((shI_8 ha) _) rfl rfl w_260 dX8_takeFirst_92 ?_
          refine lv_iload_n C0.1 C0.2.1 dX8_takeFirst_95 rfl (lv_at hl 3 rfl) ?_
          refine lv_iload_n C0.1 C0.2.1 dX8_takeFirst_96 rfl (lv_at hl 2 rfl) ?_
          obtain ⟨h_45_2, hf⟩ := chk_some hf
          refine r_iast C0 C1 hI (a + 1) (kdlt2 (kd8_1 ha)) (shI_2 (kd8_1 ha)) h_45_2 dX8_takeFirst_97 (fun H locs hI => ?_)
          obtain ⟨M_45_5, e_45_6⟩ : ∃ z : Mem, z = up2 M (a + 1) (ix x3_45) x2_45 := ⟨_, rfl⟩
          rw [← e_45_6] at hI
          have hf := lt_at e_45_6 hf
          refine lv_iload_n C0.1 C0.2.1 dX8_takeFirst_98 rfl (lv_at hl 1 rfl) ?_
          refine lv_bipush (v := 15) C0.1 C0.2.1 dX8_takeFirst_99 (by decide) ?_
          refine lv_iand C0.1 C0.2.1 dX8_takeFirst_101 ?_
          exact ee_im C0 hI hr hlocks hf dX8_takeFirst_102
        · have hf := (if_neg c_45_1).symm.trans hf
          refine lv_aload_n C0.1 C0.2.1 dX8_takeFirst_54 rfl (lv_at hl 0 rfl) ?_
          refine r_get (C := RX8) (T := TX8) (N9 := 2) (ci := 9) C0 C1 hI iX8 rfl a 0 (kdlt8 ha) (by decide) ((shI_8 ha) _) rfl rfl w_260 dX8_takeFirst_55 ?_
          refine lv_iload C0.1 C0.2.1 dX8_takeFirst_58 (lv_at hl 4 rfl) ?_
          obtain ⟨h_45_7, hf⟩ := chk_some hf
          refine r_iald C0 C1 hI (a + 1) (kdlt2 (kd8_1 ha)) (shI_2 (kd8_1 ha)) h_45_7 dX8_takeFirst_60 ?_
          refine lv_iload_n C0.1 C0.2.1 dX8_takeFirst_61 rfl (lv_at hl 2 rfl) ?_
          refine lv_icmp_ge (tgt := 91) C0.1 C0.2.1 dX8_takeFirst_62 (by decide) (fun c_45_8 => ?_) (fun c_45_8 => ?_)
          · have hf := (if_pos c_45_8).symm.trans hf
            refine lv_aload_n C0.1 C0.2.1 dX8_takeFirst_91 rfl (lv_at hl 0 rfl) ?_
            refine r_get (C := RX8) (T := TX8) (N9 := 2) (ci := 9) C0 C1 hI iX8 rfl a 0 (kdlt8 ha) (by decide) ((shI_8 ha) _) rfl rfl w_260 dX8_takeFirst_92 ?_
            refine lv_iload_n C0.1 C0.2.1 dX8_takeFirst_95 rfl (lv_at hl 3 rfl) ?_
            refine lv_iload_n C0.1 C0.2.1 dX8_takeFirst_96 rfl (lv_at hl 2 rfl) ?_
            obtain ⟨h_45_9, hf⟩ := chk_some hf
            refine r_iast C0 C1 hI (a + 1) (kdlt2 (kd8_1 ha)) (shI_2 (kd8_1 ha)) h_45_9 dX8_takeFirst_97 (fun H locs hI => ?_)
            obtain ⟨M_45_12, e_45_13⟩ : ∃ z : Mem, z = up2 M (a + 1) (ix x3_45) x2_45 := ⟨_, rfl⟩
            rw [← e_45_13] at hI
            have hf := lt_at e_45_13 hf
            refine lv_iload_n C0.1 C0.2.1 dX8_takeFirst_98 rfl (lv_at hl 1 rfl) ?_
            refine lv_bipush (v := 15) C0.1 C0.2.1 dX8_takeFirst_99 (by decide) ?_
            refine lv_iand C0.1 C0.2.1 dX8_takeFirst_101 ?_
            exact ee_im C0 hI hr hlocks hf dX8_takeFirst_102
          · have hf := (if_neg c_45_8).symm.trans hf
            refine lv_aload_n C0.1 C0.2.1 dX8_takeFirst_65 rfl (lv_at hl 0 rfl) ?_
            refine r_get (C := RX8) (T := TX8) (N9 := 2) (ci := 9) C0 C1 hI iX8 rfl a 0 (kdlt8 ha) (by decide) ((shI_8 ha) _) rfl rfl w_260 dX8_takeFirst_66 ?_
            refine lv_iload_n C0.1 C0.2.1 dX8_takeFirst_69 rfl (lv_at hl 3 rfl) ?_
            refine lv_aload_n C0.1 C0.2.1 dX8_takeFirst_70 rfl (lv_at hl 0 rfl) ?_
            refine r_get (C := RX8) (T := TX8) (N9 := 2) (ci := 9) C0 C1 hI iX8 rfl a 0 (kdlt8 ha) (by decide) ((shI_8 ha) _) rfl rfl w_260 dX8_takeFirst_71 ?_
            refine lv_iload C0.1 C0.2.1 dX8_takeFirst_74 (lv_at hl 4 rfl) ?_
            obtain ⟨h_45_14, hf⟩ := chk_some hf
            refine r_iald C0 C1 hI (a + 1) (kdlt2 (kd8_1 ha)) (shI_2 (kd8_1 ha)) h_45_14 dX8_takeFirst_76 ?_
            obtain ⟨h_45_15, hf⟩ := chk_some hf
            refine r_iast C0 C1 hI (a + 1) (kdlt2 (kd8_1 ha)) (shI_2 (kd8_1 ha)) h_45_15 dX8_takeFirst_77 (fun H locs hI => ?_)
            obtain ⟨M_45_18, e_45_19⟩ : ∃ z : Mem, z = up2 M (a + 1) (ix x3_45) (M (a + 1) (ix x4_45)) := ⟨_, rfl⟩
            rw [← e_45_19] at hI
            have hf := lt_at e_45_19 hf
            refine lv_iload C0.1 C0.2.1 dX8_takeFirst_78 (lv_at hl 4 rfl) ?_
            refine lv_istore_n (lv' := [(3, .int x4_45), (0, .ref (b a)), (1, .int x1_45), (2, .int x2_45), (4, .int x4_45)]) C0.1 C0.2.1 dX8_takeFirst_80 rfl hl (by decide) rfl (fun ls hl => ?_)
            refine lv_aload_n C0.1 C0.2.1 dX8_takeFirst_81 rfl (lv_at hl 1 rfl) ?_
            refine lv_iload_n C0.1 C0.2.1 dX8_takeFirst_82 rfl (lv_at hl 0 rfl) ?_
            obtain ⟨r_45_21, h_45_20, hf⟩ := ob_some hf
            refine k_i C1 hI (q_V C0 C1 hI a (c_X8_lesserChild l g X r b H.size n M_45_18 a ha x4_45 h_45_20) w_618 w_620 w_10 w_75 w_621 ⟨rfl, rfl⟩ hd_X8_lesserChild ⟨Nat.le_of_ble_eq_true rfl, Nat.le_of_ble_eq_true rfl⟩ (kdlt8 ha) ((shI_8 ha) _) rfl rfl rfl hl.1 rfl (Nat.le_of_ble_eq_true rfl) dX8_takeFirst_83 ⟨Nat.le_of_ble_eq_true rfl, Nat.le_of_ble_eq_true rfl⟩) (fun H locs hI => ?_)
            refine lv_istore (lv' := [(4, .int r_45_21), (3, .int x4_45), (0, .ref (b a)), (1, .int x1_45), (2, .int x2_45)]) C0.1 C0.2.1 dX8_takeFirst_86 hl (by decide) rfl (fun ls hl => ?_)
            refine lv_goto (tgt := 45) C0.1 C0.2.1 dX8_takeFirst_88 (by decide) ?_
            exact ih45 x1_45 x2_45 x4_45 r_45_21 M_45_18 hf H locs ls hI (lv_sub hl [2, 3, 4, 1, 0] rfl)
    exact L45 n x1_3 x2_8 0 r_11 M_5 hf H locs ls hI (lv_sub hl [4, 3, 2, 1, 0] rfl)
  · have hf := (if_neg c_1).symm.trans hf
    refine lv_iconst (v := (-1)) C0.1 C0.2.1 dX8_takeFirst_7 (by decide) ?_
    exact ee_im C0 hI hr hlocks hf dX8_takeFirst_8
