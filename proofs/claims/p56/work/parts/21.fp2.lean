def F_X9_lineAt (n : Nat) (T : Mem) (x1 : Int32) (M : Mem) : Option (RX Int32) :=
  (if x1 < 0 then some (.inl 2) else ob (F_J4_length_8abf5_l n T M) (fun r_3 => (if x1 < r_3 then ob (F_J4_charAt_5068e_l n T x1 M) (fun r_6 => chk (isC r_6) (some (.inr r_6))) else some (.inl 2))))
theorem hd_X9_lineAt : yX9_lineAt.cls ≠ "java/lang/invoke/MethodHandle" ∧ yX9_lineAt.cls ≠ "java/lang/invoke/VarHandle" ∧ (parseMethodDescriptor yX9_lineAt.desc).map (fun d => d.parameters.length) = some 1 := ⟨by decide +kernel, by decide +kernel, by decide +kernel⟩
set_option maxHeartbeats 4000000 in
set_option maxRecDepth 100000 in
theorem c_X9_lineAt (l : Launch) (hl0 : l.stackTraces = false) (g : GG) (X : va_W) (r : Nat → Nat) (b : Nat → Nat) (sz n : Nat) (M : Mem) (T : Mem) (x1 : Int32) {q0 : RX Int32} (hf : F_X9_lineAt n T x1 M = some q0) : vx_Met l yX9_lineAt (.code yX9_lineAt cX9_lineAt 2 (some .char) :: LWg) (rmD 8 1 6) (va_Pc [.ref (b 0), .int x1] (PreP g (xb g r T ++ X) 372 (shI g r b) b sz M)) (QiX g (xb g r T ++ X) 372 (shI g r b) b sz q0 M) (XcX g (xb g r T ++ X) 372 (shI g r b) b sz q0 M) 1 6 (AA (xb g r T ++ X) b 372 sz) := by
  refine metx_go (by decide +kernel) rfl (Nat.le_of_ble_eq_true rfl) ?_
  intro p e s m below meth c ls H locs C0 C1 hr hlocks hno hsz hl hI
  subst hsz
  have hl : lv_has ls 2 [(0, .ref (b 0)), (1, .int x1)] := hl
  unfold F_X9_lineAt at hf
  refine lv_iload_n C0.1 C0.2.1 dX9_lineAt_0 rfl (lv_at hl 1 rfl) ?_
  refine lv_if_lt (tgt := 15) C0.1 C0.2.1 dX9_lineAt_1 (by decide) (fun c_1 => ?_) (fun c_1 => ?_)
  · have hf := (if_pos c_1).symm.trans hf
    exact r_throwW C0 C1 hI hl0 hl.1 hno hlocks (E := 2) (sk := 29) rfl (by decide +kernel) (by decide +kernel) w_434 w_93 at_IOB ag_IOB dX9_lineAt_15 dX9_lineAt_18 dX9_lineAt_19 dX9_lineAt_22 dX9_lineAt_25 (Nat.le_of_ble_eq_true rfl) (Nat.le_of_ble_eq_true rfl) (Nat.le_of_ble_eq_true rfl) (Nat.le_of_ble_eq_true rfl) hf (Nat.le_of_ble_eq_true rfl) (Nat.le_of_ble_eq_true rfl)
  · have hf := (if_neg c_1).symm.trans hf
    refine lv_iload_n C0.1 C0.2.1 dX9_lineAt_4 rfl (lv_at hl 1 rfl) ?_
    refine lv_aload_n C0.1 C0.2.1 dX9_lineAt_5 rfl (lv_at hl 0 rfl) ?_
    refine r_get (C := RX9) (T := TX9) (N9 := 11) (ci := 10) C0 C1 hI iX9 rfl 0 8 (kdlt0 (rfl : kdI 0 = 0)) (by decide) ((shI_0 (rfl : kdI 0 = 0)) _) rfl rfl w_350 dX9_lineAt_6 ?_
    obtain ⟨r_3, h_2, hf⟩ := ob_some hf
    refine k_i C1 hI (q_V C0 C1 hI 371 (c_J4_length_8abf5_l l g X r b H.size n M T h_2) w_959 w_960 w_961 w_81 w_962 ⟨rfl, rfl⟩ hd_J4_length_8abf5 ⟨Nat.le_of_ble_eq_true rfl, Nat.le_of_ble_eq_true rfl⟩ (kdlt13 (rfl : kdI 371 = 13)) (shI_13 (rfl : kdI 371 = 13) _) rfl rfl rfl hl.1 rfl (Nat.le_of_ble_eq_true rfl) dX9_lineAt_9 ⟨Nat.le_of_ble_eq_true rfl, Nat.le_of_ble_eq_true rfl⟩) (fun H locs hI => ?_)
    refine lv_icmp_lt (tgt := 26) C0.1 C0.2.1 dX9_lineAt_12 (by decide) (fun c_4 => ?_) (fun c_4 => ?_)
    · have hf := (if_pos c_4).symm.trans hf
      refine lv_aload_n C0.1 C0.2.1 dX9_lineAt_26 rfl (lv_at hl 0 rfl) ?_
      refine r_get (C := RX9) (T := TX9) (N9 := 11) (ci := 10) C0 C1 hI iX9 rfl 0 8 (kdlt0 (rfl : kdI 0 = 0)) (by decide) ((shI_0 (rfl : kdI 0 = 0)) _) rfl rfl w_350 dX9_lineAt_27 ?_
      refine lv_iload_n C0.1 C0.2.1 dX9_lineAt_30 rfl (lv_at hl 1 rfl) ?_
      obtain ⟨r_6, h_5, hf⟩ := ob_some hf
      refine k_i C1 hI (q_V C0 C1 hI 371 (c_J4_charAt_5068e_l l g X r b H.size n M T x1 h_5) w_1428 w_1118 w_1119 w_81 w_1120 ⟨rfl, rfl⟩ hd_J4_charAt_5068e ⟨Nat.le_of_ble_eq_true rfl, Nat.le_of_ble_eq_true rfl⟩ (kdlt13 (rfl : kdI 371 = 13)) (shI_13 (rfl : kdI 371 = 13) _) rfl rfl rfl hl.1 rfl (Nat.le_of_ble_eq_true rfl) dX9_lineAt_31 ⟨Nat.le_of_ble_eq_true rfl, Nat.le_of_ble_eq_true rfl⟩) (fun H locs hI => ?_)
      refine W.widen (k := 1) (n := 6) (Nat.le_of_ble_eq_true rfl) (Nat.le_of_ble_eq_true rfl) ?_
      obtain ⟨h_7, hf⟩ := chk_some hf
      exact ex_z C0 hI hr hlocks (isC_n h_7) hf dX9_lineAt_34
    · have hf := (if_neg c_4).symm.trans hf
      exact r_throwW C0 C1 hI hl0 hl.1 hno hlocks (E := 2) (sk := 29) rfl (by decide +kernel) (by decide +kernel) w_434 w_93 at_IOB ag_IOB dX9_lineAt_15 dX9_lineAt_18 dX9_lineAt_19 dX9_lineAt_22 dX9_lineAt_25 (Nat.le_of_ble_eq_true rfl) (Nat.le_of_ble_eq_true rfl) (Nat.le_of_ble_eq_true rfl) (Nat.le_of_ble_eq_true rfl) hf (Nat.le_of_ble_eq_true rfl) (Nat.le_of_ble_eq_true rfl)


set_option maxHeartbeats 4000000 in
set_option maxRecDepth 100000 in
theorem p_X9_lineAt (l : Launch) (g : GG) (X : va_W) (r : Nat → Nat) (b : Nat → Nat) (sz n : Nat) (M : Mem) (T : Mem) (x1 : Int32) {r0 : Int32} (hf : F_X9_lineAt n T x1 M = some (.inr r0)) : Met l yX9_lineAt (.code yX9_lineAt cX9_lineAt 2 (some .char) :: LWg) (rmD 8 0 0) (va_Pc [.ref (b 0), .int x1] (PreP g (xb g r T ++ X) 372 (shI g r b) b sz M)) (Qi g (xb g r T ++ X) 372 (shI g r b) b sz r0 M) 0 0 (AA (xb g r T ++ X) b 372 sz) := by
  refine met_go (by decide +kernel) rfl (Nat.le_of_ble_eq_true rfl) ?_
  intro p e s m below meth c ls H locs C0 C1 hr hlocks hnm hsz hl hI
  subst hsz
  have hl : lv_has ls 2 [(0, .ref (b 0)), (1, .int x1)] := hl
  unfold F_X9_lineAt at hf
  refine lv_iload_n C0.1 C0.2.1 dX9_lineAt_0 rfl (lv_at hl 1 rfl) ?_
  refine lv_if_lt (tgt := 15) C0.1 C0.2.1 dX9_lineAt_1 (by decide) (fun c_1 => ?_) (fun c_1 => ?_)
  · have hf := (if_pos c_1).symm.trans hf
    exact nomatch hf
  · have hf := (if_neg c_1).symm.trans hf
    refine lv_iload_n C0.1 C0.2.1 dX9_lineAt_4 rfl (lv_at hl 1 rfl) ?_
    refine lv_aload_n C0.1 C0.2.1 dX9_lineAt_5 rfl (lv_at hl 0 rfl) ?_
    refine r_get (C := RX9) (T := TX9) (N9 := 11) (ci := 10) C0 C1 hI iX9 rfl 0 8 (kdlt0 (rfl : kdI 0 = 0)) (by decide) ((shI_0 (rfl : kdI 0 = 0)) _) rfl rfl w_350 dX9_lineAt_6 ?_
    obtain ⟨r_3, h_2, hf⟩ := ob_some hf
    refine k_i C1 hI (q_V C0 C1 hI 371 (c_J4_length_8abf5_l l g X r b H.size n M T h_2) w_959 w_960 w_961 w_81 w_962 ⟨rfl, rfl⟩ hd_J4_length_8abf5 ⟨Nat.le_of_ble_eq_true rfl, Nat.le_of_ble_eq_true rfl⟩ (kdlt13 (rfl : kdI 371 = 13)) (shI_13 (rfl : kdI 371 = 13) _) rfl rfl rfl hl.1 rfl (Nat.le_of_ble_eq_true rfl) dX9_lineAt_9 ⟨Nat.le_of_ble_eq_true rfl, Nat.le_of_ble_eq_true rfl⟩) (fun H locs hI => ?_)
    refine lv_icmp_lt (tgt := 26) C0.1 C0.2.1 dX9_lineAt_12 (by decide) (fun c_4 => ?_) (fun c_4 => ?_)
    · have hf := (if_pos c_4).symm.trans hf
      refine lv_aload_n C0.1 C0.2.1 dX9_lineAt_26 rfl (lv_at hl 0 rfl) ?_
      refine r_get (C := RX9) (T := TX9) (N9 := 11) (ci := 10) C0 C1 hI iX9 rfl 0 8 (kdlt0 (rfl : kdI 0 = 0)) (by decide) ((shI_0 (rfl : kdI 0 = 0)) _) rfl rfl w_350 dX9_lineAt_27 ?_
      refine lv_iload_n C0.1 C0.2.1 dX9_lineAt_30 rfl (lv_at hl 1 rfl) ?_
      obtain ⟨r_6, h_5, hf⟩ := ob_some hf
      refine k_i C1 hI (q_V C0 C1 hI 371 (c_J4_charAt_5068e_l l g X r b H.size n M T x1 h_5) w_1428 w_1118 w_1119 w_81 w_1120 ⟨rfl, rfl⟩ hd_J4_charAt_5068e ⟨Nat.le_of_ble_eq_true rfl, Nat.le_of_ble_eq_true rfl⟩ (kdlt13 (rfl : kdI 371 = 13)) (shI_13 (rfl : kdI 371 = 13) _) rfl rfl rfl hl.1 rfl (Nat.le_of_ble_eq_true rfl) dX9_lineAt_31 ⟨Nat.le_of_ble_eq_true rfl, Nat.le_of_ble_eq_true rfl⟩) (fun H locs hI => ?_)
      obtain ⟨h_7, hf⟩ := chk_some hf
      exact ep_z C0 hI hr hlocks (isC_n h_7) hf dX9_lineAt_34
    · have hf := (if_neg c_4).symm.trans hf
      exact nomatch hf
