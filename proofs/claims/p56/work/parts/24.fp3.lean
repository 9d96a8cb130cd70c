def Fg_X9_append (n : Nat) (T0 : Mem) (x1 : Int32) (M : Mem) : Option (RX Int32 × Mem × Mem) :=
  (if x1 < 32 then some (.inl 1, T0, M) else (if x1 ≤ 126 then ob (F_J4_length_8abf5_t n T0 M) (fun r_4 => (if r_4 < 60 then ogu (Fg_J4_append_cf468_t n T0 x1 M) (fun T_7 M_8 => ob (F_J4_length_8abf5_t n T_7 M_8) (fun r_12 => some (.inr r_12, T_7, M_8))) else some (.inl 0, T0, M))) else some (.inl 1, T0, M)))
theorem hd_X9_append : yX9_append.cls ≠ "java/lang/invoke/MethodHandle" ∧ yX9_append.cls ≠ "java/lang/invoke/VarHandle" ∧ (parseMethodDescriptor yX9_append.desc).map (fun d => d.parameters.length) = some 1 := ⟨by decide +kernel, by decide +kernel, by decide +kernel⟩
set_option maxHeartbeats 4000000 in
set_option maxRecDepth 100000 in
theorem cg_X9_append (l : Launch) (hl0 : l.stackTraces = false) (g : GG) (X : va_W) (r b : Nat → Nat) (sz n : Nat) (M : Mem) (T0 : Mem) (x1 : Int32) {q0 : RX Int32} {T' M' : Mem} (hf : Fg_X9_append n T0 x1 M = some (q0, T', M')) : vx_Met l yX9_append (.code yX9_append cX9_append 2 (some .int) :: LWg) (rmD 8 1 80) (va_Pc [.ref (b 0), .int x1] (PreP g (xb g r T0 ++ X) 372 (shI g r b) b sz M)) (QgX g X (AA (xb g r T0 ++ X) b 372 sz) b sz q0 T' M') (XcX g (xb g r T0 ++ X) 372 (shI g r b) b sz q0 M') 1 80 (AA (xb g r T0 ++ X) b 372 sz) := by
  refine metx_go (by decide +kernel) rfl (Nat.le_of_ble_eq_true rfl) ?_
  intro p e s m below meth c ls H locs C0 C1 hr hlocks hno hsz hl hI
  subst hsz
  have hG := GX.go C1
  have hl : lv_has ls 2 [(0, .ref (b 0)), (1, .int x1)] := hl
  unfold Fg_X9_append at hf
  refine lv_iload_n C0.1 C0.2.1 dX9_append_0 rfl (lv_at hl 1 rfl) ?_
  refine lv_bipush (v := 32) C0.1 C0.2.1 dX9_append_1 (by decide) ?_
  refine lv_icmp_lt (tgt := 12) C0.1 C0.2.1 dX9_append_3 (by decide) (fun c_1 => ?_) (fun c_1 => ?_)
  · have hf := (if_pos c_1).symm.trans hf
    exact r_throwWm C0 C1 hI hl0 hl.1 hno hlocks (E := 1) (sk := 23) rfl (by decide +kernel) (by decide +kernel) w_509 w_99 at_IAE ag_IAE dX9_append_12 dX9_append_15 dX9_append_16 dX9_append_19 dX9_append_22 (Nat.le_of_ble_eq_true rfl) (Nat.le_of_ble_eq_true rfl) (Nat.le_of_ble_eq_true rfl) (Nat.le_of_ble_eq_true rfl) (g3_2 hf) (Nat.le_of_ble_eq_true rfl) (Nat.le_of_ble_eq_true rfl)
  · have hf := (if_neg c_1).symm.trans hf
    refine lv_iload_n C0.1 C0.2.1 dX9_append_6 rfl (lv_at hl 1 rfl) ?_
    refine lv_bipush (v := 126) C0.1 C0.2.1 dX9_append_7 (by decide) ?_
    refine lv_icmp_le (tgt := 23) C0.1 C0.2.1 dX9_append_9 (by decide) (fun c_2 => ?_) (fun c_2 => ?_)
    · have hf := (if_pos c_2).symm.trans hf
      refine lv_aload_n C0.1 C0.2.1 dX9_append_23 rfl (lv_at hl 0 rfl) ?_
      refine r_get (C := RX9) (T := TX9) (N9 := 11) (ci := 10) C0 C1 hI iX9 rfl 0 7 (kdlt0 (rfl : kdI 0 = 0)) (by decide) ((shI_0 (rfl : kdI 0 = 0)) _) rfl rfl w_349 dX9_append_24 ?_
      obtain ⟨r_4, h_3, hf⟩ := ob_some hf
      refine k_i C1 hI (q_V C0 C1 hI 370 (c_J4_length_8abf5_t l g X r b H.size n M T0 h_3) w_959 w_960 w_961 w_81 w_962 ⟨rfl, rfl⟩ hd_J4_length_8abf5 ⟨Nat.le_of_ble_eq_true rfl, Nat.le_of_ble_eq_true rfl⟩ (kdlt13 (rfl : kdI 370 = 13)) (shI_13 (rfl : kdI 370 = 13) _) rfl rfl rfl hl.1 rfl (Nat.le_of_ble_eq_true rfl) dX9_append_27 ⟨Nat.le_of_ble_eq_true rfl, Nat.le_of_ble_eq_true rfl⟩) (fun H locs hI => ?_)
      refine lv_bipush (v := 60) C0.1 C0.2.1 dX9_append_30 (by decide) ?_
      refine lv_icmp_lt (tgt := 46) C0.1 C0.2.1 dX9_append_32 (by decide) (fun c_5 => ?_) (fun c_5 => ?_)
      · have hf := (if_pos c_5).symm.trans hf
        refine lv_aload_n C0.1 C0.2.1 dX9_append_46 rfl (lv_at hl 0 rfl) ?_
        refine r_get (C := RX9) (T := TX9) (N9 := 11) (ci := 10) C0 C1 hI iX9 rfl 0 7 (kdlt0 (rfl : kdI 0 = 0)) (by decide) ((shI_0 (rfl : kdI 0 = 0)) _) rfl rfl w_349 dX9_append_47 ?_
        refine lv_iload_n C0.1 C0.2.1 dX9_append_50 rfl (lv_at hl 1 rfl) ?_
        obtain ⟨T_7, M_8, h_6, hf⟩ := ogu_some hf
        refine kg_r hG hI (q_V C0 C1 hI 370 (cg_J4_append_cf468_t l g X r b H.size n M T0 x1 h_6) w_967 w_968 w_969 w_81 w_970 ⟨rfl, rfl⟩ hd_J4_append_cf468 ⟨Nat.le_of_ble_eq_true rfl, Nat.le_of_ble_eq_true rfl⟩ (kdlt13 (rfl : kdI 370 = 13)) (shI_13 (rfl : kdI 370 = 13) _) rfl rfl rfl hl.1 rfl (Nat.le_of_ble_eq_true rfl) dX9_append_51 ⟨Nat.le_of_ble_eq_true rfl, Nat.le_of_ble_eq_true rfl⟩) (fun r_9 X_10 H locs hG hI => ?_)
        have C1 := hG.1
        refine lv_pop C0.1 C0.2.1 dX9_append_54 rfl ?_
        refine lv_aload_n C0.1 C0.2.1 dX9_append_55 rfl (lv_at hl 0 rfl) ?_
        refine r_get (C := RX9) (T := TX9) (N9 := 11) (ci := 10) C0 C1 hI iX9 rfl 0 7 (kdlt0 (rfl : kdI 0 = 0)) (by decide) ((shI_0 (rfl : kdI 0 = 0)) _) rfl rfl w_349 dX9_append_56 ?_
        obtain ⟨r_12, h_11, hf⟩ := ob_some hf
        refine k_i C1 hI (q_V C0 C1 hI 370 (c_J4_length_8abf5_t l g X_10 r_9 b H.size n M_8 T_7 h_11) w_959 w_960 w_961 w_81 w_962 ⟨rfl, rfl⟩ hd_J4_length_8abf5 ⟨Nat.le_of_ble_eq_true rfl, Nat.le_of_ble_eq_true rfl⟩ (kdlt13 (rfl : kdI 370 = 13)) (shI_13 (rfl : kdI 370 = 13) _) rfl rfl rfl hl.1 rfl (Nat.le_of_ble_eq_true rfl) dX9_append_59 ⟨Nat.le_of_ble_eq_true rfl, Nat.le_of_ble_eq_true rfl⟩) (fun H locs hI => ?_)
        exact eg_x C0 hG hI hr hlocks hf dX9_append_62
      · have hf := (if_neg c_5).symm.trans hf
        exact r_throwWm C0 C1 hI hl0 hl.1 hno hlocks (E := 0) (sk := 24) rfl (by decide +kernel) (by decide +kernel) w_529 w_87 at_ISE ag_ISE dX9_append_35 dX9_append_38 dX9_append_39 dX9_append_42 dX9_append_45 (Nat.le_of_ble_eq_true rfl) (Nat.le_of_ble_eq_true rfl) (Nat.le_of_ble_eq_true rfl) (Nat.le_of_ble_eq_true rfl) (g3_2 hf) (Nat.le_of_ble_eq_true rfl) (Nat.le_of_ble_eq_true rfl)
    · have hf := (if_neg c_2).symm.trans hf
      exact r_throwWm C0 C1 hI hl0 hl.1 hno hlocks (E := 1) (sk := 23) rfl (by decide +kernel) (by decide +kernel) w_509 w_99 at_IAE ag_IAE dX9_append_12 dX9_append_15 dX9_append_16 dX9_append_19 dX9_append_22 (Nat.le_of_ble_eq_true rfl) (Nat.le_of_ble_eq_true rfl) (Nat.le_of_ble_eq_true rfl) (Nat.le_of_ble_eq_true rfl) (g3_2 hf) (Nat.le_of_ble_eq_true rfl) (Nat.le_of_ble_eq_true rfl)

def Fg_X9_describeList_L30 (n : Nat) (x1 : Int32) : Nat → Int32 → Mem → Mem → Option (RX Int32 × Mem × Mem)
  | 0, _, _, _ => none
  | k30 + 1, x3_30, T, M =>
    (if (M (1 + 6 + 1 + 4 * ix x1) 2) ≤ x3_30 then (if (M (1 + 6 + 1 + 4 * ix x1) 3) = 0 then ob (F_J4_length_8abf5_l n T M) (fun r_30_4 => some (.inr r_30_4, T, M)) else ogu (Fg_J4_append_cf468_l n T 124 M) (fun T_30_6 M_30_7 => ob (F_J4_length_8abf5_l n T_30_6 M_30_7) (fun r_30_11 => some (.inr r_30_11, T_30_6, M_30_7)))) else (if x3_30 ≤ 0 then ob2 (F_X8_takeFirst n 344 M) (fun r_30_14 M_30_15 => ogu (Fg_J4_append_bf812_l n T r_30_14 M_30_15) (fun T_30_17 M_30_18 => ob (F_X2_sits n 1 r_30_14 M_30_18) (fun r_30_22 => (if r_30_22 = 0 then ogu (Fg_J4_append_cf468_l n T_30_17 126 M_30_18) (fun T_30_27 M_30_28 => lt' (x3_30 + 1) (fun x3_30_31 => Fg_X9_describeList_L30 n x1 k30 x3_30_31 T_30_27 M_30_28)) else lt' (x3_30 + 1) (fun x3_30_24 => Fg_X9_describeList_L30 n x1 k30 x3_30_24 T_30_17 M_30_18))))) else ogu (Fg_J4_append_cf468_l n T 44 M) (fun T_30_34 M_30_35 => ob2 (F_X8_takeFirst n 344 M_30_35) (fun r_30_39 M_30_40 => ogu (Fg_J4_append_bf812_l n T_30_34 r_30_39 M_30_40) (fun T_30_42 M_30_43 => ob (F_X2_sits n 1 r_30_39 M_30_43) (fun r_30_47 => (if r_30_47 = 0 then ogu (Fg_J4_append_cf468_l n T_30_42 126 M_30_43) (fun T_30_52 M_30_53 => lt' (x3_30 + 1) (fun x3_30_56 => Fg_X9_describeList_L30 n x1 k30 x3_30_56 T_30_52 M_30_53)) else lt' (x3_30 + 1) (fun x3_30_49 => Fg_X9_describeList_L30 n x1 k30 x3_30_49 T_30_42 M_30_43))))))))
def Fg_X9_describeList (n : Nat) (T0 : Mem) (x1 : Int32) (M : Mem) : Option (RX Int32 × Mem × Mem) :=
  obxg (F_X9_requireMotion n x1 M) T0 M (fun u_3 => chk (inb x1 6) (ob (F_X9_fillQueue n x1 M) (fun M_9 => ob (F_J4_setLength_d00df_l n T0 0 M_9) (fun M_11 => Fg_X9_describeList_L30 n x1 13 0 T0 M_11))))
theorem hd_X9_describeList : yX9_describeList.cls ≠ "java/lang/invoke/MethodHandle" ∧ yX9_describeList.cls ≠ "java/lang/invoke/VarHandle" ∧ (parseMethodDescriptor yX9_describeList.desc).map (fun d => d.parameters.length) = some 1 := ⟨by decide +kernel, by decide +kernel, by decide +kernel⟩
set_option maxHeartbeats 4000000 in
set_option maxRecDepth 100000 in
theorem cg_X9_describeList (l : Launch) (hl0 : l.stackTraces = false) (g : GG) (X : va_W) (r b : Nat → Nat) (sz n : Nat) (M : Mem) (T0 : Mem) (x1 : Int32) {q0 : RX Int32} {T' M' : Mem} (hf : Fg_X9_describeList n T0 x1 M = some (q0, T', M')) : vx_Met l yX9_describeList (.code yX9_describeList cX9_describeList 5 (some .int) :: LWg) (rmD 11 40 3200) (va_Pc [.ref (b 0), .int x1] (PreP g (xb g r T0 ++ X) 372 (shI g r b) b sz M)) (QgX g X (AA (xb g r T0 ++ X) b 372 sz) b sz q0 T' M') (XcX g (xb g r T0 ++ X) 372 (shI g r b) b sz q0 M') 40 3200 (AA (xb g r T0 ++ X) b 372 sz) := by
  refine metx_go (by decide +kernel) rfl (Nat.le_of_ble_eq_true rfl) ?_
  intro p e s m below meth c ls H locs C0 C1 hr hlocks hno hsz hl hI
  subst hsz
  have hG := GX.go C1
  have hl : lv_has ls 5 [(0, .ref (b 0)), (1, .int x1)] := hl
  unfold Fg_X9_describeList at hf
  refine lv_aload_n C0.1 C0.2.1 dX9_describeList_0 rfl (lv_at hl 0 rfl) ?_
  refine lv_iload_n C0.1 C0.2.1 dX9_describeList_1 rfl (lv_at hl 1 rfl) ?_
  obtain ⟨q_4, h_2, h_5, h_6⟩ := obxg_x hf
  refine kx_v C1 hI (qx_V C0 C1 hI 0 (c_X9_requireMotion l hl0 g (xb g r T0 ++ X) r b H.size n M x1 h_2) w_411 w_413 w_2 w_71 w_414 ⟨rfl, rfl⟩ hd_X9_requireMotion ⟨Nat.le_of_ble_eq_true rfl, Nat.le_of_ble_eq_true rfl⟩ (kdlt0 (rfl : kdI 0 = 0)) ((shI_0 (rfl : kdI 0 = 0)) _) rfl rfl rfl hl.1 rfl (Nat.le_of_ble_eq_true rfl) dX9_describeList_2 ⟨Nat.le_of_ble_eq_true rfl, Nat.le_of_ble_eq_true rfl⟩) (fun k H locs ce q9 e1 hI g1 g2 g3 => x_outm hno hlocks hI g1 g2 g3 (h_5 k e1) (Nat.le_of_ble_eq_true rfl) (Nat.le_of_ble_eq_true rfl)) (fun u_3 H locs e1 hI => ?_)
  have hf := h_6 u_3 e1
  refine W.widen (k := 1) (n := 80) (Nat.le_of_ble_eq_true rfl) (Nat.le_of_ble_eq_true rfl) ?_
  refine lv_aload_n C0.1 C0.2.1 dX9_describeList_5 rfl (lv_at hl 0 rfl) ?_
  refine r_get (C := RX9) (T := TX9) (N9 := 11) (ci := 10) C0 C1 hI iX9 rfl 0 0 (kdlt0 (rfl : kdI 0 = 0)) (by decide) ((shI_0 (rfl : kdI 0 = 0)) _) rfl rfl w_342 dX9_describeList_6 ?_
  refine r_getN (C := RX2) (T := TX2) (N9 := 12) (ci := 4) C0 C1 hI iX2 rfl 1 9 (kdlt1 (rfl : kdI 1 = 1)) (by decide) ((shI_1 (rfl : kdI 1 = 1)) _) rfl rfl 29 rfl dX9_describeList_9 ?_
  refine lv_iload_n C0.1 C0.2.1 dX9_describeList_12 rfl (lv_at hl 1 rfl) ?_
  obtain ⟨h_7, hf⟩ := chk_some hf
  refine r_aald (t0 := 1) C0 C1 hI (1 + 6) (kdlt4 (kd1_6 (rfl : kdI 1 = 1))) (shI_4 (kd1_6 (rfl : kdI 1 = 1))) rfl h_7 rfl dX9_describeList_13 ?_
  refine lv_astore_n (lv' := [(2, .ref (b (1 + 6 + 1 + 4 * ix x1))), (0, .ref (b 0)), (1, .int x1)]) C0.1 C0.2.1 dX9_describeList_14 rfl hl (by decide) rfl (fun ls hl => ?_)
  refine lv_aload_n C0.1 C0.2.1 dX9_describeList_15 rfl (lv_at hl 1 rfl) ?_
  refine lv_iload_n C0.1 C0.2.1 dX9_describeList_16 rfl (lv_at hl 2 rfl) ?_
  obtain ⟨M_9, h_8, hf⟩ := ob_some hf
  refine k_v C1 hI (q_V C0 C1 hI 0 (c_X9_fillQueue l g (xb g r T0 ++ X) r b H.size n M x1 h_8) w_602 w_604 w_6 w_71 w_605 ⟨rfl, rfl⟩ hd_X9_fillQueue ⟨Nat.le_of_ble_eq_true rfl, Nat.le_of_ble_eq_true rfl⟩ (kdlt0 (rfl : kdI 0 = 0)) ((shI_0 (rfl : kdI 0 = 0)) _) rfl rfl rfl hl.1 rfl (Nat.le_of_ble_eq_true rfl) dX9_describeList_17 ⟨Nat.le_of_ble_eq_true rfl, Nat.le_of_ble_eq_true rfl⟩) (fun H locs hI => ?_)
  refine lv_aload_n C0.1 C0.2.1 dX9_describeList_20 rfl (lv_at hl 1 rfl) ?_
  refine r_get (C := RX9) (T := TX9) (N9 := 11) (ci := 10) C0 C1 hI iX9 rfl 0 8 (kdlt0 (rfl : kdI 0 = 0)) (by decide) ((shI_0 (rfl : kdI 0 = 0)) _) rfl rfl w_350 dX9_describeList_21 ?_
  refine lv_iconst (v := 0) C0.1 C0.2.1 dX9_describeList_24 (by decide) ?_
  obtain ⟨M_11, h_10, hf⟩ := ob_some hf
  refine k_v C1 hI (q_V C0 C1 hI 371 (c_J4_setLength_d00df_l l g X r b H.size n M_9 T0 0 h_10) w_1143 w_1144 w_1145 w_81 w_1146 ⟨rfl, rfl⟩ hd_J4_setLength_d00df ⟨Nat.le_of_ble_eq_true rfl, Nat.le_of_ble_eq_true rfl⟩ (kdlt13 (rfl : kdI 371 = 13)) (shI_13 (rfl : kdI 371 = 13) _) rfl rfl rfl hl.1 rfl (Nat.le_of_ble_eq_true rfl) dX9_describeList_25 ⟨Nat.le_of_ble_eq_true rfl, Nat.le_of_ble_eq_true rfl⟩) (fun H locs hI => ?_)
  refine lv_iconst (v := 0) C0.1 C0.2.1 dX9_describeList_28 (by decide) ?_
  refine lv_istore_n (lv' := [(3, .int 0), (2, .ref (b (1 + 6 + 1 + 4 * ix x1))), (0, .ref (b 0)), (1, .int x1)]) C0.1 C0.2.1 dX9_describeList_29 rfl hl (by decide) rfl (fun ls hl => ?_)
  have L30 : ∀ (k30 : Nat) (x3_30 : Int32) (T : Mem) (M : Mem), k30 ≤ 13 → Fg_X9_describeList_L30 n x1 k30 x3_30 T M = some (q0, T', M') → ∀ (r9 : Nat → Nat) (X9 : va_W) (H : Heap) (locs : List Loc) (ls : Array Slot), GX g X (AA (xb g r T0 ++ X) b 372 s.heap.size) r9 T X9 b s → PI g (xb g r9 T ++ X9) 372 (shI g r9 b) b s M H locs → lv_has ls 5 [(0, .ref (b 0)), (2, .ref (b (1 + 6 + 1 + 4 * ix x1))), (3, .int x3_30)] → W p l e (rmD 11 40 3200) s m ([.ref (b 0), .int x1] : List Value).toArray below meth c H locs (1 + 3 * (13 - k30)) (80 * (1 + 3 * (13 - k30))) (vx_MQ below (QgX g X (AA (xb g r T0 ++ X) b 372 s.heap.size) b s.heap.size q0 T' M') (XcX g (xb g r T0 ++ X) 372 (shI g r b) b s.heap.size q0 M') ([.ref (b 0), .int x1] : List Value).toArray s 40 3200 (AA (xb g r T0 ++ X) b 372 s.heap.size)) (F0 m 30 ls []) := by
    intro k30
    induction k30 with
    | zero => intro x3_30 T M _ hf; exact absurd (show (none : Option (RX Int32 × Mem × Mem)) = some (q0, T', M') from hf) (fun h => by cases h)
    | succ k30 ih30 =>
      intro x3_30 T M hkv hf r9 X9 H locs ls hG hI hl
      have C1 := hG.1
      unfold Fg_X9_describeList_L30 at hf
      obtain ⟨ca, hca⟩ : ∃ z : Nat, z = 1 + 3 * (13 - (k30 + 1)) := ⟨_, rfl⟩
      rw [← hca]
      refine lv_iload_n C0.1 C0.2.1 dX9_describeList_30 rfl (lv_at hl 2 rfl) ?_
      refine lv_aload_n C0.1 C0.2.1 dX9_describeList_31 rfl (lv_at hl 1 rfl) ?_
      refine r_getN (C := RX6) (T := TX6) (N9 := 12) (ci := 8) C0 C1 hI iX6 rfl (1 + 6 + 1 + 4 * ix x1) 2 (kdlt5 (kd4_i (kd1_6 (rfl : kdI 1 = 1)) h_7)) (by decide) ((shI_5 (kd4_i (kd1_6 (rfl : kdI 1 = 1)) h_7)) _) rfl rfl 3 rfl dX9_describeList_32 ?_
      refine lv_icmp_ge (tgt := 99) C0.1 C0.2.1 dX9_describeList_35 (by decide) (fun c_30_1 => ?_) (fun c_30_1 => ?_)
      · have hf := (if_pos c_30_1).symm.trans hf
        refine lv_aload_n C0.1 C0.2.1 dX9_describeList_99 rfl (lv_at hl 1 rfl) ?_
        refine r_getN (C := RX6) (T := TX6) (N9 := 12) (ci := 8) C0 C1 hI iX6 rfl (1 + 6 + 1 + 4 * ix x1) 3 (kdlt5 (kd4_i (kd1_6 (rfl : kdI 1 = 1)) h_7)) (by decide) ((shI_5 (kd4_i (kd1_6 (rfl : kdI 1 = 1)) h_7)) _) rfl rfl 6 rfl dX9_describeList_100 ?_
        refine lv_if_eq (tgt := 116) C0.1 C0.2.1 dX9_describeList_103 (by decide) (fun c_30_2 => ?_) (fun c_30_2 => ?_)
        · have hf := (if_pos c_30_2).symm.trans hf
          refine lv_aload_n C0.1 C0.2.1 dX9_describeList_116 rfl (lv_at hl 0 rfl) ?_
          refine r_get (C := RX9) (T := TX9) (N9 := 11) (ci := 10) C0 C1 hI iX9 rfl 0 8 (kdlt0 (rfl : kdI 0 = 0)) (by decide) ((shI_0 (rfl : kdI 0 = 0)) _) rfl rfl w_350 dX9_describeList_117 ?_
          obtain ⟨r_30_4, h_30_3, hf⟩ := ob_some hf
          refine k_i C1 hI (q_V C0 C1 hI 371 (c_J4_length_8abf5_l l g X9 r9 b H.size n M T h_30_3) w_959 w_960 w_961 w_81 w_962 ⟨rfl, rfl⟩ hd_J4_length_8abf5 ⟨Nat.le_of_ble_eq_true rfl, Nat.le_of_ble_eq_true rfl⟩ (kdlt13 (rfl : kdI 371 = 13)) (shI_13 (rfl : kdI 371 = 13) _) rfl rfl rfl hl.1 rfl (Nat.le_of_ble_eq_true rfl) dX9_describeList_120 ⟨by show _ ≤ 40; omega, by show _ ≤ 3200; omega⟩) (fun H locs hI => ?_)
          refine W.widen (k := 40) (n := 3200) (by omega) (by omega) ?_
          exact eg_x C0 hG hI hr hlocks hf dX9_describeList_123
        · have hf := (if_neg c_30_2).symm.trans hf
          refine lv_aload_n C0.1 C0.2.1 dX9_describeList_106 rfl (lv_at hl 0 rfl) ?_
          refine r_get (C := RX9) (T := TX9) (N9 := 11) (ci := 10) C0 C1 hI iX9 rfl 0 8 (kdlt0 (rfl : kdI 0 = 0)) (by decide) ((shI_0 (rfl : kdI 0 = 0)) _) rfl rfl w_350 dX9_describeList_107 ?_
          refine lv_bipush (v := 124) C0.1 C0.2.1 dX9_describeList_110 (by decide) ?_
          obtain ⟨T_30_6, M_30_7, h_30_5, hf⟩ := ogu_some hf
          refine kg_r hG hI (q_V C0 C1 hI 371 (cg_J4_append_cf468_l l g X9 r9 b H.size n M T 124 h_30_5) w_967 w_968 w_969 w_81 w_970 ⟨rfl, rfl⟩ hd_J4_append_cf468 ⟨Nat.le_of_ble_eq_true rfl, Nat.le_of_ble_eq_true rfl⟩ (kdlt13 (rfl : kdI 371 = 13)) (shI_13 (rfl : kdI 371 = 13) _) rfl rfl rfl hl.1 rfl (Nat.le_of_ble_eq_true rfl) dX9_describeList_112 ⟨by show _ ≤ 40; omega, by show _ ≤ 3200; omega⟩) (fun r_30_8 X_30_9 H locs hG hI => ?_)
          have C1 := hG.1
          refine lv_pop C0.1 C0.2.1 dX9_describeList_115 rfl ?_
          refine lv_aload_n C0.1 C0.2.1 dX9_describeList_116 rfl (lv_at hl 0 rfl) ?_
          refine r_get (C := RX9) (T := TX9) (N9 := 11) (ci := 10) C0 C1 hI iX9 rfl 0 8 (kdlt0 (rfl : kdI 0 = 0)) (by decide) ((shI_0 (rfl : kdI 0 = 0)) _) rfl rfl w_350 dX9_describeList_117 ?_
          obtain ⟨r_30_11, h_30_10, hf⟩ := ob_some hf
          refine k_i C1 hI (q_V C0 C1 hI 371 (c_J4_length_8abf5_l l g X_30_9 r_30_8 b H.size n M_30_7 T_30_6 h_30_10) w_959 w_960 w_961 w_81 w_962 ⟨rfl, rfl⟩ hd_J4_length_8abf5 ⟨Nat.le_of_ble_eq_true rfl, Nat.le_of_ble_eq_true rfl⟩ (kdlt13 (rfl : kdI 371 = 13)) (shI_13 (rfl : kdI 371 = 13) _) rfl rfl rfl hl.1 rfl (Nat.le_of_ble_eq_true rfl) dX9_describeList_120 ⟨by show _ ≤ 40; omega, by show _ ≤ 3200; omega⟩) (fun H locs hI => ?_)
          refine W.widen (k := 40) (n := 3200) (by omega) (by omega) ?_
          exact eg_x C0 hG hI hr hlocks hf dX9_describeList_123
      · have hf := (if_neg c_30_1).symm.trans hf
        refine lv_iload_n C0.1 C0.2.1 dX9_describeList_38 rfl (lv_at hl 2 rfl) ?_
        refine lv_if_le (tgt := 52) C0.1 C0.2.1 dX9_describeList_39 (by decide) (fun c_30_12 => ?_) (fun c_30_12 => ?_)
        · have hf := (if_pos c_30_12).symm.trans hf
          refine lv_aload_n C0.1 C0.2.1 dX9_describeList_52 rfl (lv_at hl 0 rfl) ?_
          refine r_get (C := RX9) (T := TX9) (N9 := 11) (ci := 10) C0 C1 hI iX9 rfl 0 5 (kdlt0 (rfl : kdI 0 = 0)) (by decide) ((shI_0 (rfl : kdI 0 = 0)) _) rfl rfl w_347 dX9_describeList_53 ?_
          obtain ⟨r_30_14, M_30_15, h_30_13, hf⟩ := ob2_some hf
          refine k_i C1 hI (q_VN C0 C1 hI 344 (c_X8_takeFirst l g (xb g r9 T ++ X9) r9 b H.size n M 344 (rfl : kdI 344 = 8) h_30_13) 12 rfl w_616 w_9 w_75 w_617 ⟨rfl, rfl⟩ hd_X8_takeFirst ⟨Nat.le_of_ble_eq_true rfl, Nat.le_of_ble_eq_true rfl⟩ (kdlt8 (rfl : kdI 344 = 8)) ((shI_8 (rfl : kdI 344 = 8)) _) rfl rfl rfl hl.1 rfl (Nat.le_of_ble_eq_true rfl) dX9_describeList_56 ⟨by show _ ≤ 40; omega, by show _ ≤ 3200; omega⟩) (fun H locs hI => ?_)
          refine lv_istore (lv' := [(4, .int r_30_14), (0, .ref (b 0)), (2, .ref (b (1 + 6 + 1 + 4 * ix x1))), (3, .int x3_30)]) C0.1 C0.2.1 dX9_describeList_59 hl (by decide) rfl (fun ls hl => ?_)
          refine lv_aload_n C0.1 C0.2.1 dX9_describeList_61 rfl (lv_at hl 1 rfl) ?_
          refine r_get (C := RX9) (T := TX9) (N9 := 11) (ci := 10) C0 C1 hI iX9 rfl 0 8 (kdlt0 (rfl : kdI 0 = 0)) (by decide) ((shI_0 (rfl : kdI 0 = 0)) _) rfl rfl w_350 dX9_describeList_62 ?_
          refine lv_iload C0.1 C0.2.1 dX9_describeList_65 (lv_at hl 0 rfl) ?_
          obtain ⟨T_30_17, M_30_18, h_30_16, hf⟩ := ogu_some hf
          refine kg_r hG hI (q_V C0 C1 hI 371 (cg_J4_append_bf812_l l g X9 r9 b H.size n M_30_15 T r_30_14 h_30_16) w_1418 w_1198 w_1199 w_81 w_1200 ⟨rfl, rfl⟩ hd_J4_append_bf812 ⟨Nat.le_of_ble_eq_true rfl, Nat.le_of_ble_eq_true rfl⟩ (kdlt13 (rfl : kdI 371 = 13)) (shI_13 (rfl : kdI 371 = 13) _) rfl rfl rfl hl.1 rfl (Nat.le_of_ble_eq_true rfl) dX9_describeList_67 ⟨by show _ ≤ 40; omega, by show _ ≤ 3200; omega⟩) (fun r_30_19 X_30_20 H locs hG hI => ?_)
          have C1 := hG.1
          refine lv_pop C0.1 C0.2.1 dX9_describeList_70 rfl ?_
          refine lv_aload_n C0.1 C0.2.1 dX9_describeList_71 rfl (lv_at hl 1 rfl) ?_
          refine r_get (C := RX9) (T := TX9) (N9 := 11) (ci := 10) C0 C1 hI iX9 rfl 0 0 (kdlt0 (rfl : kdI 0 = 0)) (by decide) ((shI_0 (rfl : kdI 0 = 0)) _) rfl rfl w_342 dX9_describeList_72 ?_
          refine lv_iload C0.1 C0.2.1 dX9_describeList_75 (lv_at hl 0 rfl) ?_
          obtain ⟨r_30_22, h_30_21, hf⟩ := ob_some hf
          refine k_i C1 hI (q_VN C0 C1 hI 1 (c_X2_sits l g (xb g r_30_19 T_30_17 ++ X_30_20) r_30_19 b H.size n M_30_18 1 (rfl : kdI 1 = 1) r_30_14 h_30_21) 47 rfl w_803 w_28 w_72 w_804 ⟨rfl, rfl⟩ hd_X2_sits ⟨Nat.le_of_ble_eq_true rfl, Nat.le_of_ble_eq_true rfl⟩ (kdlt1 (rfl : kdI 1 = 1)) ((shI_1 (rfl : kdI 1 = 1)) _) rfl rfl rfl hl.1 rfl (Nat.le_of_ble_eq_true rfl) dX9_describeList_77 ⟨by show _ ≤ 40; omega, by show _ ≤ 3200; omega⟩) (fun H locs hI => ?_)
          refine lv_if_ne (tgt := 93) C0.1 C0.2.1 dX9_describeList_80 (by decide) (fun c_30_23 => ?_) (fun c_30_23 => ?_)
          · have hf := (if_neg c_30_23).symm.trans hf
            obtain ⟨x3_30_24, e_30_25⟩ : ∃ z : Int32, z = x3_30 + 1 := ⟨_, rfl⟩
            have hf := lt_at e_30_25 hf
            refine lv_iinc (v := x3_30_24) (lv' := [(3, .int x3_30_24), (4, .int r_30_14), (0, .ref (b 0)), (2, .ref (b (1 + 6 + 1 + 4 * ix x1)))]) C0.1 C0.2.1 dX9_describeList_93 hl (k := 3) rfl (by rw [e_30_25]; rfl) (by decide) rfl (fun ls hl => ?_)
            refine lv_goto (tgt := 30) C0.1 C0.2.1 dX9_describeList_96 (by decide) ?_
            refine W.widen (k := 1 + 3 * (13 - k30)) (n := 80 * (1 + 3 * (13 - k30))) (by omega) (by omega) ?_
            exact ih30 x3_30_24 T_30_17 M_30_18 (by omega) hf r_30_19 X_30_20 H locs ls hG hI (lv_sub hl [2, 3, 0] rfl)
          · have hf := (if_pos c_30_23).symm.trans hf
            refine lv_aload_n C0.1 C0.2.1 dX9_describeList_83 rfl (lv_at hl 1 rfl) ?_
            refine r_get (C := RX9) (T := TX9) (N9 := 11) (ci := 10) C0 C1 hI iX9 rfl 0 8 (kdlt0 (rfl : kdI 0 = 0)) (by decide) ((shI_0 (rfl : kdI 0 = 0)) _) rfl rfl w_350 dX9_describeList_84 ?_
            refine lv_bipush (v := 126) C0.1 C0.2.1 dX9_describeList_87 (by decide) ?_
            obtain ⟨T_30_27, M_30_28, h_30_26, hf⟩ := ogu_some hf
            refine kg_r hG hI (q_V C0 C1 hI 371 (cg_J4_append_cf468_l l g X_30_20 r_30_19 b H.size n M_30_18 T_30_17 126 h_30_26) w_967 w_968 w_969 w_81 w_970 ⟨rfl, rfl⟩ hd_J4_append_cf468 ⟨Nat.le_of_ble_eq_true rfl, Nat.le_of_ble_eq_true rfl⟩ (kdlt13 (rfl : kdI 371 = 13)) (shI_13 (rfl : kdI 371 = 13) _) rfl rfl rfl hl.1 rfl (Nat.le_of_ble_eq_true rfl) dX9_describeList_89 ⟨by show _ ≤ 40; omega, by show _ ≤ 3200; omega⟩) (fun r_30_29 X_30_30 H locs hG hI => ?_)
            have C1 := hG.1
            refine lv_pop C0.1 C0.2.1 dX9_describeList_92 rfl ?_
            obtain ⟨x3_30_31, e_30_32⟩ : ∃ z : Int32, z = x3_30 + 1 := ⟨_, rfl⟩
            have hf := lt_at e_30_32 hf
            refine lv_iinc (v := x3_30_31) (lv' := [(3, .int x3_30_31), (4, .int r_30_14), (0, .ref (b 0)), (2, .ref (b (1 + 6 + 1 + 4 * ix x1)))]) C0.1 C0.2.1 dX9_describeList_93 hl (k := 3) rfl (by rw [e_30_32]; rfl) (by decide) rfl (fun ls hl => ?_)
            refine lv_goto (tgt := 30) C0.1 C0.2.1 dX9_describeList_96 (by decide) ?_
            refine W.widen (k := 1 + 3 * (13 - k30)) (n := 80 * (1 + 3 * (13 - k30))) (by omega) (by omega) ?_
            exact ih30 x3_30_31 T_30_27 M_30_28 (by omega) hf r_30_29 X_30_30 H locs ls hG hI (lv_sub hl [2, 3, 0] rfl)
        · have hf := (if_neg c_30_12).symm.trans hf
          refine lv_aload_n C0.1 C0.2.1 dX9_describeList_42 rfl (lv_at hl 0 rfl) ?_
          refine r_get (C := RX9) (T := TX9) (N9 := 11) (ci := 10) C0 C1 hI iX9 rfl 0 8 (kdlt0 (rfl : kdI 0 = 0)) (by decide) ((shI_0 (rfl : kdI 0 = 0)) _) rfl rfl w_350 dX9_describeList_43 ?_
          refine lv_bipush (v := 44) C0.1 C0.2.1 dX9_describeList_46 (by decide) ?_
          obtain ⟨T_30_34, M_30_35, h_30_33, hf⟩ := ogu_some hf
          refine kg_r hG hI (q_V C0 C1 hI 371 (cg_J4_append_cf468_l l g X9 r9 b H.size n M T 44 h_30_33) w_967 w_968 w_969 w_81 w_970 ⟨rfl, rfl⟩ hd_J4_append_cf468 ⟨Nat.le_of_ble_eq_true rfl, Nat.le_of_ble_eq_true rfl⟩ (kdlt13 (rfl : kdI 371 = 13)) (shI_13 (rfl : kdI 371 = 13) _) rfl rfl rfl hl.1 rfl (Nat.le_of_ble_eq_true rfl) dX9_describeList_48 ⟨by show _ ≤ 40; omega, by show _ ≤ 3200; omega⟩) (fun r_30_36 X_30_37 H locs hG hI => ?_)
          have C1 := hG.1
          refine lv_pop C0.1 C0.2.1 dX9_describeList_51 rfl ?_
          refine lv_aload_n C0.1 C0.2.1 dX9_describeList_52 rfl (lv_at hl 0 rfl) ?_
          refine r_get (C := RX9) (T := TX9) (N9 := 11) (ci := 10) C0 C1 hI iX9 rfl 0 5 (kdlt0 (rfl : kdI 0 = 0)) (by decide) ((shI_0 (rfl : kdI 0 = 0)) _) rfl rfl w_347 dX9_describeList_53 ?_
          obtain ⟨r_30_39, M_30_40, h_30_38, hf⟩ := ob2_some hf
          refine k_i C1 hI (q_VN C0 C1 hI 344 (c_X8_takeFirst l g (xb g r_30_36 T_30_34 ++ X_30_37) r_30_36 b H.size n M_30_35 344 (rfl : kdI 344 = 8) h_30_38) 12 rfl w_616 w_9 w_75 w_617 ⟨rfl, rfl⟩ hd_X8_takeFirst ⟨Nat.le_of_ble_eq_true rfl, Nat.le_of_ble_eq_true rfl⟩ (kdlt8 (rfl : kdI 344 = 8)) ((shI_8 (rfl : kdI 344 = 8)) _) rfl rfl rfl hl.1 rfl (Nat.le_of_ble_eq_true rfl) dX9_describeList_56 ⟨by show _ ≤ 40; omega, by show _ ≤ 3200; omega⟩) (fun H locs hI => ?_)
          refine lv_istore (lv' := [(4, .int r_30_39), (0, .ref (b 0)), (2, .ref (b (1 + 6 + 1 + 4 * ix x1))), (3, .int x3_30)]) C0.1 C0.2.1 dX9_describeList_59 hl (by decide) rfl (fun ls hl => ?_)
          refine lv_aload_n C0.1 C0.2.1 dX9_describeList_61 rfl (lv_at hl 1 rfl) ?_
          refine r_get (C := RX9) (T := TX9) (N9 := 11) (ci := 10) C0 C1 hI iX9 rfl 0 8 (kdlt0 (rfl : kdI 0 = 0)) (by decide) ((shI_0 (rfl : kdI 0 = 0)) _) rfl rfl w_350 dX9_describeList_62 ?_
          refine lv_iload C0.1 C0.2.1 dX9_describeList_65 (lv_at hl 0 rfl) ?_
          obtain ⟨T_30_42, M_30_43, h_30_41, hf⟩ := ogu_some hf
          refine kg_r hG hI (q_V C0 C1 hI 371 (cg_J4_append_bf812_l l g X_30_37 r_30_36 b H.size n M_30_40 T_30_34 r_30_39 h_30_41) w_1418 w_1198 w_1199 w_81 w_1200 ⟨rfl, rfl⟩ hd_J4_append_bf812 ⟨Nat.le_of_ble_eq_true rfl, Nat.le_of_ble_eq_true rfl⟩ (kdlt13 (rfl : kdI 371 = 13)) (shI_13 (rfl : kdI 371 = 13) _) rfl rfl rfl hl.1 rfl (Nat.le_of_ble_eq_true rfl) dX9_describeList_67 ⟨by show _ ≤ 40; omega, by show _ ≤ 3200; omega⟩) (fun r_30_44 X_30_45 H locs hG hI => ?_)
          have C1 := hG.1
          refine lv_pop C0.1 C0.2.1 dX9_describeList_70 rfl ?_
          refine lv_aload_n C0.1 C0.2.1 dX9_describeList_71 rfl (lv_at hl 1 rfl) ?_
          refine r_get (C := RX9) (T := TX9) (N9 := 11) (ci := 10) C0 C1 hI iX9 rfl 0 0 (kdlt0 (rfl : kdI 0 = 0)) (by decide) ((shI_0 (rfl : kdI 0 = 0)) _) rfl rfl w_342 dX9_describeList_72 ?_
          refine lv_iload C0.1 C0.2.1 dX9_describeList_75 (lv_at hl 0 rfl) ?_
          obtain ⟨r_30_47, h_30_46, hf⟩ := ob_some hf
          refine k_i C1 hI (q_VN C0 C1 hI 1 (c_X2_sits l g (xb g r_30_44 T_30_42 ++ X_30_45) r_30_44 b H.size n M_30_43 1 (rfl : kdI 1 = 1) r_30_39 h_30_46) 47 rfl w_803 w_28 w_72 w_804 ⟨rfl, rfl⟩ hd_X2_sits ⟨Nat.le_of_ble_eq_true rfl, Nat.le_of_ble_eq_true rfl⟩ (kdlt1 (rfl : kdI 1 = 1)) ((shI_1 (rfl : kdI 1 = 1)) _) rfl rfl rfl hl.1 rfl (Nat.le_of_ble_eq_true rfl) dX9_describeList_77 ⟨by show _ ≤ 40; omega, by show _ ≤ 3200; omega⟩) (fun H locs hI => ?_)
          refine lv_if_ne (tgt := 93) C0.1 C0.2.1 dX9_describeList_80 (by decide) (fun c_30_48 => ?_) (fun c_30_48 => ?_)
          · have hf := (if_neg c_30_48).symm.trans hf
            obtain ⟨x3_30_49, e_30_50⟩ : ∃ z : Int32, z = x3_30 + 1 := ⟨_, rfl⟩
            have hf := lt_at e_30_50 hf
            refine lv_iinc (v := x3_30_49) (lv' := [(3, .int x3_30_49), (4, .int r_30_39), (0, .ref (b 0)), (2, .ref (b (1 + 6 + 1 + 4 * ix x1)))]) C0.1 C0.2.1 dX9_describeList_93 hl (k := 3) rfl (by rw [e_30_50]; rfl) (by decide) rfl (fun ls hl => ?_)
            refine lv_goto (tgt := 30) C0.1 C0.2.1 dX9_describeList_96 (by decide) ?_
            refine W.widen (k := 1 + 3 * (13 - k30)) (n := 80 * (1 + 3 * (13 - k30))) (by omega) (by omega) ?_
            exact ih30 x3_30_49 T_30_42 M_30_43 (by omega) hf r_30_44 X_30_45 H locs ls hG hI (lv_sub hl [2, 3, 0] rfl)
          · have hf := (if_pos c_30_48).symm.trans hf
            refine lv_aload_n C0.1 C0.2.1 dX9_describeList_83 rfl (lv_at hl 1 rfl) ?_
            refine r_get (C := RX9) (T := TX9) (N9 := 11) (ci := 10) C0 C1 hI iX9 rfl 0 8 (kdlt0 (rfl : kdI 0 = 0)) (by decide) ((shI_0 (rfl : kdI 0 = 0)) _) rfl rfl w_350 dX9_describeList_84 ?_
            refine lv_bipush (v := 126) C0.1 C0.2.1 dX9_describeList_87 (by decide) ?_
            obtain ⟨T_30_52, M_30_53, h_30_51, hf⟩ := ogu_some hf
            refine kg_r hG hI (q_V C0 C1 hI 371 (cg_J4_append_cf468_l l g X_30_45 r_30_44 b H.size n M_30_43 T_30_42 126 h_30_51) w_967 w_968 w_969 w_81 w_970 ⟨rfl, rfl⟩ hd_J4_append_cf468 ⟨Nat.le_of_ble_eq_true rfl, Nat.le_of_ble_eq_true rfl⟩ (kdlt13 (rfl : kdI 371 = 13)) (shI_13 (rfl : kdI 371 = 13) _) rfl rfl rfl hl.1 rfl (Nat.le_of_ble_eq_true rfl) dX9_describeList_89 ⟨by show _ ≤ 40; omega, by show _ ≤ 3200; omega⟩) (fun r_30_54 X_30_55 H locs hG hI => ?_)
            have C1 := hG.1
            refine lv_pop C0.1 C0.2.1 dX9_describeList_92 rfl ?_
            obtain ⟨x3_30_56, e_30_57⟩ : ∃ z : Int32, z = x3_30 + 1 := ⟨_, rfl⟩
            have hf := lt_at e_30_57 hf
            refine lv_iinc (v := x3_30_56) (lv' := [(3, .int x3_30_56), (4, .int r_30_39), (0, .ref (b 0)), (2, .ref (b (1 + 6 + 1 + 4 * ix x1)))]) C0.1 C0.2.1 dX9_describeList_93 hl (k := 3) rfl (by rw [e_30_57]; rfl) (by decide) rfl (fun ls hl => ?_)
            refine lv_goto (tgt := 30) C0.1 C0.2.1 dX9_describeList_96 (by decide) ?_
            refine W.widen (k := 1 + 3 * (13 - k30)) (n := 80 * (1 + 3 * (13 - k30))) (by omega) (by omega) ?_
            exact ih30 x3_30_56 T_30_52 M_30_53 (by omega) hf r_30_54 X_30_55 H locs ls hG hI (lv_sub hl [2, 3, 0] rfl)
  refine W.widen (k := 1 + 3 * (13 - 13)) (n := 80 * (1 + 3 * (13 - 13))) (by omega) (by omega) ?_
  exact L30 13 0 T0 M_11 (by omega) hf r X H locs ls hG hI (lv_sub hl [2, 1, 0] rfl)

def F_X9_run (n : Nat) (T : Mem) (M : Mem) : Option (RX Int32 × Mem) :=
  ob2 (F_X4_read n T 346 M) (fun r_2 M_3 => ob (F_J4_setLength_d00df_t n T 0 M_3) (fun M_5 => (if r_2 = 0 then lt' (up2 M_5 0 9 (M_5 346 2)) (fun M_19 => some (.inl 1, M_19)) else ob (F_X2_copyFrom n 32 1 M_5) (fun M_8 => ob2 (F_X9_carryOutCommands n M_8) (fun r_10 M_11 => (if (M_11 346 1) ≤ r_10 then ob (F_X5_push n 94 32 M_11) (fun M_14 => some (.inr r_10, M_14)) else ob (F_X2_copyFrom n 1 32 M_11) (fun M_16 => lt' (up2 M_16 0 10 r_10) (fun M_17 => some (.inl 0, M_17)))))))))
theorem hd_X9_run : yX9_run.cls ≠ "java/lang/invoke/MethodHandle" ∧ yX9_run.cls ≠ "java/lang/invoke/VarHandle" ∧ (parseMethodDescriptor yX9_run.desc).map (fun d => d.parameters.length) = some 0 := ⟨by decide +kernel, by decide +kernel, by decide +kernel⟩
set_option maxHeartbeats 4000000 in
set_option maxRecDepth 100000 in
theorem c_X9_run (l : Launch) (hl0 : l.stackTraces = false) (g : GG) (X : va_W) (r : Nat → Nat) (b : Nat → Nat) (sz n : Nat) (M : Mem) (T : Mem) {q0 : RX Int32} {M' : Mem} (hf : F_X9_run n T M = some (q0, M')) : vx_Met l yX9_run (.code yX9_run cX9_run 3 (some .int) :: LWg) (rmD 10 1 6) (va_Pc [.ref (b 0)] (PreP g (xb g r T ++ X) 372 (shI g r b) b sz M)) (QiX g (xb g r T ++ X) 372 (shI g r b) b sz q0 M') (XcX g (xb g r T ++ X) 372 (shI g r b) b sz q0 M') 1 6 (AA (xb g r T ++ X) b 372 sz) := by
  refine metx_go (by decide +kernel) rfl (Nat.le_of_ble_eq_true rfl) ?_
  intro p e s m below meth c ls H locs C0 C1 hr hlocks hno hsz hl hI
  subst hsz
  have hl : lv_has ls 3 [(0, .ref (b 0))] := hl
  unfold F_X9_run at hf
  refine lv_aload_n C0.1 C0.2.1 dX9_run_0 rfl (lv_at hl 0 rfl) ?_
  refine r_get (C := RX9) (T := TX9) (N9 := 11) (ci := 10) C0 C1 hI iX9 rfl 0 6 (kdlt0 (rfl : kdI 0 = 0)) (by decide) ((shI_0 (rfl : kdI 0 = 0)) _) rfl rfl w_348 dX9_run_1 ?_
  refine lv_aload_n C0.1 C0.2.1 dX9_run_4 rfl (lv_at hl 0 rfl) ?_
  refine r_get (C := RX9) (T := TX9) (N9 := 11) (ci := 10) C0 C1 hI iX9 rfl 0 7 (kdlt0 (rfl : kdI 0 = 0)) (by decide) ((shI_0 (rfl : kdI 0 = 0)) _) rfl rfl w_349 dX9_run_5 ?_
  obtain ⟨r_2, M_3, h_1, hf⟩ := ob2_some hf
  refine k_i C1 hI (q_VN C0 C1 hI 346 (c_X4_read l g X r b H.size n M T 346 (rfl : kdI 346 = 9) h_1) 40 rfl w_1069 w_45 w_76 w_1070 ⟨rfl, rfl⟩ hd_X4_read ⟨Nat.le_of_ble_eq_true rfl, Nat.le_of_ble_eq_true rfl⟩ (kdlt9 (rfl : kdI 346 = 9)) ((shI_9 (rfl : kdI 346 = 9)) _) rfl rfl rfl hl.1 rfl (Nat.le_of_ble_eq_true rfl) dX9_run_8 ⟨Nat.le_of_ble_eq_true rfl, Nat.le_of_ble_eq_true rfl⟩) (fun H locs hI => ?_)
  refine lv_istore_n (lv' := [(1, .int r_2), (0, .ref (b 0))]) C0.1 C0.2.1 dX9_run_11 rfl hl (by decide) rfl (fun ls hl => ?_)
  refine lv_aload_n C0.1 C0.2.1 dX9_run_12 rfl (lv_at hl 1 rfl) ?_
  refine r_get (C := RX9) (T := TX9) (N9 := 11) (ci := 10) C0 C1 hI iX9 rfl 0 7 (kdlt0 (rfl : kdI 0 = 0)) (by decide) ((shI_0 (rfl : kdI 0 = 0)) _) rfl rfl w_349 dX9_run_13 ?_
  refine lv_iconst (v := 0) C0.1 C0.2.1 dX9_run_16 (by decide) ?_
  obtain ⟨M_5, h_4, hf⟩ := ob_some hf
  refine k_v C1 hI (q_V C0 C1 hI 370 (c_J4_setLength_d00df_t l g X r b H.size n M_3 T 0 h_4) w_1143 w_1144 w_1145 w_81 w_1146 ⟨rfl, rfl⟩ hd_J4_setLength_d00df ⟨Nat.le_of_ble_eq_true rfl, Nat.le_of_ble_eq_true rfl⟩ (kdlt13 (rfl : kdI 370 = 13)) (shI_13 (rfl : kdI 370 = 13) _) rfl rfl rfl hl.1 rfl (Nat.le_of_ble_eq_true rfl) dX9_run_17 ⟨Nat.le_of_ble_eq_true rfl, Nat.le_of_ble_eq_true rfl⟩) (fun H locs hI => ?_)
  refine lv_iload_n C0.1 C0.2.1 dX9_run_20 rfl (lv_at hl 0 rfl) ?_
  refine lv_if_ne (tgt := 46) C0.1 C0.2.1 dX9_run_21 (by decide) (fun c_6 => ?_) (fun c_6 => ?_)
  · have hf := (if_neg c_6).symm.trans hf
    refine lv_aload_n C0.1 C0.2.1 dX9_run_46 rfl (lv_at hl 1 rfl) ?_
    refine r_get (C := RX9) (T := TX9) (N9 := 11) (ci := 10) C0 C1 hI iX9 rfl 0 1 (kdlt0 (rfl : kdI 0 = 0)) (by decide) ((shI_0 (rfl : kdI 0 = 0)) _) rfl rfl w_343 dX9_run_47 ?_
    refine lv_aload_n C0.1 C0.2.1 dX9_run_50 rfl (lv_at hl 1 rfl) ?_
    refine r_get (C := RX9) (T := TX9) (N9 := 11) (ci := 10) C0 C1 hI iX9 rfl 0 0 (kdlt0 (rfl : kdI 0 = 0)) (by decide) ((shI_0 (rfl : kdI 0 = 0)) _) rfl rfl w_342 dX9_run_51 ?_
    obtain ⟨M_8, h_7, hf⟩ := ob_some hf
    refine k_v C1 hI (q_VN C0 C1 hI 32 (c_X2_copyFrom l g (xb g r T ++ X) r b H.size n M_5 32 (rfl : kdI 32 = 1) 1 (rfl : kdI 1 = 1) h_7) 42 rfl w_727 w_18 w_72 w_728 ⟨rfl, rfl⟩ hd_X2_copyFrom ⟨Nat.le_of_ble_eq_true rfl, Nat.le_of_ble_eq_true rfl⟩ (kdlt1 (rfl : kdI 32 = 1)) ((shI_1 (rfl : kdI 32 = 1)) _) rfl rfl rfl hl.1 rfl (Nat.le_of_ble_eq_true rfl) dX9_run_54 ⟨Nat.le_of_ble_eq_true rfl, Nat.le_of_ble_eq_true rfl⟩) (fun H locs hI => ?_)
    refine lv_aload_n C0.1 C0.2.1 dX9_run_57 rfl (lv_at hl 1 rfl) ?_
    obtain ⟨r_10, M_11, h_9, hf⟩ := ob2_some hf
    refine k_i C1 hI (q_V C0 C1 hI 0 (c_X9_carryOutCommands l g (xb g r T ++ X) r b H.size n M_8 h_9) w_1313 w_1315 w_53 w_71 w_1316 ⟨rfl, rfl⟩ hd_X9_carryOutCommands ⟨Nat.le_of_ble_eq_true rfl, Nat.le_of_ble_eq_true rfl⟩ (kdlt0 (rfl : kdI 0 = 0)) ((shI_0 (rfl : kdI 0 = 0)) _) rfl rfl rfl hl.1 rfl (Nat.le_of_ble_eq_true rfl) dX9_run_58 ⟨Nat.le_of_ble_eq_true rfl, Nat.le_of_ble_eq_true rfl⟩) (fun H locs hI => ?_)
    refine lv_istore_n (lv' := [(2, .int r_10), (1, .int r_2), (0, .ref (b 0))]) C0.1 C0.2.1 dX9_run_61 rfl hl (by decide) rfl (fun ls hl => ?_)
    refine lv_iload_n C0.1 C0.2.1 dX9_run_62 rfl (lv_at hl 0 rfl) ?_
    refine lv_aload_n C0.1 C0.2.1 dX9_run_63 rfl (lv_at hl 2 rfl) ?_
    refine r_get (C := RX9) (T := TX9) (N9 := 11) (ci := 10) C0 C1 hI iX9 rfl 0 6 (kdlt0 (rfl : kdI 0 = 0)) (by decide) ((shI_0 (rfl : kdI 0 = 0)) _) rfl rfl w_348 dX9_run_64 ?_
    refine r_getN (C := RX4) (T := TX4) (N9 := 3) (ci := 6) C0 C1 hI iX4 rfl 346 1 (kdlt9 (rfl : kdI 346 = 9)) (by decide) ((shI_9 (rfl : kdI 346 = 9)) _) rfl rfl 38 rfl dX9_run_67 ?_
    refine lv_icmp_ge (tgt := 100) C0.1 C0.2.1 dX9_run_70 (by decide) (fun c_12 => ?_) (fun c_12 => ?_)
    · have hf := (if_pos c_12).symm.trans hf
      refine lv_aload_n C0.1 C0.2.1 dX9_run_100 rfl (lv_at hl 2 rfl) ?_
      refine r_get (C := RX9) (T := TX9) (N9 := 11) (ci := 10) C0 C1 hI iX9 rfl 0 4 (kdlt0 (rfl : kdI 0 = 0)) (by decide) ((shI_0 (rfl : kdI 0 = 0)) _) rfl rfl w_346 dX9_run_101 ?_
      refine lv_aload_n C0.1 C0.2.1 dX9_run_104 rfl (lv_at hl 2 rfl) ?_
      refine r_get (C := RX9) (T := TX9) (N9 := 11) (ci := 10) C0 C1 hI iX9 rfl 0 1 (kdlt0 (rfl : kdI 0 = 0)) (by decide) ((shI_0 (rfl : kdI 0 = 0)) _) rfl rfl w_343 dX9_run_105 ?_
      obtain ⟨M_14, h_13, hf⟩ := ob_some hf
      refine k_v C1 hI (q_VN C0 C1 hI 94 (c_X5_push l g (xb g r T ++ X) r b H.size n M_11 94 (rfl : kdI 94 = 6) 32 (rfl : kdI 32 = 1) h_13) 18 rfl w_723 w_17 w_74 w_724 ⟨rfl, rfl⟩ hd_X5_push ⟨Nat.le_of_ble_eq_true rfl, Nat.le_of_ble_eq_true rfl⟩ (kdlt6 (rfl : kdI 94 = 6)) ((shI_6 (rfl : kdI 94 = 6)) _) rfl rfl rfl hl.1 rfl (Nat.le_of_ble_eq_true rfl) dX9_run_108 ⟨Nat.le_of_ble_eq_true rfl, Nat.le_of_ble_eq_true rfl⟩) (fun H locs hI => ?_)
      refine lv_iload_n C0.1 C0.2.1 dX9_run_111 rfl (lv_at hl 0 rfl) ?_
      refine W.widen (k := 1) (n := 6) (Nat.le_of_ble_eq_true rfl) (Nat.le_of_ble_eq_true rfl) ?_
      exact ex_zm C0 hI hr hlocks rfl hf dX9_run_112
    · have hf := (if_neg c_12).symm.trans hf
      refine lv_aload_n C0.1 C0.2.1 dX9_run_73 rfl (lv_at hl 2 rfl) ?_
      refine r_get (C := RX9) (T := TX9) (N9 := 11) (ci := 10) C0 C1 hI iX9 rfl 0 0 (kdlt0 (rfl : kdI 0 = 0)) (by decide) ((shI_0 (rfl : kdI 0 = 0)) _) rfl rfl w_342 dX9_run_74 ?_
      refine lv_aload_n C0.1 C0.2.1 dX9_run_77 rfl (lv_at hl 2 rfl) ?_
      refine r_get (C := RX9) (T := TX9) (N9 := 11) (ci := 10) C0 C1 hI iX9 rfl 0 1 (kdlt0 (rfl : kdI 0 = 0)) (by decide) ((shI_0 (rfl : kdI 0 = 0)) _) rfl rfl w_343 dX9_run_78 ?_
      obtain ⟨M_16, h_15, hf⟩ := ob_some hf
      refine k_v C1 hI (q_VN C0 C1 hI 1 (c_X2_copyFrom l g (xb g r T ++ X) r b H.size n M_11 1 (rfl : kdI 1 = 1) 32 (rfl : kdI 32 = 1) h_15) 42 rfl w_727 w_18 w_72 w_728 ⟨rfl, rfl⟩ hd_X2_copyFrom ⟨Nat.le_of_ble_eq_true rfl, Nat.le_of_ble_eq_true rfl⟩ (kdlt1 (rfl : kdI 1 = 1)) ((shI_1 (rfl : kdI 1 = 1)) _) rfl rfl rfl hl.1 rfl (Nat.le_of_ble_eq_true rfl) dX9_run_81 ⟨Nat.le_of_ble_eq_true rfl, Nat.le_of_ble_eq_true rfl⟩) (fun H locs hI => ?_)
      refine lv_aload_n C0.1 C0.2.1 dX9_run_84 rfl (lv_at hl 2 rfl) ?_
      refine lv_iload_n C0.1 C0.2.1 dX9_run_85 rfl (lv_at hl 0 rfl) ?_
      refine r_put (C := RX9) (T := TX9) (N9 := 11) (ci := 10) (fs := fP b) (ty := .int) C0 C1 hI iX9 tyX9 tyX9_ok nmX9 rfl 0 10 (kdlt0 (rfl : kdI 0 = 0)) (by decide) (shI_0 (rfl : kdI 0 = 0)) rfl rfl rfl (by decide +kernel) ⟨rfl, rfl⟩ (Nat.le_of_ble_eq_true rfl) w_352 dX9_run_86 (fun H locs hI => ?_)
      obtain ⟨M_17, e_18⟩ : ∃ z : Mem, z = up2 M_16 0 10 r_10 := ⟨_, rfl⟩
      rw [← e_18] at hI
      have hf := lt_at e_18 hf
      exact r_throwWm C0 C1 hI hl0 hl.1 hno hlocks (E := 0) (sk := 26) rfl (by decide +kernel) (by decide +kernel) w_529 w_87 at_ISE ag_ISE dX9_run_89 dX9_run_92 dX9_run_93 dX9_run_96 dX9_run_99 (Nat.le_of_ble_eq_true rfl) (Nat.le_of_ble_eq_true rfl) (Nat.le_of_ble_eq_true rfl) (Nat.le_of_ble_eq_true rfl) hf (Nat.le_of_ble_eq_true rfl) (Nat.le_of_ble_eq_true rfl)
  · have hf := (if_pos c_6).symm.trans hf
    refine lv_aload_n C0.1 C0.2.1 dX9_run_24 rfl (lv_at hl 1 rfl) ?_
    refine lv_aload_n C0.1 C0.2.1 dX9_run_25 rfl (lv_at hl 1 rfl) ?_
    refine r_get (C := RX9) (T := TX9) (N9 := 11) (ci := 10) C0 C1 hI iX9 rfl 0 6 (kdlt0 (rfl : kdI 0 = 0)) (by decide) ((shI_0 (rfl : kdI 0 = 0)) _) rfl rfl w_348 dX9_run_26 ?_
    refine r_getN (C := RX4) (T := TX4) (N9 := 3) (ci := 6) C0 C1 hI iX4 rfl 346 2 (kdlt9 (rfl : kdI 346 = 9)) (by decide) ((shI_9 (rfl : kdI 346 = 9)) _) rfl rfl 39 rfl dX9_run_29 ?_
    refine r_put (C := RX9) (T := TX9) (N9 := 11) (ci := 10) (fs := fP b) (ty := .int) C0 C1 hI iX9 tyX9 tyX9_ok nmX9 rfl 0 9 (kdlt0 (rfl : kdI 0 = 0)) (by decide) (shI_0 (rfl : kdI 0 = 0)) rfl rfl rfl (by decide +kernel) ⟨rfl, rfl⟩ (Nat.le_of_ble_eq_true rfl) w_351 dX9_run_32 (fun H locs hI => ?_)
    obtain ⟨M_19, e_20⟩ : ∃ z : Mem, z = up2 M_5 0 9 (M_5 346 2) := ⟨_, rfl⟩
    rw [← e_20] at hI
    have hf := lt_at e_20 hf
    exact r_throwWm C0 C1 hI hl0 hl.1 hno hlocks (E := 1) (sk := 25) rfl (by decide +kernel) (by decide +kernel) w_509 w_99 at_IAE ag_IAE dX9_run_35 dX9_run_38 dX9_run_39 dX9_run_42 dX9_run_45 (Nat.le_of_ble_eq_true rfl) (Nat.le_of_ble_eq_true rfl) (Nat.le_of_ble_eq_true rfl) (Nat.le_of_ble_eq_true rfl) hf (Nat.le_of_ble_eq_true rfl) (Nat.le_of_ble_eq_true rfl)
