def F_X9_refuseRarer (n : Nat) (e0 : Nat) (M : Mem) : Option (RX Unit) :=
  chk (decide (e0 < 23)) (chk (inb (nI e0) 23) ((if (swRl.getD (ix (nI e0)) 0) = 18 then some (.inl 4) else if (swRl.getD (ix (nI e0)) 0) = 19 then some (.inl 4) else if (swRl.getD (ix (nI e0)) 0) = 20 then some (.inl 4) else if (swRl.getD (ix (nI e0)) 0) = 21 then some (.inl 5) else if (swRl.getD (ix (nI e0)) 0) = 22 then some (.inl 5) else some (.inr ()))))
theorem hd_X9_refuseRarer : yX9_refuseRarer.cls ≠ "java/lang/invoke/MethodHandle" ∧ yX9_refuseRarer.cls ≠ "java/lang/invoke/VarHandle" ∧ (parseMethodDescriptor yX9_refuseRarer.desc).map (fun d => d.parameters.length) = some 1 := ⟨by decide +kernel, by decide +kernel, by decide +kernel⟩
set_option maxHeartbeats 4000000 in
set_option maxRecDepth 100000 in
theorem c_X9_refuseRarer (l : Launch) (hl0 : l.stackTraces = false) (g : GG) (X : va_W) (r : Nat → Nat) (b : Nat → Nat) (sz n : Nat) (M : Mem) (e0 : Nat) {q0 : RX Unit} (hf : F_X9_refuseRarer n e0 M = some q0) : vx_Met l yX9_refuseRarer (.code yX9_refuseRarer cX9_refuseRarer 1 none :: LWg) (rmD 8 1 6) (va_Pc [.ref (g.2.2 0 e0)] (PreP g X 372 (shI g r b) b sz M)) (QvX g X 372 (shI g r b) b sz q0 M) (XcX g X 372 (shI g r b) b sz q0 M) 1 6 (AA X b 372 sz) := by
  refine metx_go (by decide +kernel) rfl (Nat.le_of_ble_eq_true rfl) ?_
  intro p e s m below meth c ls H locs C0 C1 hr hlocks hno hsz hl hI
  subst hsz
  have hl : lv_has ls 1 [(0, .ref (g.2.2 0 e0))] := hl
  unfold F_X9_refuseRarer at hf
  refine r_swR C0 C1 hI w_426 dX9_refuseRarer_0 ?_
  refine lv_aload_n C0.1 C0.2.1 dX9_refuseRarer_3 rfl (lv_at hl 0 rfl) ?_
  obtain ⟨h_1, hf⟩ := chk_some hf
  refine r_ordR C0 C1 hI hl.1 e0 (of_decide_eq_true h_1) w_428 ⟨Nat.le_of_ble_eq_true rfl, Nat.le_of_ble_eq_true rfl⟩ ⟨Nat.le_of_ble_eq_true rfl, Nat.le_of_ble_eq_true rfl⟩ (Nat.le_of_ble_eq_true rfl) dX9_refuseRarer_4 (fun H locs hI => ?_)
  obtain ⟨h_2, hf⟩ := chk_some hf
  refine r_swRld C0 C1 hI h_2 dX9_refuseRarer_7 ?_
  by_cases c_3 : (swRl.getD (ix (nI e0)) 0) = 18
  · have hf := (if_pos c_3).symm.trans hf
    refine lv_tableIn (off := 36) (tgt := 44) C0.1 C0.2.1 dX9_refuseRarer_8 (by rw [c_3]; decide) (by rw [c_3]; decide) (by rw [c_3]; rfl) (by decide) ?_
    exact r_throwW C0 C1 hI hl0 hl.1 hno hlocks (E := 4) (sk := 17) rfl (by decide +kernel) (by decide +kernel) w_555 w_103 at_UOE ag_UOE dX9_refuseRarer_44 dX9_refuseRarer_47 dX9_refuseRarer_48 dX9_refuseRarer_51 dX9_refuseRarer_54 (Nat.le_of_ble_eq_true rfl) (Nat.le_of_ble_eq_true rfl) (Nat.le_of_ble_eq_true rfl) (Nat.le_of_ble_eq_true rfl) hf (Nat.le_of_ble_eq_true rfl) (Nat.le_of_ble_eq_true rfl)
  have hf := (if_neg c_3).symm.trans hf
  by_cases c_4 : (swRl.getD (ix (nI e0)) 0) = 19
  · have hf := (if_pos c_4).symm.trans hf
    refine lv_tableIn (off := 47) (tgt := 55) C0.1 C0.2.1 dX9_refuseRarer_8 (by rw [c_4]; decide) (by rw [c_4]; decide) (by rw [c_4]; rfl) (by decide) ?_
    exact r_throwS C0 C1 hI hl0 hl.1 hno hlocks (E := 4) (sk := 12) rfl (by decide +kernel) (by decide +kernel) w_555 w_103 at_UOE ag_UOE dX9_refuseRarer_55 dX9_refuseRarer_58 dX9_refuseRarer_59 dX9_refuseRarer_61 dX9_refuseRarer_64 (Nat.le_of_ble_eq_true rfl) (Nat.le_of_ble_eq_true rfl) (Nat.le_of_ble_eq_true rfl) (Nat.le_of_ble_eq_true rfl) hf (Nat.le_of_ble_eq_true rfl) (Nat.le_of_ble_eq_true rfl)
  have hf := (if_neg c_4).symm.trans hf
  by_cases c_5 : (swRl.getD (ix (nI e0)) 0) = 20
  · have hf := (if_pos c_5).symm.trans hf
    refine lv_tableIn (off := 57) (tgt := 65) C0.1 C0.2.1 dX9_refuseRarer_8 (by rw [c_5]; decide) (by rw [c_5]; decide) (by rw [c_5]; rfl) (by decide) ?_
    exact r_throwW C0 C1 hI hl0 hl.1 hno hlocks (E := 4) (sk := 18) rfl (by decide +kernel) (by decide +kernel) w_555 w_103 at_UOE ag_UOE dX9_refuseRarer_65 dX9_refuseRarer_68 dX9_refuseRarer_69 dX9_refuseRarer_72 dX9_refuseRarer_75 (Nat.le_of_ble_eq_true rfl) (Nat.le_of_ble_eq_true rfl) (Nat.le_of_ble_eq_true rfl) (Nat.le_of_ble_eq_true rfl) hf (Nat.le_of_ble_eq_true rfl) (Nat.le_of_ble_eq_true rfl)
  have hf := (if_neg c_5).symm.trans hf
  by_cases c_6 : (swRl.getD (ix (nI e0)) 0) = 21
  · have hf := (if_pos c_6).symm.trans hf
    refine lv_tableIn (off := 68) (tgt := 76) C0.1 C0.2.1 dX9_refuseRarer_8 (by rw [c_6]; decide) (by rw [c_6]; decide) (by rw [c_6]; rfl) (by decide) ?_
    exact r_throwWN C0 C1 hI hl0 hl.1 hno hlocks (E := 5) (sk := 19) rfl (by decide +kernel) (by decide +kernel) nzY nz0 nz1 nz2 nz5 w_572 w_89 at_NSE ag_NSE dX9_refuseRarer_76 dX9_refuseRarer_79 dX9_refuseRarer_80 dX9_refuseRarer_83 dX9_refuseRarer_86 (Nat.le_of_ble_eq_true rfl) (Nat.le_of_ble_eq_true rfl) (Nat.le_of_ble_eq_true rfl) (Nat.le_of_ble_eq_true rfl) hf (Nat.le_of_ble_eq_true rfl) (Nat.le_of_ble_eq_true rfl)
  have hf := (if_neg c_6).symm.trans hf
  by_cases c_7 : (swRl.getD (ix (nI e0)) 0) = 22
  · have hf := (if_pos c_7).symm.trans hf
    refine lv_tableIn (off := 79) (tgt := 87) C0.1 C0.2.1 dX9_refuseRarer_8 (by rw [c_7]; decide) (by rw [c_7]; decide) (by rw [c_7]; rfl) (by decide) ?_
    exact r_throwWN C0 C1 hI hl0 hl.1 hno hlocks (E := 5) (sk := 20) rfl (by decide +kernel) (by decide +kernel) nzY nz0 nz1 nz2 nz5 w_572 w_89 at_NSE ag_NSE dX9_refuseRarer_87 dX9_refuseRarer_90 dX9_refuseRarer_91 dX9_refuseRarer_94 dX9_refuseRarer_97 (Nat.le_of_ble_eq_true rfl) (Nat.le_of_ble_eq_true rfl) (Nat.le_of_ble_eq_true rfl) (Nat.le_of_ble_eq_true rfl) hf (Nat.le_of_ble_eq_true rfl) (Nat.le_of_ble_eq_true rfl)
  have hf := (if_neg c_7).symm.trans hf
  have c_3 := lv_neT c_3 (show (18 : Int32).toInt = 18 from rfl)
  have c_4 := lv_neT c_4 (show (19 : Int32).toInt = 19 from rfl)
  have c_5 := lv_neT c_5 (show (20 : Int32).toInt = 20 from rfl)
  have c_6 := lv_neT c_6 (show (21 : Int32).toInt = 21 from rfl)
  have c_7 := lv_neT c_7 (show (22 : Int32).toInt = 22 from rfl)
  refine lv_tableOut (tgt := 98) C0.1 C0.2.1 dX9_refuseRarer_8 (by omega) (by decide) ?_
  refine W.widen (k := 1) (n := 6) (Nat.le_of_ble_eq_true rfl) (Nat.le_of_ble_eq_true rfl) ?_
  exact ex_v C0 hI hr hlocks hf dX9_refuseRarer_98


set_option maxHeartbeats 4000000 in
set_option maxRecDepth 100000 in
theorem p_X9_refuseRarer (l : Launch) (g : GG) (X : va_W) (r : Nat → Nat) (b : Nat → Nat) (sz n : Nat) (M : Mem) (e0 : Nat)  (hf : F_X9_refuseRarer n e0 M = some (.inr ())) : Met l yX9_refuseRarer (.code yX9_refuseRarer cX9_refuseRarer 1 none :: LWg) (rmD 8 0 0) (va_Pc [.ref (g.2.2 0 e0)] (PreP g X 372 (shI g r b) b sz M)) (Qv g X 372 (shI g r b) b sz M) 0 0 (AA X b 372 sz) := by
  refine met_go (by decide +kernel) rfl (Nat.le_of_ble_eq_true rfl) ?_
  intro p e s m below meth c ls H locs C0 C1 hr hlocks hnm hsz hl hI
  subst hsz
  have hl : lv_has ls 1 [(0, .ref (g.2.2 0 e0))] := hl
  unfold F_X9_refuseRarer at hf
  refine r_swR C0 C1 hI w_426 dX9_refuseRarer_0 ?_
  refine lv_aload_n C0.1 C0.2.1 dX9_refuseRarer_3 rfl (lv_at hl 0 rfl) ?_
  obtain ⟨h_1, hf⟩ := chk_some hf
  refine r_ordR C0 C1 hI hl.1 e0 (of_decide_eq_true h_1) w_428 ⟨Nat.le_of_ble_eq_true rfl, Nat.le_of_ble_eq_true rfl⟩ ⟨Nat.le_of_ble_eq_true rfl, Nat.le_of_ble_eq_true rfl⟩ (Nat.le_of_ble_eq_true rfl) dX9_refuseRarer_4 (fun H locs hI => ?_)
  obtain ⟨h_2, hf⟩ := chk_some hf
  refine r_swRld C0 C1 hI h_2 dX9_refuseRarer_7 ?_
  by_cases c_3 : (swRl.getD (ix (nI e0)) 0) = 18
  · have hf := (if_pos c_3).symm.trans hf
    refine lv_tableIn (off := 36) (tgt := 44) C0.1 C0.2.1 dX9_refuseRarer_8 (by rw [c_3]; decide) (by rw [c_3]; decide) (by rw [c_3]; rfl) (by decide) ?_
    exact nomatch hf
  have hf := (if_neg c_3).symm.trans hf
  by_cases c_4 : (swRl.getD (ix (nI e0)) 0) = 19
  · have hf := (if_pos c_4).symm.trans hf
    refine lv_tableIn (off := 47) (tgt := 55) C0.1 C0.2.1 dX9_refuseRarer_8 (by rw [c_4]; decide) (by rw [c_4]; decide) (by rw [c_4]; rfl) (by decide) ?_
    exact nomatch hf
  have hf := (if_neg c_4).symm.trans hf
  by_cases c_5 : (swRl.getD (ix (nI e0)) 0) = 20
  · have hf := (if_pos c_5).symm.trans hf
    refine lv_tableIn (off := 57) (tgt := 65) C0.1 C0.2.1 dX9_refuseRarer_8 (by rw [c_5]; decide) (by rw [c_5]; decide) (by rw [c_5]; rfl) (by decide) ?_
    exact nomatch hf
  have hf := (if_neg c_5).symm.trans hf
  by_cases c_6 : (swRl.getD (ix (nI e0)) 0) = 21
  · have hf := (if_pos c_6).symm.trans hf
    refine lv_tableIn (off := 68) (tgt := 76) C0.1 C0.2.1 dX9_refuseRarer_8 (by rw [c_6]; decide) (by rw [c_6]; decide) (by rw [c_6]; rfl) (by decide) ?_
    exact nomatch hf
  have hf := (if_neg c_6).symm.trans hf
  by_cases c_7 : (swRl.getD (ix (nI e0)) 0) = 22
  · have hf := (if_pos c_7).symm.trans hf
    refine lv_tableIn (off := 79) (tgt := 87) C0.1 C0.2.1 dX9_refuseRarer_8 (by rw [c_7]; decide) (by rw [c_7]; decide) (by rw [c_7]; rfl) (by decide) ?_
    exact nomatch hf
  have hf := (if_neg c_7).symm.trans hf
  have c_3 := lv_neT c_3 (show (18 : Int32).toInt = 18 from rfl)
  have c_4 := lv_neT c_4 (show (19 : Int32).toInt = 19 from rfl)
  have c_5 := lv_neT c_5 (show (20 : Int32).toInt = 20 from rfl)
  have c_6 := lv_neT c_6 (show (21 : Int32).toInt = 21 from rfl)
  have c_7 := lv_neT c_7 (show (22 : Int32).toInt = 22 from rfl)
  refine lv_tableOut (tgt := 98) C0.1 C0.2.1 dX9_refuseRarer_8 (by omega) (by decide) ?_
  exact ep_v C0 hI hr hlocks hf dX9_refuseRarer_98

def F_X9_refuse (n : Nat) (e0 : Nat) (M : Mem) : Option (RX Unit) :=
  chk (decide (e0 < 23)) (chk (inb (nI e0) 23) ((if (swRl.getD (ix (nI e0)) 0) = 1 then some (.inl 2) else if (swRl.getD (ix (nI e0)) 0) = 2 then some (.inl 2) else if (swRl.getD (ix (nI e0)) 0) = 3 then some (.inl 2) else if (swRl.getD (ix (nI e0)) 0) = 4 then some (.inl 2) else if (swRl.getD (ix (nI e0)) 0) = 5 then some (.inl 1) else if (swRl.getD (ix (nI e0)) 0) = 6 then some (.inl 1) else if (swRl.getD (ix (nI e0)) 0) = 7 then some (.inl 1) else if (swRl.getD (ix (nI e0)) 0) = 8 then some (.inl 1) else if (swRl.getD (ix (nI e0)) 0) = 9 then some (.inl 1) else if (swRl.getD (ix (nI e0)) 0) = 10 then some (.inl 0) else if (swRl.getD (ix (nI e0)) 0) = 11 then some (.inl 0) else if (swRl.getD (ix (nI e0)) 0) = 12 then some (.inl 0) else if (swRl.getD (ix (nI e0)) 0) = 13 then some (.inl 0) else if (swRl.getD (ix (nI e0)) 0) = 14 then some (.inl 0) else if (swRl.getD (ix (nI e0)) 0) = 15 then some (.inl 0) else if (swRl.getD (ix (nI e0)) 0) = 16 then some (.inl 0) else if (swRl.getD (ix (nI e0)) 0) = 17 then some (.inl 0) else obx (F_X9_refuseRarer n e0 M) (fun u_22 => some (.inr ())))))
theorem hd_X9_refuse : yX9_refuse.cls ≠ "java/lang/invoke/MethodHandle" ∧ yX9_refuse.cls ≠ "java/lang/invoke/VarHandle" ∧ (parseMethodDescriptor yX9_refuse.desc).map (fun d => d.parameters.length) = some 1 := ⟨by decide +kernel, by decide +kernel, by decide +kernel⟩
set_option maxHeartbeats 4000000 in
set_option maxRecDepth 100000 in
theorem c_X9_refuse (l : Launch) (hl0 : l.stackTraces = false) (g : GG) (X : va_W) (r : Nat → Nat) (b : Nat → Nat) (sz n : Nat) (M : Mem) (e0 : Nat) {q0 : RX Unit} (hf : F_X9_refuse n e0 M = some q0) : vx_Met l yX9_refuse (.code yX9_refuse cX9_refuse 1 none :: LWg) (rmD 9 1 6) (va_Pc [.ref (g.2.2 0 e0)] (PreP g X 372 (shI g r b) b sz M)) (QvX g X 372 (shI g r b) b sz q0 M) (XcX g X 372 (shI g r b) b sz q0 M) 1 6 (AA X b 372 sz) := by
  refine metx_go (by decide +kernel) rfl (Nat.le_of_ble_eq_true rfl) ?_
  intro p e s m below meth c ls H locs C0 C1 hr hlocks hno hsz hl hI
  subst hsz
  have hl : lv_has ls 1 [(0, .ref (g.2.2 0 e0))] := hl
  unfold F_X9_refuse at hf
  refine r_swR C0 C1 hI w_426 dX9_refuse_0 ?_
  refine lv_aload_n C0.1 C0.2.1 dX9_refuse_3 rfl (lv_at hl 0 rfl) ?_
  obtain ⟨h_1, hf⟩ := chk_some hf
  refine r_ordR C0 C1 hI hl.1 e0 (of_decide_eq_true h_1) w_428 ⟨Nat.le_of_ble_eq_true rfl, Nat.le_of_ble_eq_true rfl⟩ ⟨Nat.le_of_ble_eq_true rfl, Nat.le_of_ble_eq_true rfl⟩ (Nat.le_of_ble_eq_true rfl) dX9_refuse_4 (fun H locs hI => ?_)
  obtain ⟨h_2, hf⟩ := chk_some hf
  refine r_swRld C0 C1 hI h_2 dX9_refuse_7 ?_
  by_cases c_3 : (swRl.getD (ix (nI e0)) 0) = 1
  · have hf := (if_pos c_3).symm.trans hf
    refine lv_tableIn (off := 84) (tgt := 92) C0.1 C0.2.1 dX9_refuse_8 (by rw [c_3]; decide) (by rw [c_3]; decide) (by rw [c_3]; rfl) (by decide) ?_
    exact r_throwW C0 C1 hI hl0 hl.1 hno hlocks (E := 2) (sk := 0) rfl (by decide +kernel) (by decide +kernel) w_434 w_93 at_IOB ag_IOB dX9_refuse_92 dX9_refuse_95 dX9_refuse_96 dX9_refuse_99 dX9_refuse_102 (Nat.le_of_ble_eq_true rfl) (Nat.le_of_ble_eq_true rfl) (Nat.le_of_ble_eq_true rfl) (Nat.le_of_ble_eq_true rfl) hf (Nat.le_of_ble_eq_true rfl) (Nat.le_of_ble_eq_true rfl)
  have hf := (if_neg c_3).symm.trans hf
  by_cases c_4 : (swRl.getD (ix (nI e0)) 0) = 2
  · have hf := (if_pos c_4).symm.trans hf
    refine lv_tableIn (off := 95) (tgt := 103) C0.1 C0.2.1 dX9_refuse_8 (by rw [c_4]; decide) (by rw [c_4]; decide) (by rw [c_4]; rfl) (by decide) ?_
    exact r_throwW C0 C1 hI hl0 hl.1 hno hlocks (E := 2) (sk := 1) rfl (by decide +kernel) (by decide +kernel) w_434 w_93 at_IOB ag_IOB dX9_refuse_103 dX9_refuse_106 dX9_refuse_107 dX9_refuse_110 dX9_refuse_113 (Nat.le_of_ble_eq_true rfl) (Nat.le_of_ble_eq_true rfl) (Nat.le_of_ble_eq_true rfl) (Nat.le_of_ble_eq_true rfl) hf (Nat.le_of_ble_eq_true rfl) (Nat.le_of_ble_eq_true rfl)
  have hf := (if_neg c_4).symm.trans hf
  by_cases c_5 : (swRl.getD (ix (nI e0)) 0) = 3
  · have hf := (if_pos c_5).symm.trans hf
    refine lv_tableIn (off := 106) (tgt := 114) C0.1 C0.2.1 dX9_refuse_8 (by rw [c_5]; decide) (by rw [c_5]; decide) (by rw [c_5]; rfl) (by decide) ?_
    exact r_throwW C0 C1 hI hl0 hl.1 hno hlocks (E := 2) (sk := 2) rfl (by decide +kernel) (by decide +kernel) w_434 w_93 at_IOB ag_IOB dX9_refuse_114 dX9_refuse_117 dX9_refuse_118 dX9_refuse_121 dX9_refuse_124 (Nat.le_of_ble_eq_true rfl) (Nat.le_of_ble_eq_true rfl) (Nat.le_of_ble_eq_true rfl) (Nat.le_of_ble_eq_true rfl) hf (Nat.le_of_ble_eq_true rfl) (Nat.le_of_ble_eq_true rfl)
  have hf := (if_neg c_5).symm.trans hf
  by_cases c_6 : (swRl.getD (ix (nI e0)) 0) = 4
  · have hf := (if_pos c_6).symm.trans hf
    refine lv_tableIn (off := 117) (tgt := 125) C0.1 C0.2.1 dX9_refuse_8 (by rw [c_6]; decide) (by rw [c_6]; decide) (by rw [c_6]; rfl) (by decide) ?_
    exact r_throwW C0 C1 hI hl0 hl.1 hno hlocks (E := 2) (sk := 3) rfl (by decide +kernel) (by decide +kernel) w_434 w_93 at_IOB ag_IOB dX9_refuse_125 dX9_refuse_128 dX9_refuse_129 dX9_refuse_132 dX9_refuse_135 (Nat.le_of_ble_eq_true rfl) (Nat.le_of_ble_eq_true rfl) (Nat.le_of_ble_eq_true rfl) (Nat.le_of_ble_eq_true rfl) hf (Nat.le_of_ble_eq_true rfl) (Nat.le_of_ble_eq_true rfl)
  have hf := (if_neg c_6).symm.trans hf
  by_cases c_7 : (swRl.getD (ix (nI e0)) 0) = 5
  · have hf := (if_pos c_7).symm.trans hf
    refine lv_tableIn (off := 128) (tgt := 136) C0.1 C0.2.1 dX9_refuse_8 (by rw [c_7]; decide) (by rw [c_7]; decide) (by rw [c_7]; rfl) (by decide) ?_
    exact r_throwW C0 C1 hI hl0 hl.1 hno hlocks (E := 1) (sk := 4) rfl (by decide +kernel) (by decide +kernel) w_509 w_99 at_IAE ag_IAE dX9_refuse_136 dX9_refuse_139 dX9_refuse_140 dX9_refuse_143 dX9_refuse_146 (Nat.le_of_ble_eq_true rfl) (Nat.le_of_ble_eq_true rfl) (Nat.le_of_ble_eq_true rfl) (Nat.le_of_ble_eq_true rfl) hf (Nat.le_of_ble_eq_true rfl) (Nat.le_of_ble_eq_true rfl)
  have hf := (if_neg c_7).symm.trans hf
  by_cases c_8 : (swRl.getD (ix (nI e0)) 0) = 6
  · have hf := (if_pos c_8).symm.trans hf
    refine lv_tableIn (off := 139) (tgt := 147) C0.1 C0.2.1 dX9_refuse_8 (by rw [c_8]; decide) (by rw [c_8]; decide) (by rw [c_8]; rfl) (by decide) ?_
    exact r_throwW C0 C1 hI hl0 hl.1 hno hlocks (E := 1) (sk := 5) rfl (by decide +kernel) (by decide +kernel) w_509 w_99 at_IAE ag_IAE dX9_refuse_147 dX9_refuse_150 dX9_refuse_151 dX9_refuse_154 dX9_refuse_157 (Nat.le_of_ble_eq_true rfl) (Nat.le_of_ble_eq_true rfl) (Nat.le_of_ble_eq_true rfl) (Nat.le_of_ble_eq_true rfl) hf (Nat.le_of_ble_eq_true rfl) (Nat.le_of_ble_eq_true rfl)
  have hf := (if_neg c_8).symm.trans hf
  by_cases c_9 : (swRl.getD (ix (nI e0)) 0) = 7
  · have hf := (if_pos c_9).symm.trans hf
    refine lv_tableIn (off := 150) (tgt := 158) C0.1 C0.2.1 dX9_refuse_8 (by rw [c_9]; decide) (by rw [c_9]; decide) (by rw [c_9]; rfl) (by decide) ?_
    exact r_throwW C0 C1 hI hl0 hl.1 hno hlocks (E := 1) (sk := 6) rfl (by decide +kernel) (by decide +kernel) w_509 w_99 at_IAE ag_IAE dX9_refuse_158 dX9_refuse_161 dX9_refuse_162 dX9_refuse_165 dX9_refuse_168 (Nat.le_of_ble_eq_true rfl) (Nat.le_of_ble_eq_true rfl) (Nat.le_of_ble_eq_true rfl) (Nat.le_of_ble_eq_true rfl) hf (Nat.le_of_ble_eq_true rfl) (Nat.le_of_ble_eq_true rfl)
  have hf := (if_neg c_9).symm.trans hf
  by_cases c_10 : (swRl.getD (ix (nI e0)) 0) = 8
  · have hf := (if_pos c_10).symm.trans hf
    refine lv_tableIn (off := 161) (tgt := 169) C0.1 C0.2.1 dX9_refuse_8 (by rw [c_10]; decide) (by rw [c_10]; decide) (by rw [c_10]; rfl) (by decide) ?_
    exact r_throwW C0 C1 hI hl0 hl.1 hno hlocks (E := 1) (sk := 7) rfl (by decide +kernel) (by decide +kernel) w_509 w_99 at_IAE ag_IAE dX9_refuse_169 dX9_refuse_172 dX9_refuse_173 dX9_refuse_176 dX9_refuse_179 (Nat.le_of_ble_eq_true rfl) (Nat.le_of_ble_eq_true rfl) (Nat.le_of_ble_eq_true rfl) (Nat.le_of_ble_eq_true rfl) hf (Nat.le_of_ble_eq_true rfl) (Nat.le_of_ble_eq_true rfl)
  have hf := (if_neg c_10).symm.trans hf
  by_cases c_11 : (swRl.getD (ix (nI e0)) 0) = 9
  · have hf := (if_pos c_11).symm.trans hf
    refine lv_tableIn (off := 172) (tgt := 180) C0.1 C0.2.1 dX9_refuse_8 (by rw [c_11]; decide) (by rw [c_11]; decide) (by rw [c_11]; rfl) (by decide) ?_
    exact r_throwW C0 C1 hI hl0 hl.1 hno hlocks (E := 1) (sk := 8) rfl (by decide +kernel) (by decide +kernel) w_509 w_99 at_IAE ag_IAE dX9_refuse_180 dX9_refuse_183 dX9_refuse_184 dX9_refuse_187 dX9_refuse_190 (Nat.le_of_ble_eq_true rfl) (Nat.le_of_ble_eq_true rfl) (Nat.le_of_ble_eq_true rfl) (Nat.le_of_ble_eq_true rfl) hf (Nat.le_of_ble_eq_true rfl) (Nat.le_of_ble_eq_true rfl)
  have hf := (if_neg c_11).symm.trans hf
  by_cases c_12 : (swRl.getD (ix (nI e0)) 0) = 10
  · have hf := (if_pos c_12).symm.trans hf
    refine lv_tableIn (off := 183) (tgt := 191) C0.1 C0.2.1 dX9_refuse_8 (by rw [c_12]; decide) (by rw [c_12]; decide) (by rw [c_12]; rfl) (by decide) ?_
    exact r_throwW C0 C1 hI hl0 hl.1 hno hlocks (E := 0) (sk := 9) rfl (by decide +kernel) (by decide +kernel) w_529 w_87 at_ISE ag_ISE dX9_refuse_191 dX9_refuse_194 dX9_refuse_195 dX9_refuse_198 dX9_refuse_201 (Nat.le_of_ble_eq_true rfl) (Nat.le_of_ble_eq_true rfl) (Nat.le_of_ble_eq_true rfl) (Nat.le_of_ble_eq_true rfl) hf (Nat.le_of_ble_eq_true rfl) (Nat.le_of_ble_eq_true rfl)
  have hf := (if_neg c_12).symm.trans hf
  by_cases c_13 : (swRl.getD (ix (nI e0)) 0) = 11
  · have hf := (if_pos c_13).symm.trans hf
    refine lv_tableIn (off := 194) (tgt := 202) C0.1 C0.2.1 dX9_refuse_8 (by rw [c_13]; decide) (by rw [c_13]; decide) (by rw [c_13]; rfl) (by decide) ?_
    exact r_throwW C0 C1 hI hl0 hl.1 hno hlocks (E := 0) (sk := 10) rfl (by decide +kernel) (by decide +kernel) w_529 w_87 at_ISE ag_ISE dX9_refuse_202 dX9_refuse_205 dX9_refuse_206 dX9_refuse_209 dX9_refuse_212 (Nat.le_of_ble_eq_true rfl) (Nat.le_of_ble_eq_true rfl) (Nat.le_of_ble_eq_true rfl) (Nat.le_of_ble_eq_true rfl) hf (Nat.le_of_ble_eq_true rfl) (Nat.le_of_ble_eq_true rfl)
  have hf := (if_neg c_13).symm.trans hf
  by_cases c_14 : (swRl.getD (ix (nI e0)) 0) = 12
  · have hf := (if_pos c_14).symm.trans hf
    refine lv_tableIn (off := 205) (tgt := 213) C0.1 C0.2.1 dX9_refuse_8 (by rw [c_14]; decide) (by rw [c_14]; decide) (by rw [c_14]; rfl) (by decide) ?_
    exact r_throwW C0 C1 hI hl0 hl.1 hno hlocks (E := 0) (sk := 11) rfl (by decide +kernel) (by decide +kernel) w_529 w_87 at_ISE ag_ISE dX9_refuse_213 dX9_refuse_216 dX9_refuse_217 dX9_refuse_220 dX9_refuse_223 (Nat.le_of_ble_eq_true rfl) (Nat.le_of_ble_eq_true rfl) (Nat.le_of_ble_eq_true rfl) (Nat.le_of_ble_eq_true rfl) hf (Nat.le_of_ble_eq_true rfl) (Nat.le_of_ble_eq_true rfl)
  have hf := (if_neg c_14).symm.trans hf
  by_cases c_15 : (swRl.getD (ix (nI e0)) 0) = 13
  · have hf := (if_pos c_15).symm.trans hf
    refine lv_tableIn (off := 216) (tgt := 224) C0.1 C0.2.1 dX9_refuse_8 (by rw [c_15]; decide) (by rw [c_15]; decide) (by rw [c_15]; rfl) (by decide) ?_
    exact r_throwS C0 C1 hI hl0 hl.1 hno hlocks (E := 0) (sk := 12) rfl (by decide +kernel) (by decide +kernel) w_529 w_87 at_ISE ag_ISE dX9_refuse_224 dX9_refuse_227 dX9_refuse_228 dX9_refuse_230 dX9_refuse_233 (Nat.le_of_ble_eq_true rfl) (Nat.le_of_ble_eq_true rfl) (Nat.le_of_ble_eq_true rfl) (Nat.le_of_ble_eq_true rfl) hf (Nat.le_of_ble_eq_true rfl) (Nat.le_of_ble_eq_true rfl)
  have hf := (if_neg c_15).symm.trans hf
  by_cases c_16 : (swRl.getD (ix (nI e0)) 0) = 14
  · have hf := (if_pos c_16).symm.trans hf
    refine lv_tableIn (off := 226) (tgt := 234) C0.1 C0.2.1 dX9_refuse_8 (by rw [c_16]; decide) (by rw [c_16]; decide) (by rw [c_16]; rfl) (by decide) ?_
    exact r_throwW C0 C1 hI hl0 hl.1 hno hlocks (E := 0) (sk := 13) rfl (by decide +kernel) (by decide +kernel) w_529 w_87 at_ISE ag_ISE dX9_refuse_234 dX9_refuse_237 dX9_refuse_238 dX9_refuse_241 dX9_refuse_244 (Nat.le_of_ble_eq_true rfl) (Nat.le_of_ble_eq_true rfl) (Nat.le_of_ble_eq_true rfl) (Nat.le_of_ble_eq_true rfl) hf (Nat.le_of_ble_eq_true rfl) (Nat.le_of_ble_eq_true rfl)
  have hf := (if_neg c_16).symm.trans hf
  by_cases c_17 : (swRl.getD (ix (nI e0)) 0) = 15
  · have hf := (if_pos c_17).symm.trans hf
    refine lv_tableIn (off := 237) (tgt := 245) C0.1 C0.2.1 dX9_refuse_8 (by rw [c_17]; decide) (by rw [c_17]; decide) (by rw [c_17]; rfl) (by decide) ?_
    exact r_throwW C0 C1 hI hl0 hl.1 hno hlocks (E := 0) (sk := 14) rfl (by decide +kernel) (by decide +kernel) w_529 w_87 at_ISE ag_ISE dX9_refuse_245 dX9_refuse_248 dX9_refuse_249 dX9_refuse_252 dX9_refuse_255 (Nat.le_of_ble_eq_true rfl) (Nat.le_of_ble_eq_true rfl) (Nat.le_of_ble_eq_true rfl) (Nat.le_of_ble_eq_true rfl) hf (Nat.le_of_ble_eq_true rfl) (Nat.le_of_ble_eq_true rfl)
  have hf := (if_neg c_17).symm.trans hf
  by_cases c_18 : (swRl.getD (ix (nI e0)) 0) = 16
  · have hf := (if_pos c_18).symm.trans hf
    refine lv_tableIn (off := 248) (tgt := 256) C0.1 C0.2.1 dX9_refuse_8 (by rw [c_18]; decide) (by rw [c_18]; decide) (by rw [c_18]; rfl) (by decide) ?_
    exact r_throwW C0 C1 hI hl0 hl.1 hno hlocks (E := 0) (sk := 15) rfl (by decide +kernel) (by decide +kernel) w_529 w_87 at_ISE ag_ISE dX9_refuse_256 dX9_refuse_259 dX9_refuse_260 dX9_refuse_263 dX9_refuse_266 (Nat.le_of_ble_eq_true rfl) (Nat.le_of_ble_eq_true rfl) (Nat.le_of_ble_eq_true rfl) (Nat.le_of_ble_eq_true rfl) hf (Nat.le_of_ble_eq_true rfl) (Nat.le_of_ble_eq_true rfl)
  have hf := (if_neg c_18).symm.trans hf
  by_cases c_19 : (swRl.getD (ix (nI e0)) 0) = 17
  · have hf := (if_pos c_19).symm.trans hf
    refine lv_tableIn (off := 259) (tgt := 267) C0.1 C0.2.1 dX9_refuse_8 (by rw [c_19]; decide) (by rw [c_19]; decide) (by rw [c_19]; rfl) (by decide) ?_
    exact r_throwW C0 C1 hI hl0 hl.1 hno hlocks (E := 0) (sk := 16) rfl (by decide +kernel) (by decide +kernel) w_529 w_87 at_ISE ag_ISE dX9_refuse_267 dX9_refuse_270 dX9_refuse_271 dX9_refuse_274 dX9_refuse_277 (Nat.le_of_ble_eq_true rfl) (Nat.le_of_ble_eq_true rfl) (Nat.le_of_ble_eq_true rfl) (Nat.le_of_ble_eq_true rfl) hf (Nat.le_of_ble_eq_true rfl) (Nat.le_of_ble_eq_true rfl)
  have hf := (if_neg c_19).symm.trans hf
  have c_3 := lv_neT c_3 (show (1 : Int32).toInt = 1 from rfl)
  have c_4 := lv_neT c_4 (show (2 : Int32).toInt = 2 from rfl)
  have c_5 := lv_neT c_5 (show (3 : Int32).toInt = 3 from rfl)
  have c_6 := lv_neT c_6 (show (4 : Int32).toInt = 4 from rfl)
  have c_7 := lv_neT c_7 (show (5 : Int32).toInt = 5 from rfl)
  have c_8 := lv_neT c_8 (show (6 : Int32).toInt = 6 from rfl)
  have c_9 := lv_neT c_9 (show (7 : Int32).toInt = 7 from rfl)
  have c_10 := lv_neT c_10 (show (8 : Int32).toInt = 8 from rfl)
  have c_11 := lv_neT c_11 (show (9 : Int32).toInt = 9 from rfl)
  have c_12 := lv_neT c_12 (show (10 : Int32).toInt = 10 from rfl)
  have c_13 := lv_neT c_13 (show (11 : Int32).toInt = 11 from rfl)
  have c_14 := lv_neT c_14 (show (12 : Int32).toInt = 12 from rfl)
  have c_15 := lv_neT c_15 (show (13 : Int32).toInt = 13 from rfl)
  have c_16 := lv_neT c_16 (show (14 : Int32).toInt = 14 from rfl)
  have c_17 := lv_neT c_17 (show (15 : Int32).toInt = 15 from rfl)
  have c_18 := lv_neT c_18 (show (16 : Int32).toInt = 16 from rfl)
  have c_19 := lv_neT c_19 (show (17 : Int32).toInt = 17 from rfl)
  refine lv_tableOut (tgt := 278) C0.1 C0.2.1 dX9_refuse_8 (by omega) (by decide) ?_
  refine lv_aload_n C0.1 C0.2.1 dX9_refuse_278 rfl (lv_at hl 0 rfl) ?_
  obtain ⟨q_23, h_21, h_24, h_25⟩ := obx_x hf
  refine kx_v C1 hI (qx_S C0 C1 hI (c_X9_refuseRarer l hl0 g X r b H.size n M e0 h_21) w_552 w_553 w_71 w_554 ⟨rfl, rfl⟩ hd_X9_refuseRarer ⟨Nat.le_of_ble_eq_true rfl, Nat.le_of_ble_eq_true rfl⟩ rfl hl.1 rfl (Nat.le_of_ble_eq_true rfl) dX9_refuse_279 ⟨Nat.le_of_ble_eq_true rfl, Nat.le_of_ble_eq_true rfl⟩) (fun k H locs ce q9 e1 hI g1 g2 g3 => x_out hno hlocks hI g1 g2 g3 (h_24 k e1) (Nat.le_of_ble_eq_true rfl) (Nat.le_of_ble_eq_true rfl)) (fun u_22 H locs e1 hI => ?_)
  have hf := h_25 u_22 e1
  exact ex_v C0 hI hr hlocks hf dX9_refuse_282


set_option maxHeartbeats 4000000 in
set_option maxRecDepth 100000 in
theorem p_X9_refuse (l : Launch) (g : GG) (X : va_W) (r : Nat → Nat) (b : Nat → Nat) (sz n : Nat) (M : Mem) (e0 : Nat)  (hf : F_X9_refuse n e0 M = some (.inr ())) : Met l yX9_refuse (.code yX9_refuse cX9_refuse 1 none :: LWg) (rmD 9 0 0) (va_Pc [.ref (g.2.2 0 e0)] (PreP g X 372 (shI g r b) b sz M)) (Qv g X 372 (shI g r b) b sz M) 0 0 (AA X b 372 sz) := by
  refine met_go (by decide +kernel) rfl (Nat.le_of_ble_eq_true rfl) ?_
  intro p e s m below meth c ls H locs C0 C1 hr hlocks hnm hsz hl hI
  subst hsz
  have hl : lv_has ls 1 [(0, .ref (g.2.2 0 e0))] := hl
  unfold F_X9_refuse at hf
  refine r_swR C0 C1 hI w_426 dX9_refuse_0 ?_
  refine lv_aload_n C0.1 C0.2.1 dX9_refuse_3 rfl (lv_at hl 0 rfl) ?_
  obtain ⟨h_1, hf⟩ := chk_some hf
  refine r_ordR C0 C1 hI hl.1 e0 (of_decide_eq_true h_1) w_428 ⟨Nat.le_of_ble_eq_true rfl, Nat.le_of_ble_eq_true rfl⟩ ⟨Nat.le_of_ble_eq_true rfl, Nat.le_of_ble_eq_true rfl⟩ (Nat.le_of_ble_eq_true rfl) dX9_refuse_4 (fun H locs hI => ?_)
  obtain ⟨h_2, hf⟩ := chk_some hf
  refine r_swRld C0 C1 hI h_2 dX9_refuse_7 ?_
  by_cases c_3 : (swRl.getD (ix (nI e0)) 0) = 1
  · have hf := (if_pos c_3).symm.trans hf
    refine lv_tableIn (off := 84) (tgt := 92) C0.1 C0.2.1 dX9_refuse_8 (by rw [c_3]; decide) (by rw [c_3]; decide) (by rw [c_3]; rfl) (by decide) ?_
    exact nomatch hf
  have hf := (if_neg c_3).symm.trans hf
  by_cases c_4 : (swRl.getD (ix (nI e0)) 0) = 2
  · have hf := (if_pos c_4).symm.trans hf
    refine lv_tableIn (off := 95) (tgt := 103) C0.1 C0.2.1 dX9_refuse_8 (by rw [c_4]; decide) (by rw [c_4]; decide) (by rw [c_4]; rfl) (by decide) ?_
    exact nomatch hf
  have hf := (if_neg c_4).symm.trans hf
  by_cases c_5 : (swRl.getD (ix (nI e0)) 0) = 3
  · have hf := (if_pos c_5).symm.trans hf
    refine lv_tableIn (off := 106) (tgt := 114) C0.1 C0.2.1 dX9_refuse_8 (by rw [c_5]; decide) (by rw [c_5]; decide) (by rw [c_5]; rfl) (by decide) ?_
    exact nomatch hf
  have hf := (if_neg c_5).symm.trans hf
  by_cases c_6 : (swRl.getD (ix (nI e0)) 0) = 4
  · have hf := (if_pos c_6).symm.trans hf
    refine lv_tableIn (off := 117) (tgt := 125) C0.1 C0.2.1 dX9_refuse_8 (by rw [c_6]; decide) (by rw [c_6]; decide) (by rw [c_6]; rfl) (by decide) ?_
    exact nomatch hf
  have hf := (if_neg c_6).symm.trans hf
  by_cases c_7 : (swRl.getD (ix (nI e0)) 0) = 5
  · have hf := (if_pos c_7).symm.trans hf
    refine lv_tableIn (off := 128) (tgt := 136) C0.1 C0.2.1 dX9_refuse_8 (by rw [c_7]; decide) (by rw [c_7]; decide) (by rw [c_7]; rfl) (by decide) ?_
    exact nomatch hf
  have hf := (if_neg c_7).symm.trans hf
  by_cases c_8 : (swRl.getD (ix (nI e0)) 0) = 6
  · have hf := (if_pos c_8).symm.trans hf
    refine lv_tableIn (off := 139) (tgt := 147) C0.1 C0.2.1 dX9_refuse_8 (by rw [c_8]; decide) (by rw [c_8]; decide) (by rw [c_8]; rfl) (by decide) ?_
    exact nomatch hf
  have hf := (if_neg c_8).symm.trans hf
  by_cases c_9 : (swRl.getD (ix (nI e0)) 0) = 7
  · have hf := (if_pos c_9).symm.trans hf
    refine lv_tableIn (off := 150) (tgt := 158) C0.1 C0.2.1 dX9_refuse_8 (by rw [c_9]; decide) (by rw [c_9]; decide) (by rw [c_9]; rfl) (by decide) ?_
    exact nomatch hf
  have hf := (if_neg c_9).symm.trans hf
  by_cases c_10 : (swRl.getD (ix (nI e0)) 0) = 8
  · have hf := (if_pos c_10).symm.trans hf
    refine lv_tableIn (off := 161) (tgt := 169) C0.1 C0.2.1 dX9_refuse_8 (by rw [c_10]; decide) (by rw [c_10]; decide) (by rw [c_10]; rfl) (by decide) ?_
    exact nomatch hf
  have hf := (if_neg c_10).symm.trans hf
  by_cases c_11 : (swRl.getD (ix (nI e0)) 0) = 9
  · have hf := (if_pos c_11).symm.trans hf
    refine lv_tableIn (off := 172) (tgt := 180) C0.1 C0.2.1 dX9_refuse_8 (by rw [c_11]; decide) (by rw [c_11]; decide) (by rw [c_11]; rfl) (by decide) ?_
    exact nomatch hf
  have hf := (if_neg c_11).symm.trans hf
  by_cases c_12 : (swRl.getD (ix (nI e0)) 0) = 10
  · have hf := (if_pos c_12).symm.trans hf
    refine lv_tableIn (off := 183) (tgt := 191) C0.1 C0.2.1 dX9_refuse_8 (by rw [c_12]; decide) (by rw [c_12]; decide) (by rw [c_12]; rfl) (by decide) ?_
    exact nomatch hf
  have hf := (if_neg c_12).symm.trans hf
  by_cases c_13 : (swRl.getD (ix (nI e0)) 0) = 11
  · have hf := (if_pos c_13).symm.trans hf
    refine lv_tableIn (off := 194) (tgt := 202) C0.1 C0.2.1 dX9_refuse_8 (by rw [c_13]; decide) (by rw [c_13]; decide) (by rw [c_13]; rfl) (by decide) ?_
    exact nomatch hf
  have hf := (if_neg c_13).symm.trans hf
  by_cases c_14 : (swRl.getD (ix (nI e0)) 0) = 12
  · have hf := (if_pos c_14).symm.trans hf
    refine lv_tableIn (off := 205) (tgt := 213) C0.1 C0.2.1 dX9_refuse_8 (by rw [c_14]; decide) (by rw [c_14]; decide) (by rw [c_14]; rfl) (by decide) ?_
    exact nomatch hf
  have hf := (if_neg c_14).symm.trans hf
  by_cases c_15 : (swRl.getD (ix (nI e0)) 0) = 13
  · have hf := (if_pos c_15).symm.trans hf
    refine lv_tableIn (off := 216) (tgt := 224) C0.1 C0.2.1 dX9_refuse_8 (by rw [c_15]; decide) (by rw [c_15]; decide) (by rw [c_15]; rfl) (by decide) ?_
    exact nomatch hf
  have hf := (if_neg c_15).symm.trans hf
  by_cases c_16 : (swRl.getD (ix (nI e0)) 0) = 14
  · have hf := (if_pos c_16).symm.trans hf
    refine lv_tableIn (off := 226) (tgt := 234) C0.1 C0.2.1 dX9_refuse_8 (by rw [c_16]; decide) (by rw [c_16]; decide) (by rw [c_16]; rfl) (by decide) ?_
    exact nomatch hf
  have hf := (if_neg c_16).symm.trans hf
  by_cases c_17 : (swRl.getD (ix (nI e0)) 0) = 15
  · have hf := (if_pos c_17).symm.trans hf
    refine lv_tableIn (off := 237) (tgt := 245) C0.1 C0.2.1 dX9_refuse_8 (by rw [c_17]; decide) (by rw [c_17]; decide) (by rw [c_17]; rfl) (by decide) ?_
    exact nomatch hf
  have hf := (if_neg c_17).symm.trans hf
  by_cases c_18 : (swRl.getD (ix (nI e0)) 0) = 16
  · have hf := (if_pos c_18).symm.trans hf
    refine lv_tableIn (off := 248) (tgt := 256) C0.1 C0.2.1 dX9_refuse_8 (by rw [c_18]; decide) (by rw [c_18]; decide) (by rw [c_18]; rfl) (by decide) ?_
    exact nomatch hf
  have hf := (if_neg c_18).symm.trans hf
  by_cases c_19 : (swRl.getD (ix (nI e0)) 0) = 17
  · have hf := (if_pos c_19).symm.trans hf
    refine lv_tableIn (off := 259) (tgt := 267) C0.1 C0.2.1 dX9_refuse_8 (by rw [c_19]; decide) (by rw [c_19]; decide) (by rw [c_19]; rfl) (by decide) ?_
    exact nomatch hf
  have hf := (if_neg c_19).symm.trans hf
  have c_3 := lv_neT c_3 (show (1 : Int32).toInt = 1 from rfl)
  have c_4 := lv_neT c_4 (show (2 : Int32).toInt = 2 from rfl)
  have c_5 := lv_neT c_5 (show (3 : Int32).toInt = 3 from rfl)
  have c_6 := lv_neT c_6 (show (4 : Int32).toInt = 4 from rfl)
  have c_7 := lv_neT c_7 (show (5 : Int32).toInt = 5 from rfl)
  have c_8 := lv_neT c_8 (show (6 : Int32).toInt = 6 from rfl)
  have c_9 := lv_neT c_9 (show (7 : Int32).toInt = 7 from rfl)
  have c_10 := lv_neT c_10 (show (8 : Int32).toInt = 8 from rfl)
  have c_11 := lv_neT c_11 (show (9 : Int32).toInt = 9 from rfl)
  have c_12 := lv_neT c_12 (show (10 : Int32).toInt = 10 from rfl)
  have c_13 := lv_neT c_13 (show (11 : Int32).toInt = 11 from rfl)
  have c_14 := lv_neT c_14 (show (12 : Int32).toInt = 12 from rfl)
  have c_15 := lv_neT c_15 (show (13 : Int32).toInt = 13 from rfl)
  have c_16 := lv_neT c_16 (show (14 : Int32).toInt = 14 from rfl)
  have c_17 := lv_neT c_17 (show (15 : Int32).toInt = 15 from rfl)
  have c_18 := lv_neT c_18 (show (16 : Int32).toInt = 16 from rfl)
  have c_19 := lv_neT c_19 (show (17 : Int32).toInt = 17 from rfl)
  refine lv_tableOut (tgt := 278) C0.1 C0.2.1 dX9_refuse_8 (by omega) (by decide) ?_
  refine lv_aload_n C0.1 C0.2.1 dX9_refuse_278 rfl (lv_at hl 0 rfl) ?_
  obtain ⟨u_22, h_21, hf⟩ := obx_p hf
  refine k_v C1 hI (q_S C0 C1 hI (p_X9_refuseRarer l g X r b H.size n M e0 h_21) w_552 w_553 w_71 w_554 ⟨rfl, rfl⟩ hd_X9_refuseRarer ⟨Nat.le_of_ble_eq_true rfl, Nat.le_of_ble_eq_true rfl⟩ rfl hl.1 rfl (Nat.le_of_ble_eq_true rfl) dX9_refuse_279 ⟨Nat.le_of_ble_eq_true rfl, Nat.le_of_ble_eq_true rfl⟩) (fun H locs hI => ?_)
  exact ep_v C0 hI hr hlocks hf dX9_refuse_282

def F_X9_addFrog (n : Nat) (x1 : Int32) (x2 : Int32) (M : Mem) : Option (RX Int32 × Mem) :=
  ob (F_X2_refusalToAdmit n 1 x1 x2 M) (fun r_2 => obxr (F_X9_refuse n r_2 M) M (fun u_5 => ob (F_X5_push n 94 1 M) (fun M_10 => ob2 (F_X2_admit n 1 x1 x2 M_10) (fun r_12 M_13 => some (.inr r_12, M_13)))))
theorem hd_X9_addFrog : yX9_addFrog.cls ≠ "java/lang/invoke/MethodHandle" ∧ yX9_addFrog.cls ≠ "java/lang/invoke/VarHandle" ∧ (parseMethodDescriptor yX9_addFrog.desc).map (fun d => d.parameters.length) = some 2 := ⟨by decide +kernel, by decide +kernel, by decide +kernel⟩
set_option maxHeartbeats 4000000 in
set_option maxRecDepth 100000 in
theorem c_X9_addFrog (l : Launch) (hl0 : l.stackTraces = false) (g : GG) (X : va_W) (r : Nat → Nat) (b : Nat → Nat) (sz n : Nat) (M : Mem) (x1 : Int32) (x2 : Int32) {q0 : RX Int32} {M' : Mem} (hf : F_X9_addFrog n x1 x2 M = some (q0, M')) : vx_Met l yX9_addFrog (.code yX9_addFrog cX9_addFrog 3 (some .int) :: LWg) (rmD 10 1 6) (va_Pc [.ref (b 0), .int x1, .int x2] (PreP g X 372 (shI g r b) b sz M)) (QiX g X 372 (shI g r b) b sz q0 M') (XcX g X 372 (shI g r b) b sz q0 M') 1 6 (AA X b 372 sz) := by
  refine metx_go (by decide +kernel) rfl (Nat.le_of_ble_eq_true rfl) ?_
  intro p e s m below meth c ls H locs C0 C1 hr hlocks hno hsz hl hI
  subst hsz
  have hl : lv_has ls 3 [(0, .ref (b 0)), (1, .int x1), (2, .int x2)] := hl
  unfold F_X9_addFrog at hf
  refine lv_aload_n C0.1 C0.2.1 dX9_addFrog_0 rfl (lv_at hl 0 rfl) ?_
  refine r_get (C := RX9) (T := TX9) (N9 := 11) (ci := 10) C0 C1 hI iX9 rfl 0 0 (kdlt0 (rfl : kdI 0 = 0)) (by decide) ((shI_0 (rfl : kdI 0 = 0)) _) rfl rfl w_342 dX9_addFrog_1 ?_
  refine lv_iload_n C0.1 C0.2.1 dX9_addFrog_4 rfl (lv_at hl 1 rfl) ?_
  refine lv_iload_n C0.1 C0.2.1 dX9_addFrog_5 rfl (lv_at hl 2 rfl) ?_
  obtain ⟨r_2, h_1, hf⟩ := ob_some hf
  refine k_e C1 hI (q_VN C0 C1 hI 1 (c_X2_refusalToAdmit l g X r b H.size n M 1 (rfl : kdI 1 = 1) x1 x2 h_1) 17 rfl w_713 w_16 w_72 w_714 ⟨rfl, rfl⟩ hd_X2_refusalToAdmit ⟨Nat.le_of_ble_eq_true rfl, Nat.le_of_ble_eq_true rfl⟩ (kdlt1 (rfl : kdI 1 = 1)) ((shI_1 (rfl : kdI 1 = 1)) _) rfl rfl rfl hl.1 rfl (Nat.le_of_ble_eq_true rfl) dX9_addFrog_6 ⟨Nat.le_of_ble_eq_true rfl, Nat.le_of_ble_eq_true rfl⟩) (fun H locs hI => ?_)
  obtain ⟨q_6, h_4, h_7, h_8⟩ := obxr_x hf
  refine kx_v C1 hI (qx_S C0 C1 hI (c_X9_refuse l hl0 g X r b H.size n M r_2 h_4) w_423 w_424 w_71 w_425 ⟨rfl, rfl⟩ hd_X9_refuse ⟨Nat.le_of_ble_eq_true rfl, Nat.le_of_ble_eq_true rfl⟩ rfl hl.1 rfl (Nat.le_of_ble_eq_true rfl) dX9_addFrog_9 ⟨Nat.le_of_ble_eq_true rfl, Nat.le_of_ble_eq_true rfl⟩) (fun k H locs ce q9 e1 hI g1 g2 g3 => x_outm hno hlocks hI g1 g2 g3 (h_7 k e1) (Nat.le_of_ble_eq_true rfl) (Nat.le_of_ble_eq_true rfl)) (fun u_5 H locs e1 hI => ?_)
  have hf := h_8 u_5 e1
  refine lv_aload_n C0.1 C0.2.1 dX9_addFrog_12 rfl (lv_at hl 0 rfl) ?_
  refine r_get (C := RX9) (T := TX9) (N9 := 11) (ci := 10) C0 C1 hI iX9 rfl 0 4 (kdlt0 (rfl : kdI 0 = 0)) (by decide) ((shI_0 (rfl : kdI 0 = 0)) _) rfl rfl w_346 dX9_addFrog_13 ?_
  refine lv_aload_n C0.1 C0.2.1 dX9_addFrog_16 rfl (lv_at hl 0 rfl) ?_
  refine r_get (C := RX9) (T := TX9) (N9 := 11) (ci := 10) C0 C1 hI iX9 rfl 0 0 (kdlt0 (rfl : kdI 0 = 0)) (by decide) ((shI_0 (rfl : kdI 0 = 0)) _) rfl rfl w_342 dX9_addFrog_17 ?_
  obtain ⟨M_10, h_9, hf⟩ := ob_some hf
  refine k_v C1 hI (q_VN C0 C1 hI 94 (c_X5_push l g X r b H.size n M 94 (rfl : kdI 94 = 6) 1 (rfl : kdI 1 = 1) h_9) 18 rfl w_723 w_17 w_74 w_724 ⟨rfl, rfl⟩ hd_X5_push ⟨Nat.le_of_ble_eq_true rfl, Nat.le_of_ble_eq_true rfl⟩ (kdlt6 (rfl : kdI 94 = 6)) ((shI_6 (rfl : kdI 94 = 6)) _) rfl rfl rfl hl.1 rfl (Nat.le_of_ble_eq_true rfl) dX9_addFrog_20 ⟨Nat.le_of_ble_eq_true rfl, Nat.le_of_ble_eq_true rfl⟩) (fun H locs hI => ?_)
  refine lv_aload_n C0.1 C0.2.1 dX9_addFrog_23 rfl (lv_at hl 0 rfl) ?_
  refine r_get (C := RX9) (T := TX9) (N9 := 11) (ci := 10) C0 C1 hI iX9 rfl 0 0 (kdlt0 (rfl : kdI 0 = 0)) (by decide) ((shI_0 (rfl : kdI 0 = 0)) _) rfl rfl w_342 dX9_addFrog_24 ?_
  refine lv_iload_n C0.1 C0.2.1 dX9_addFrog_27 rfl (lv_at hl 1 rfl) ?_
  refine lv_iload_n C0.1 C0.2.1 dX9_addFrog_28 rfl (lv_at hl 2 rfl) ?_
  obtain ⟨r_12, M_13, h_11, hf⟩ := ob2_some hf
  refine k_i C1 hI (q_VN C0 C1 hI 1 (c_X2_admit l g X r b H.size n M_10 1 (rfl : kdI 1 = 1) x1 x2 h_11) 21 rfl w_739 w_20 w_72 w_740 ⟨rfl, rfl⟩ hd_X2_admit ⟨Nat.le_of_ble_eq_true rfl, Nat.le_of_ble_eq_true rfl⟩ (kdlt1 (rfl : kdI 1 = 1)) ((shI_1 (rfl : kdI 1 = 1)) _) rfl rfl rfl hl.1 rfl (Nat.le_of_ble_eq_true rfl) dX9_addFrog_29 ⟨Nat.le_of_ble_eq_true rfl, Nat.le_of_ble_eq_true rfl⟩) (fun H locs hI => ?_)
  exact ex_zm C0 hI hr hlocks rfl hf dX9_addFrog_32


set_option maxHeartbeats 4000000 in
set_option maxRecDepth 100000 in
theorem p_X9_addFrog (l : Launch) (g : GG) (X : va_W) (r : Nat → Nat) (b : Nat → Nat) (sz n : Nat) (M : Mem) (x1 : Int32) (x2 : Int32) {r0 : Int32} {M' : Mem} (hf : F_X9_addFrog n x1 x2 M = some (.inr r0, M')) : Met l yX9_addFrog (.code yX9_addFrog cX9_addFrog 3 (some .int) :: LWg) (rmD 10 0 0) (va_Pc [.ref (b 0), .int x1, .int x2] (PreP g X 372 (shI g r b) b sz M)) (Qi g X 372 (shI g r b) b sz r0 M') 0 0 (AA X b 372 sz) := by
  refine met_go (by decide +kernel) rfl (Nat.le_of_ble_eq_true rfl) ?_
  intro p e s m below meth c ls H locs C0 C1 hr hlocks hnm hsz hl hI
  subst hsz
  have hl : lv_has ls 3 [(0, .ref (b 0)), (1, .int x1), (2, .int x2)] := hl
  unfold F_X9_addFrog at hf
  refine lv_aload_n C0.1 C0.2.1 dX9_addFrog_0 rfl (lv_at hl 0 rfl) ?_
  refine r_get (C := RX9) (T := TX9) (N9 := 11) (ci := 10) C0 C1 hI iX9 rfl 0 0 (kdlt0 (rfl : kdI 0 = 0)) (by decide) ((shI_0 (rfl : kdI 0 = 0)) _) rfl rfl w_342 dX9_addFrog_1 ?_
  refine lv_iload_n C0.1 C0.2.1 dX9_addFrog_4 rfl (lv_at hl 1 rfl) ?_
  refine lv_iload_n C0.1 C0.2.1 dX9_addFrog_5 rfl (lv_at hl 2 rfl) ?_
  obtain ⟨r_2, h_1, hf⟩ := ob_some hf
  refine k_e C1 hI (q_VN C0 C1 hI 1 (c_X2_refusalToAdmit l g X r b H.size n M 1 (rfl : kdI 1 = 1) x1 x2 h_1) 17 rfl w_713 w_16 w_72 w_714 ⟨rfl, rfl⟩ hd_X2_refusalToAdmit ⟨Nat.le_of_ble_eq_true rfl, Nat.le_of_ble_eq_true rfl⟩ (kdlt1 (rfl : kdI 1 = 1)) ((shI_1 (rfl : kdI 1 = 1)) _) rfl rfl rfl hl.1 rfl (Nat.le_of_ble_eq_true rfl) dX9_addFrog_6 ⟨Nat.le_of_ble_eq_true rfl, Nat.le_of_ble_eq_true rfl⟩) (fun H locs hI => ?_)
  obtain ⟨u_5, h_4, hf⟩ := obxr_p hf
  refine k_v C1 hI (q_S C0 C1 hI (p_X9_refuse l g X r b H.size n M r_2 h_4) w_423 w_424 w_71 w_425 ⟨rfl, rfl⟩ hd_X9_refuse ⟨Nat.le_of_ble_eq_true rfl, Nat.le_of_ble_eq_true rfl⟩ rfl hl.1 rfl (Nat.le_of_ble_eq_true rfl) dX9_addFrog_9 ⟨Nat.le_of_ble_eq_true rfl, Nat.le_of_ble_eq_true rfl⟩) (fun H locs hI => ?_)
  refine lv_aload_n C0.1 C0.2.1 dX9_addFrog_12 rfl (lv_at hl 0 rfl) ?_
  refine r_get (C := RX9) (T := TX9) (N9 := 11) (ci := 10) C0 C1 hI iX9 rfl 0 4 (kdlt0 (rfl : kdI 0 = 0)) (by decide) ((shI_0 (rfl : kdI 0 = 0)) _) rfl rfl w_346 dX9_addFrog_13 ?_
  refine lv_aload_n C0.1 C0.2.1 dX9_addFrog_16 rfl (lv_at hl 0 rfl) ?_
  refine r_get (C := RX9) (T := TX9) (N9 := 11) (ci := 10) C0 C1 hI iX9 rfl 0 0 (kdlt0 (rfl : kdI 0 = 0)) (by decide) ((shI_0 (rfl : kdI 0 = 0)) _) rfl rfl w_342 dX9_addFrog_17 ?_
  obtain ⟨M_7, h_6, hf⟩ := ob_some hf
  refine k_v C1 hI (q_VN C0 C1 hI 94 (c_X5_push l g X r b H.size n M 94 (rfl : kdI 94 = 6) 1 (rfl : kdI 1 = 1) h_6) 18 rfl w_723 w_17 w_74 w_724 ⟨rfl, rfl⟩ hd_X5_push ⟨Nat.le_of_ble_eq_true rfl, Nat.le_of_ble_eq_true rfl⟩ (kdlt6 (rfl : kdI 94 = 6)) ((shI_6 (rfl : kdI 94 = 6)) _) rfl rfl rfl hl.1 rfl (Nat.le_of_ble_eq_true rfl) dX9_addFrog_20 ⟨Nat.le_of_ble_eq_true rfl, Nat.le_of_ble_eq_true rfl⟩) (fun H locs hI => ?_)
  refine lv_aload_n C0.1 C0.2.1 dX9_addFrog_23 rfl (lv_at hl 0 rfl) ?_
  refine r_get (C := RX9) (T := TX9) (N9 := 11) (ci := 10) C0 C1 hI iX9 rfl 0 0 (kdlt0 (rfl : kdI 0 = 0)) (by decide) ((shI_0 (rfl : kdI 0 = 0)) _) rfl rfl w_342 dX9_addFrog_24 ?_
  refine lv_iload_n C0.1 C0.2.1 dX9_addFrog_27 rfl (lv_at hl 1 rfl) ?_
  refine lv_iload_n C0.1 C0.2.1 dX9_addFrog_28 rfl (lv_at hl 2 rfl) ?_
  obtain ⟨r_9, M_10, h_8, hf⟩ := ob2_some hf
  refine k_i C1 hI (q_VN C0 C1 hI 1 (c_X2_admit l g X r b H.size n M_7 1 (rfl : kdI 1 = 1) x1 x2 h_8) 21 rfl w_739 w_20 w_72 w_740 ⟨rfl, rfl⟩ hd_X2_admit ⟨Nat.le_of_ble_eq_true rfl, Nat.le_of_ble_eq_true rfl⟩ (kdlt1 (rfl : kdI 1 = 1)) ((shI_1 (rfl : kdI 1 = 1)) _) rfl rfl rfl hl.1 rfl (Nat.le_of_ble_eq_true rfl) dX9_addFrog_29 ⟨Nat.le_of_ble_eq_true rfl, Nat.le_of_ble_eq_true rfl⟩) (fun H locs hI => ?_)
  exact ep_zm C0 hI hr hlocks rfl hf dX9_addFrog_32

def F_X9_addPad (n : Nat) (x1 : Int32) (M : Mem) : Option (RX Int32 × Mem) :=
  ob (F_X2_refusalToLay n 1 x1 M) (fun r_2 => obxr (F_X9_refuse n r_2 M) M (fun u_5 => ob (F_X5_push n 94 1 M) (fun M_10 => ob2 (F_X2_lay n 1 x1 M_10) (fun r_12 M_13 => some (.inr r_12, M_13)))))
theorem hd_X9_addPad : yX9_addPad.cls ≠ "java/lang/invoke/MethodHandle" ∧ yX9_addPad.cls ≠ "java/lang/invoke/VarHandle" ∧ (parseMethodDescriptor yX9_addPad.desc).map (fun d => d.parameters.length) = some 1 := ⟨by decide +kernel, by decide +kernel, by decide +kernel⟩
set_option maxHeartbeats 4000000 in
set_option maxRecDepth 100000 in
theorem c_X9_addPad (l : Launch) (hl0 : l.stackTraces = false) (g : GG) (X : va_W) (r : Nat → Nat) (b : Nat → Nat) (sz n : Nat) (M : Mem) (x1 : Int32) {q0 : RX Int32} {M' : Mem} (hf : F_X9_addPad n x1 M = some (q0, M')) : vx_Met l yX9_addPad (.code yX9_addPad cX9_addPad 2 (some .int) :: LWg) (rmD 10 1 6) (va_Pc [.ref (b 0), .int x1] (PreP g X 372 (shI g r b) b sz M)) (QiX g X 372 (shI g r b) b sz q0 M') (XcX g X 372 (shI g r b) b sz q0 M') 1 6 (AA X b 372 sz) := by
  refine metx_go (by decide +kernel) rfl (Nat.le_of_ble_eq_true rfl) ?_
  intro p e s m below meth c ls H locs C0 C1 hr hlocks hno hsz hl hI
  subst hsz
  have hl : lv_has ls 2 [(0, .ref (b 0)), (1, .int x1)] := hl
  unfold F_X9_addPad at hf
  refine lv_aload_n C0.1 C0.2.1 dX9_addPad_0 rfl (lv_at hl 0 rfl) ?_
  refine r_get (C := RX9) (T := TX9) (N9 := 11) (ci := 10) C0 C1 hI iX9 rfl 0 0 (kdlt0 (rfl : kdI 0 = 0)) (by decide) ((shI_0 (rfl : kdI 0 = 0)) _) rfl rfl w_342 dX9_addPad_1 ?_
  refine lv_iload_n C0.1 C0.2.1 dX9_addPad_4 rfl (lv_at hl 1 rfl) ?_
  obtain ⟨r_2, h_1, hf⟩ := ob_some hf
  refine k_e C1 hI (q_VN C0 C1 hI 1 (c_X2_refusalToLay l g X r b H.size n M 1 (rfl : kdI 1 = 1) x1 h_1) 22 rfl w_750 w_21 w_72 w_751 ⟨rfl, rfl⟩ hd_X2_refusalToLay ⟨Nat.le_of_ble_eq_true rfl, Nat.le_of_ble_eq_true rfl⟩ (kdlt1 (rfl : kdI 1 = 1)) ((shI_1 (rfl : kdI 1 = 1)) _) rfl rfl rfl hl.1 rfl (Nat.le_of_ble_eq_true rfl) dX9_addPad_5 ⟨Nat.le_of_ble_eq_true rfl, Nat.le_of_ble_eq_true rfl⟩) (fun H locs hI => ?_)
  obtain ⟨q_6, h_4, h_7, h_8⟩ := obxr_x hf
  refine kx_v C1 hI (qx_S C0 C1 hI (c_X9_refuse l hl0 g X r b H.size n M r_2 h_4) w_423 w_424 w_71 w_425 ⟨rfl, rfl⟩ hd_X9_refuse ⟨Nat.le_of_ble_eq_true rfl, Nat.le_of_ble_eq_true rfl⟩ rfl hl.1 rfl (Nat.le_of_ble_eq_true rfl) dX9_addPad_8 ⟨Nat.le_of_ble_eq_true rfl, Nat.le_of_ble_eq_true rfl⟩) (fun k H locs ce q9 e1 hI g1 g2 g3 => x_outm hno hlocks hI g1 g2 g3 (h_7 k e1) (Nat.le_of_ble_eq_true rfl) (Nat.le_of_ble_eq_true rfl)) (fun u_5 H locs e1 hI => ?_)
  have hf := h_8 u_5 e1
  refine lv_aload_n C0.1 C0.2.1 dX9_addPad_11 rfl (lv_at hl 0 rfl) ?_
  refine r_get (C := RX9) (T := TX9) (N9 := 11) (ci := 10) C0 C1 hI iX9 rfl 0 4 (kdlt0 (rfl : kdI 0 = 0)) (by decide) ((shI_0 (rfl : kdI 0 = 0)) _) rfl rfl w_346 dX9_addPad_12 ?_
  refine lv_aload_n C0.1 C0.2.1 dX9_addPad_15 rfl (lv_at hl 0 rfl) ?_
  refine r_get (C := RX9) (T := TX9) (N9 := 11) (ci := 10) C0 C1 hI iX9 rfl 0 0 (kdlt0 (rfl : kdI 0 = 0)) (by decide) ((shI_0 (rfl : kdI 0 = 0)) _) rfl rfl w_342 dX9_addPad_16 ?_
  obtain ⟨M_10, h_9, hf⟩ := ob_some hf
  refine k_v C1 hI (q_VN C0 C1 hI 94 (c_X5_push l g X r b H.size n M 94 (rfl : kdI 94 = 6) 1 (rfl : kdI 1 = 1) h_9) 18 rfl w_723 w_17 w_74 w_724 ⟨rfl, rfl⟩ hd_X5_push ⟨Nat.le_of_ble_eq_true rfl, Nat.le_of_ble_eq_true rfl⟩ (kdlt6 (rfl : kdI 94 = 6)) ((shI_6 (rfl : kdI 94 = 6)) _) rfl rfl rfl hl.1 rfl (Nat.le_of_ble_eq_true rfl) dX9_addPad_19 ⟨Nat.le_of_ble_eq_true rfl, Nat.le_of_ble_eq_true rfl⟩) (fun H locs hI => ?_)
  refine lv_aload_n C0.1 C0.2.1 dX9_addPad_22 rfl (lv_at hl 0 rfl) ?_
  refine r_get (C := RX9) (T := TX9) (N9 := 11) (ci := 10) C0 C1 hI iX9 rfl 0 0 (kdlt0 (rfl : kdI 0 = 0)) (by decide) ((shI_0 (rfl : kdI 0 = 0)) _) rfl rfl w_342 dX9_addPad_23 ?_
  refine lv_iload_n C0.1 C0.2.1 dX9_addPad_26 rfl (lv_at hl 1 rfl) ?_
  obtain ⟨r_12, M_13, h_11, hf⟩ := ob2_some hf
  refine k_i C1 hI (q_VN C0 C1 hI 1 (c_X2_lay l g X r b H.size n M_10 1 (rfl : kdI 1 = 1) x1 h_11) 23 rfl w_756 w_22 w_72 w_757 ⟨rfl, rfl⟩ hd_X2_lay ⟨Nat.le_of_ble_eq_true rfl, Nat.le_of_ble_eq_true rfl⟩ (kdlt1 (rfl : kdI 1 = 1)) ((shI_1 (rfl : kdI 1 = 1)) _) rfl rfl rfl hl.1 rfl (Nat.le_of_ble_eq_true rfl) dX9_addPad_27 ⟨Nat.le_of_ble_eq_true rfl, Nat.le_of_ble_eq_true rfl⟩) (fun H locs hI => ?_)
  exact ex_zm C0 hI hr hlocks rfl hf dX9_addPad_30


set_option maxHeartbeats 4000000 in
set_option maxRecDepth 100000 in
theorem p_X9_addPad (l : Launch) (g : GG) (X : va_W) (r : Nat → Nat) (b : Nat → Nat) (sz n : Nat) (M : Mem) (x1 : Int32) {r0 : Int32} {M' : Mem} (hf : F_X9_addPad n x1 M = some (.inr r0, M')) : Met l yX9_addPad (.code yX9_addPad cX9_addPad 2 (some .int) :: LWg) (rmD 10 0 0) (va_Pc [.ref (b 0), .int x1] (PreP g X 372 (shI g r b) b sz M)) (Qi g X 372 (shI g r b) b sz r0 M') 0 0 (AA X b 372 sz) := by
  refine met_go (by decide +kernel) rfl (Nat.le_of_ble_eq_true rfl) ?_
  intro p e s m below meth c ls H locs C0 C1 hr hlocks hnm hsz hl hI
  subst hsz
  have hl : lv_has ls 2 [(0, .ref (b 0)), (1, .int x1)] := hl
  unfold F_X9_addPad at hf
  refine lv_aload_n C0.1 C0.2.1 dX9_addPad_0 rfl (lv_at hl 0 rfl) ?_
  refine r_get (C := RX9) (T := TX9) (N9 := 11) (ci := 10) C0 C1 hI iX9 rfl 0 0 (kdlt0 (rfl : kdI 0 = 0)) (by decide) ((shI_0 (rfl : kdI 0 = 0)) _) rfl rfl w_342 dX9_addPad_1 ?_
  refine lv_iload_n C0.1 C0.2.1 dX9_addPad_4 rfl (lv_at hl 1 rfl) ?_
  obtain ⟨r_2, h_1, hf⟩ := ob_some hf
  refine k_e C1 hI (q_VN C0 C1 hI 1 (c_X2_refusalToLay l g X r b H.size n M 1 (rfl : kdI 1 = 1) x1 h_1) 22 rfl w_750 w_21 w_72 w_751 ⟨rfl, rfl⟩ hd_X2_refusalToLay ⟨Nat.le_of_ble_eq_true rfl, Nat.le_of_ble_eq_true rfl⟩ (kdlt1 (rfl : kdI 1 = 1)) ((shI_1 (rfl : kdI 1 = 1)) _) rfl rfl rfl hl.1 rfl (Nat.le_of_ble_eq_true rfl) dX9_addPad_5 ⟨Nat.le_of_ble_eq_true rfl, Nat.le_of_ble_eq_true rfl⟩) (fun H locs hI => ?_)
  obtain ⟨u_5, h_4, hf⟩ := obxr_p hf
  refine k_v C1 hI (q_S C0 C1 hI (p_X9_refuse l g X r b H.size n M r_2 h_4) w_423 w_424 w_71 w_425 ⟨rfl, rfl⟩ hd_X9_refuse ⟨Nat.le_of_ble_eq_true rfl, Nat.le_of_ble_eq_true rfl⟩ rfl hl.1 rfl (Nat.le_of_ble_eq_true rfl) dX9_addPad_8 ⟨Nat.le_of_ble_eq_true rfl, Nat.le_of_ble_eq_true rfl⟩) (fun H locs hI => ?_)
  refine lv_aload_n C0.1 C0.2.1 dX9_addPad_11 rfl (lv_at hl 0 rfl) ?_
  refine r_get (C := RX9) (T := TX9) (N9 := 11) (ci := 10) C0 C1 hI iX9 rfl 0 4 (kdlt0 (rfl : kdI 0 = 0)) (by decide) ((shI_0 (rfl : kdI 0 = 0)) _) rfl rfl w_346 dX9_addPad_12 ?_
  refine lv_aload_n C0.1 C0.2.1 dX9_addPad_15 rfl (lv_at hl 0 rfl) ?_
  refine r_get (C := RX9) (T := TX9) (N9 := 11) (ci := 10) C0 C1 hI iX9 rfl 0 0 (kdlt0 (rfl : kdI 0 = 0)) (by decide) ((shI_0 (rfl : kdI 0 = 0)) _) rfl rfl w_342 dX9_addPad_16 ?_
  obtain ⟨M_7, h_6, hf⟩ := ob_some hf
  refine k_v C1 hI (q_VN C0 C1 hI 94 (c_X5_push l g X r b H.size n M 94 (rfl : kdI 94 = 6) 1 (rfl : kdI 1 = 1) h_6) 18 rfl w_723 w_17 w_74 w_724 ⟨rfl, rfl⟩ hd_X5_push ⟨Nat.le_of_ble_eq_true rfl, Nat.le_of_ble_eq_true rfl⟩ (kdlt6 (rfl : kdI 94 = 6)) ((shI_6 (rfl : kdI 94 = 6)) _) rfl rfl rfl hl.1 rfl (Nat.le_of_ble_eq_true rfl) dX9_addPad_19 ⟨Nat.le_of_ble_eq_true rfl, Nat.le_of_ble_eq_true rfl⟩) (fun H locs hI => ?_)
  refine lv_aload_n C0.1 C0.2.1 dX9_addPad_22 rfl (lv_at hl 0 rfl) ?_
  refine r_get (C := RX9) (T := TX9) (N9 := 11) (ci := 10) C0 C1 hI iX9 rfl 0 0 (kdlt0 (rfl : kdI 0 = 0)) (by decide) ((shI_0 (rfl : kdI 0 = 0)) _) rfl rfl w_342 dX9_addPad_23 ?_
  refine lv_iload_n C0.1 C0.2.1 dX9_addPad_26 rfl (lv_at hl 1 rfl) ?_
  obtain ⟨r_9, M_10, h_8, hf⟩ := ob2_some hf
  refine k_i C1 hI (q_VN C0 C1 hI 1 (c_X2_lay l g X r b H.size n M_7 1 (rfl : kdI 1 = 1) x1 h_8) 23 rfl w_756 w_22 w_72 w_757 ⟨rfl, rfl⟩ hd_X2_lay ⟨Nat.le_of_ble_eq_true rfl, Nat.le_of_ble_eq_true rfl⟩ (kdlt1 (rfl : kdI 1 = 1)) ((shI_1 (rfl : kdI 1 = 1)) _) rfl rfl rfl hl.1 rfl (Nat.le_of_ble_eq_true rfl) dX9_addPad_27 ⟨Nat.le_of_ble_eq_true rfl, Nat.le_of_ble_eq_true rfl⟩) (fun H locs hI => ?_)
  exact ep_zm C0 hI hr hlocks rfl hf dX9_addPad_30

def F_X9_hop (n : Nat) (x1 : Int32) (x2 : Int32) (M : Mem) : Option (RX Int32 × Mem) :=
  ob (F_X2_refusalToSeat n 1 x1 x2 M) (fun r_2 => obxr (F_X9_refuse n r_2 M) M (fun u_5 => ob (F_X5_push n 94 1 M) (fun M_10 => ob2 (F_X2_seat n 1 x1 x2 M_10) (fun r_12 M_13 => some (.inr r_12, M_13)))))
theorem hd_X9_hop : yX9_hop.cls ≠ "java/lang/invoke/MethodHandle" ∧ yX9_hop.cls ≠ "java/lang/invoke/VarHandle" ∧ (parseMethodDescriptor yX9_hop.desc).map (fun d => d.parameters.length) = some 2 := ⟨by decide +kernel, by decide +kernel, by decide +kernel⟩
set_option maxHeartbeats 4000000 in
set_option maxRecDepth 100000 in
theorem c_X9_hop (l : Launch) (hl0 : l.stackTraces = false) (g : GG) (X : va_W) (r : Nat → Nat) (b : Nat → Nat) (sz n : Nat) (M : Mem) (x1 : Int32) (x2 : Int32) {q0 : RX Int32} {M' : Mem} (hf : F_X9_hop n x1 x2 M = some (q0, M')) : vx_Met l yX9_hop (.code yX9_hop cX9_hop 3 (some .int) :: LWg) (rmD 10 1 6) (va_Pc [.ref (b 0), .int x1, .int x2] (PreP g X 372 (shI g r b) b sz M)) (QiX g X 372 (shI g r b) b sz q0 M') (XcX g X 372 (shI g r b) b sz q0 M') 1 6 (AA X b 372 sz) := by
  refine metx_go (by decide +kernel) rfl (Nat.le_of_ble_eq_true rfl) ?_
  intro p e s m below meth c ls H locs C0 C1 hr hlocks hno hsz hl hI
  subst hsz
  have hl : lv_has ls 3 [(0, .ref (b 0)), (1, .int x1), (2, .int x2)] := hl
  unfold F_X9_hop at hf
  refine lv_aload_n C0.1 C0.2.1 dX9_hop_0 rfl (lv_at hl 0 rfl) ?_
  refine r_get (C := RX9) (T := TX9) (N9 := 11) (ci := 10) C0 C1 hI iX9 rfl 0 0 (kdlt0 (rfl : kdI 0 = 0)) (by decide) ((shI_0 (rfl : kdI 0 = 0)) _) rfl rfl w_342 dX9_hop_1 ?_
  refine lv_iload_n C0.1 C0.2.1 dX9_hop_4 rfl (lv_at hl 1 rfl) ?_
  refine lv_iload_n C0.1 C0.2.1 dX9_hop_5 rfl (lv_at hl 2 rfl) ?_
  obtain ⟨r_2, h_1, hf⟩ := ob_some hf
  refine k_e C1 hI (q_VN C0 C1 hI 1 (c_X2_refusalToSeat l g X r b H.size n M 1 (rfl : kdI 1 = 1) x1 x2 h_1) 24 rfl w_767 w_23 w_72 w_768 ⟨rfl, rfl⟩ hd_X2_refusalToSeat ⟨Nat.le_of_ble_eq_true rfl, Nat.le_of_ble_eq_true rfl⟩ (kdlt1 (rfl : kdI 1 = 1)) ((shI_1 (rfl : kdI 1 = 1)) _) rfl rfl rfl hl.1 rfl (Nat.le_of_ble_eq_true rfl) dX9_hop_6 ⟨Nat.le_of_ble_eq_true rfl, Nat.le_of_ble_eq_true rfl⟩) (fun H locs hI => ?_)
  obtain ⟨q_6, h_4, h_7, h_8⟩ := obxr_x hf
  refine kx_v C1 hI (qx_S C0 C1 hI (c_X9_refuse l hl0 g X r b H.size n M r_2 h_4) w_423 w_424 w_71 w_425 ⟨rfl, rfl⟩ hd_X9_refuse ⟨Nat.le_of_ble_eq_true rfl, Nat.le_of_ble_eq_true rfl⟩ rfl hl.1 rfl (Nat.le_of_ble_eq_true rfl) dX9_hop_9 ⟨Nat.le_of_ble_eq_true rfl, Nat.le_of_ble_eq_true rfl⟩) (fun k H locs ce q9 e1 hI g1 g2 g3 => x_outm hno hlocks hI g1 g2 g3 (h_7 k e1) (Nat.le_of_ble_eq_true rfl) (Nat.le_of_ble_eq_true rfl)) (fun u_5 H locs e1 hI => ?_)
  have hf := h_8 u_5 e1
  refine lv_aload_n C0.1 C0.2.1 dX9_hop_12 rfl (lv_at hl 0 rfl) ?_
  refine r_get (C := RX9) (T := TX9) (N9 := 11) (ci := 10) C0 C1 hI iX9 rfl 0 4 (kdlt0 (rfl : kdI 0 = 0)) (by decide) ((shI_0 (rfl : kdI 0 = 0)) _) rfl rfl w_346 dX9_hop_13 ?_
  refine lv_aload_n C0.1 C0.2.1 dX9_hop_16 rfl (lv_at hl 0 rfl) ?_
  refine r_get (C := RX9) (T := TX9) (N9 := 11) (ci := 10) C0 C1 hI iX9 rfl 0 0 (kdlt0 (rfl : kdI 0 = 0)) (by decide) ((shI_0 (rfl : kdI 0 = 0)) _) rfl rfl w_342 dX9_hop_17 ?_
  obtain ⟨M_10, h_9, hf⟩ := ob_some hf
  refine k_v C1 hI (q_VN C0 C1 hI 94 (c_X5_push l g X r b H.size n M 94 (rfl : kdI 94 = 6) 1 (rfl : kdI 1 = 1) h_9) 18 rfl w_723 w_17 w_74 w_724 ⟨rfl, rfl⟩ hd_X5_push ⟨Nat.le_of_ble_eq_true rfl, Nat.le_of_ble_eq_true rfl⟩ (kdlt6 (rfl : kdI 94 = 6)) ((shI_6 (rfl : kdI 94 = 6)) _) rfl rfl rfl hl.1 rfl (Nat.le_of_ble_eq_true rfl) dX9_hop_20 ⟨Nat.le_of_ble_eq_true rfl, Nat.le_of_ble_eq_true rfl⟩) (fun H locs hI => ?_)
  refine lv_aload_n C0.1 C0.2.1 dX9_hop_23 rfl (lv_at hl 0 rfl) ?_
  refine r_get (C := RX9) (T := TX9) (N9 := 11) (ci := 10) C0 C1 hI iX9 rfl 0 0 (kdlt0 (rfl : kdI 0 = 0)) (by decide) ((shI_0 (rfl : kdI 0 = 0)) _) rfl rfl w_342 dX9_hop_24 ?_
  refine lv_iload_n C0.1 C0.2.1 dX9_hop_27 rfl (lv_at hl 1 rfl) ?_
  refine lv_iload_n C0.1 C0.2.1 dX9_hop_28 rfl (lv_at hl 2 rfl) ?_
  obtain ⟨r_12, M_13, h_11, hf⟩ := ob2_some hf
  refine k_i C1 hI (q_VN C0 C1 hI 1 (c_X2_seat l g X r b H.size n M_10 1 (rfl : kdI 1 = 1) x1 x2 h_11) 25 rfl w_788 w_26 w_72 w_789 ⟨rfl, rfl⟩ hd_X2_seat ⟨Nat.le_of_ble_eq_true rfl, Nat.le_of_ble_eq_true rfl⟩ (kdlt1 (rfl : kdI 1 = 1)) ((shI_1 (rfl : kdI 1 = 1)) _) rfl rfl rfl hl.1 rfl (Nat.le_of_ble_eq_true rfl) dX9_hop_29 ⟨Nat.le_of_ble_eq_true rfl, Nat.le_of_ble_eq_true rfl⟩) (fun H locs hI => ?_)
  exact ex_zm C0 hI hr hlocks rfl hf dX9_hop_32


set_option maxHeartbeats 4000000 in
set_option maxRecDepth 100000 in
theorem p_X9_hop (l : Launch) (g : GG) (X : va_W) (r : Nat → Nat) (b : Nat → Nat) (sz n : Nat) (M : Mem) (x1 : Int32) (x2 : Int32) {r0 : Int32} {M' : Mem} (hf : F_X9_hop n x1 x2 M = some (.inr r0, M')) : Met l yX9_hop (.code yX9_hop cX9_hop 3 (some .int) :: LWg) (rmD 10 0 0) (va_Pc [.ref (b 0), .int x1, .int x2] (PreP g X 372 (shI g r b) b sz M)) (Qi g X 372 (shI g r b) b sz r0 M') 0 0 (AA X b 372 sz) := by
  refine met_go (by decide +kernel) rfl (Nat.le_of_ble_eq_true rfl) ?_
  intro p e s m below meth c ls H locs C0 C1 hr hlocks hnm hsz hl hI
  subst hsz
  have hl : lv_has ls 3 [(0, .ref (b 0)), (1, .int x1), (2, .int x2)] := hl
  unfold F_X9_hop at hf
  refine lv_aload_n C0.1 C0.2.1 dX9_hop_0 rfl (lv_at hl 0 rfl) ?_
  refine r_get (C := RX9) (T := TX9) (N9 := 11) (ci := 10) C0 C1 hI iX9 rfl 0 0 (kdlt0 (rfl : kdI 0 = 0)) (by decide) ((shI_0 (rfl : kdI 0 = 0)) _) rfl rfl w_342 dX9_hop_1 ?_
  refine lv_iload_n C0.1 C0.2.1 dX9_hop_4 rfl (lv_at hl 1 rfl) ?_
  refine lv_iload_n C0.1 C0.2.1 dX9_hop_5 rfl (lv_at hl 2 rfl) ?_
  obtain ⟨r_2, h_1, hf⟩ := ob_some hf
  refine k_e C1 hI (q_VN C0 C1 hI 1 (c_X2_refusalToSeat l g X r b H.size n M 1 (rfl : kdI 1 = 1) x1 x2 h_1) 24 rfl w_767 w_23 w_72 w_768 ⟨rfl, rfl⟩ hd_X2_refusalToSeat ⟨Nat.le_of_ble_eq_true rfl, Nat.le_of_ble_eq_true rfl⟩ (kdlt1 (rfl : kdI 1 = 1)) ((shI_1 (rfl : kdI 1 = 1)) _) rfl rfl rfl hl.1 rfl (Nat.le_of_ble_eq_true rfl) dX9_hop_6 ⟨Nat.le_of_ble_eq_true rfl, Nat.le_of_ble_eq_true rfl⟩) (fun H locs hI => ?_)
  obtain ⟨u_5, h_4, hf⟩ := obxr_p hf
  refine k_v C1 hI (q_S C0 C1 hI (p_X9_refuse l g X r b H.size n M r_2 h_4) w_423 w_424 w_71 w_425 ⟨rfl, rfl⟩ hd_X9_refuse ⟨Nat.le_of_ble_eq_true rfl, Nat.le_of_ble_eq_true rfl⟩ rfl hl.1 rfl (Nat.le_of_ble_eq_true rfl) dX9_hop_9 ⟨Nat.le_of_ble_eq_true rfl, Nat.le_of_ble_eq_true rfl⟩) (fun H locs hI => ?_)
  refine lv_aload_n C0.1 C0.2.1 dX9_hop_12 rfl (lv_at hl 0 rfl) ?_
  refine r_get (C := RX9) (T := TX9) (N9 := 11) (ci := 10) C0 C1 hI iX9 rfl 0 4 (kdlt0 (rfl : kdI 0 = 0)) (by decide) ((shI_0 (rfl : kdI 0 = 0)) _) rfl rfl w_346 dX9_hop_13 ?_
  refine lv_aload_n C0.1 C0.2.1 dX9_hop_16 rfl (lv_at hl 0 rfl) ?_
  refine r_get (C := RX9) (T := TX9) (N9 := 11) (ci := 10) C0 C1 hI iX9 rfl 0 0 (kdlt0 (rfl : kdI 0 = 0)) (by decide) ((shI_0 (rfl : kdI 0 = 0)) _) rfl rfl w_342 dX9_hop_17 ?_
  obtain ⟨M_7, h_6, hf⟩ := ob_some hf
  refine k_v C1 hI (q_VN C0 C1 hI 94 (c_X5_push l g X r b H.size n M 94 (rfl : kdI 94 = 6) 1 (rfl : kdI 1 = 1) h_6) 18 rfl w_723 w_17 w_74 w_724 ⟨rfl, rfl⟩ hd_X5_push ⟨Nat.le_of_ble_eq_true rfl, Nat.le_of_ble_eq_true rfl⟩ (kdlt6 (rfl : kdI 94 = 6)) ((shI_6 (rfl : kdI 94 = 6)) _) rfl rfl rfl hl.1 rfl (Nat.le_of_ble_eq_true rfl) dX9_hop_20 ⟨Nat.le_of_ble_eq_true rfl, Nat.le_of_ble_eq_true rfl⟩) (fun H locs hI => ?_)
  refine lv_aload_n C0.1 C0.2.1 dX9_hop_23 rfl (lv_at hl 0 rfl) ?_
  refine r_get (C := RX9) (T := TX9) (N9 := 11) (ci := 10) C0 C1 hI iX9 rfl 0 0 (kdlt0 (rfl : kdI 0 = 0)) (by decide) ((shI_0 (rfl : kdI 0 = 0)) _) rfl rfl w_342 dX9_hop_24 ?_
  refine lv_iload_n C0.1 C0.2.1 dX9_hop_27 rfl (lv_at hl 1 rfl) ?_
  refine lv_iload_n C0.1 C0.2.1 dX9_hop_28 rfl (lv_at hl 2 rfl) ?_
  obtain ⟨r_9, M_10, h_8, hf⟩ := ob2_some hf
  refine k_i C1 hI (q_VN C0 C1 hI 1 (c_X2_seat l g X r b H.size n M_7 1 (rfl : kdI 1 = 1) x1 x2 h_8) 25 rfl w_788 w_26 w_72 w_789 ⟨rfl, rfl⟩ hd_X2_seat ⟨Nat.le_of_ble_eq_true rfl, Nat.le_of_ble_eq_true rfl⟩ (kdlt1 (rfl : kdI 1 = 1)) ((shI_1 (rfl : kdI 1 = 1)) _) rfl rfl rfl hl.1 rfl (Nat.le_of_ble_eq_true rfl) dX9_hop_29 ⟨Nat.le_of_ble_eq_true rfl, Nat.le_of_ble_eq_true rfl⟩) (fun H locs hI => ?_)
  exact ep_zm C0 hI hr hlocks rfl hf dX9_hop_32

def F_X9_dive (n : Nat) (x1 : Int32) (M : Mem) : Option (RX Int32 × Mem) :=
  ob (F_X2_refusalToUnseat n 1 x1 M) (fun r_2 => obxr (F_X9_refuse n r_2 M) M (fun u_5 => ob (F_X5_push n 94 1 M) (fun M_10 => ob2 (F_X2_unseat n 1 x1 M_10) (fun r_12 M_13 => some (.inr r_12, M_13)))))
theorem hd_X9_dive : yX9_dive.cls ≠ "java/lang/invoke/MethodHandle" ∧ yX9_dive.cls ≠ "java/lang/invoke/VarHandle" ∧ (parseMethodDescriptor yX9_dive.desc).map (fun d => d.parameters.length) = some 1 := ⟨by decide +kernel, by decide +kernel, by decide +kernel⟩
set_option maxHeartbeats 4000000 in
set_option maxRecDepth 100000 in
theorem c_X9_dive (l : Launch) (hl0 : l.stackTraces = false) (g : GG) (X : va_W) (r : Nat → Nat) (b : Nat → Nat) (sz n : Nat) (M : Mem) (x1 : Int32) {q0 : RX Int32} {M' : Mem} (hf : F_X9_dive n x1 M = some (q0, M')) : vx_Met l yX9_dive (.code yX9_dive cX9_dive 2 (some .int) :: LWg) (rmD 10 1 6) (va_Pc [.ref (b 0), .int x1] (PreP g X 372 (shI g r b) b sz M)) (QiX g X 372 (shI g r b) b sz q0 M') (XcX g X 372 (shI g r b) b sz q0 M') 1 6 (AA X b 372 sz) := by
  refine metx_go (by decide +kernel) rfl (Nat.le_of_ble_eq_true rfl) ?_
  intro p e s m below meth c ls H locs C0 C1 hr hlocks hno hsz hl hI
  subst hsz
  have hl : lv_has ls 2 [(0, .ref (b 0)), (1, .int x1)] := hl
  unfold F_X9_dive at hf
  refine lv_aload_n C0.1 C0.2.1 dX9_dive_0 rfl (lv_at hl 0 rfl) ?_
  refine r_get (C := RX9) (T := TX9) (N9 := 11) (ci := 10) C0 C1 hI iX9 rfl 0 0 (kdlt0 (rfl : kdI 0 = 0)) (by decide) ((shI_0 (rfl : kdI 0 = 0)) _) rfl rfl w_342 dX9_dive_1 ?_
  refine lv_iload_n C0.1 C0.2.1 dX9_dive_4 rfl (lv_at hl 1 rfl) ?_
  obtain ⟨r_2, h_1, hf⟩ := ob_some hf
  refine k_e C1 hI (q_VN C0 C1 hI 1 (c_X2_refusalToUnseat l g X r b H.size n M 1 (rfl : kdI 1 = 1) x1 h_1) 26 rfl w_799 w_27 w_72 w_800 ⟨rfl, rfl⟩ hd_X2_refusalToUnseat ⟨Nat.le_of_ble_eq_true rfl, Nat.le_of_ble_eq_true rfl⟩ (kdlt1 (rfl : kdI 1 = 1)) ((shI_1 (rfl : kdI 1 = 1)) _) rfl rfl rfl hl.1 rfl (Nat.le_of_ble_eq_true rfl) dX9_dive_5 ⟨Nat.le_of_ble_eq_true rfl, Nat.le_of_ble_eq_true rfl⟩) (fun H locs hI => ?_)
  obtain ⟨q_6, h_4, h_7, h_8⟩ := obxr_x hf
  refine kx_v C1 hI (qx_S C0 C1 hI (c_X9_refuse l hl0 g X r b H.size n M r_2 h_4) w_423 w_424 w_71 w_425 ⟨rfl, rfl⟩ hd_X9_refuse ⟨Nat.le_of_ble_eq_true rfl, Nat.le_of_ble_eq_true rfl⟩ rfl hl.1 rfl (Nat.le_of_ble_eq_true rfl) dX9_dive_8 ⟨Nat.le_of_ble_eq_true rfl, Nat.le_of_ble_eq_true rfl⟩) (fun k H locs ce q9 e1 hI g1 g2 g3 => x_outm hno hlocks hI g1 g2 g3 (h_7 k e1) (Nat.le_of_ble_eq_true rfl) (Nat.le_of_ble_eq_true rfl)) (fun u_5 H locs e1 hI => ?_)
  have hf := h_8 u_5 e1
  refine lv_aload_n C0.1 C0.2.1 dX9_dive_11 rfl (lv_at hl 0 rfl) ?_
  refine r_get (C := RX9) (T := TX9) (N9 := 11) (ci := 10) C0 C1 hI iX9 rfl 0 4 (kdlt0 (rfl : kdI 0 = 0)) (by decide) ((shI_0 (rfl : kdI 0 = 0)) _) rfl rfl w_346 dX9_dive_12 ?_
  refine lv_aload_n C0.1 C0.2.1 dX9_dive_15 rfl (lv_at hl 0 rfl) ?_
  refine r_get (C := RX9) (T := TX9) (N9 := 11) (ci := 10) C0 C1 hI iX9 rfl 0 0 (kdlt0 (rfl : kdI 0 = 0)) (by decide) ((shI_0 (rfl : kdI 0 = 0)) _) rfl rfl w_342 dX9_dive_16 ?_
  obtain ⟨M_10, h_9, hf⟩ := ob_some hf
  refine k_v C1 hI (q_VN C0 C1 hI 94 (c_X5_push l g X r b H.size n M 94 (rfl : kdI 94 = 6) 1 (rfl : kdI 1 = 1) h_9) 18 rfl w_723 w_17 w_74 w_724 ⟨rfl, rfl⟩ hd_X5_push ⟨Nat.le_of_ble_eq_true rfl, Nat.le_of_ble_eq_true rfl⟩ (kdlt6 (rfl : kdI 94 = 6)) ((shI_6 (rfl : kdI 94 = 6)) _) rfl rfl rfl hl.1 rfl (Nat.le_of_ble_eq_true rfl) dX9_dive_19 ⟨Nat.le_of_ble_eq_true rfl, Nat.le_of_ble_eq_true rfl⟩) (fun H locs hI => ?_)
  refine lv_aload_n C0.1 C0.2.1 dX9_dive_22 rfl (lv_at hl 0 rfl) ?_
  refine r_get (C := RX9) (T := TX9) (N9 := 11) (ci := 10) C0 C1 hI iX9 rfl 0 0 (kdlt0 (rfl : kdI 0 = 0)) (by decide) ((shI_0 (rfl : kdI 0 = 0)) _) rfl rfl w_342 dX9_dive_23 ?_
  refine lv_iload_n C0.1 C0.2.1 dX9_dive_26 rfl (lv_at hl 1 rfl) ?_
  obtain ⟨r_12, M_13, h_11, hf⟩ := ob2_some hf
  refine k_i C1 hI (q_VN C0 C1 hI 1 (c_X2_unseat l g X r b H.size n M_10 1 (rfl : kdI 1 = 1) x1 h_11) 27 rfl w_809 w_29 w_72 w_810 ⟨rfl, rfl⟩ hd_X2_unseat ⟨Nat.le_of_ble_eq_true rfl, Nat.le_of_ble_eq_true rfl⟩ (kdlt1 (rfl : kdI 1 = 1)) ((shI_1 (rfl : kdI 1 = 1)) _) rfl rfl rfl hl.1 rfl (Nat.le_of_ble_eq_true rfl) dX9_dive_27 ⟨Nat.le_of_ble_eq_true rfl, Nat.le_of_ble_eq_true rfl⟩) (fun H locs hI => ?_)
  exact ex_zm C0 hI hr hlocks rfl hf dX9_dive_30


set_option maxHeartbeats 4000000 in
set_option maxRecDepth 100000 in
theorem p_X9_dive (l : Launch) (g : GG) (X : va_W) (r : Nat → Nat) (b : Nat → Nat) (sz n : Nat) (M : Mem) (x1 : Int32) {r0 : Int32} {M' : Mem} (hf : F_X9_dive n x1 M = some (.inr r0, M')) : Met l yX9_dive (.code yX9_dive cX9_dive 2 (some .int) :: LWg) (rmD 10 0 0) (va_Pc [.ref (b 0), .int x1] (PreP g X 372 (shI g r b) b sz M)) (Qi g X 372 (shI g r b) b sz r0 M') 0 0 (AA X b 372 sz) := by
  refine met_go (by decide +kernel) rfl (Nat.le_of_ble_eq_true rfl) ?_
  intro p e s m below meth c ls H locs C0 C1 hr hlocks hnm hsz hl hI
  subst hsz
  have hl : lv_has ls 2 [(0, .ref (b 0)), (1, .int x1)] := hl
  unfold F_X9_dive at hf
  refine lv_aload_n C0.1 C0.2.1 dX9_dive_0 rfl (lv_at hl 0 rfl) ?_
  refine r_get (C := RX9) (T := TX9) (N9 := 11) (ci := 10) C0 C1 hI iX9 rfl 0 0 (kdlt0 (rfl : kdI 0 = 0)) (by decide) ((shI_0 (rfl : kdI 0 = 0)) _) rfl rfl w_342 dX9_dive_1 ?_
  refine lv_iload_n C0.1 C0.2.1 dX9_dive_4 rfl (lv_at hl 1 rfl) ?_
  obtain ⟨r_2, h_1, hf⟩ := ob_some hf
  refine k_e C1 hI (q_VN C0 C1 hI 1 (c_X2_refusalToUnseat l g X r b H.size n M 1 (rfl : kdI 1 = 1) x1 h_1) 26 rfl w_799 w_27 w_72 w_800 ⟨rfl, rfl⟩ hd_X2_refusalToUnseat ⟨Nat.le_of_ble_eq_true rfl, Nat.le_of_ble_eq_true rfl⟩ (kdlt1 (rfl : kdI 1 = 1)) ((shI_1 (rfl : kdI 1 = 1)) _) rfl rfl rfl hl.1 rfl (Nat.le_of_ble_eq_true rfl) dX9_dive_5 ⟨Nat.le_of_ble_eq_true rfl, Nat.le_of_ble_eq_true rfl⟩) (fun H locs hI => ?_)
  obtain ⟨u_5, h_4, hf⟩ := obxr_p hf
  refine k_v C1 hI (q_S C0 C1 hI (p_X9_refuse l g X r b H.size n M r_2 h_4) w_423 w_424 w_71 w_425 ⟨rfl, rfl⟩ hd_X9_refuse ⟨Nat.le_of_ble_eq_true rfl, Nat.le_of_ble_eq_true rfl⟩ rfl hl.1 rfl (Nat.le_of_ble_eq_true rfl) dX9_dive_8 ⟨Nat.le_of_ble_eq_true rfl, Nat.le_of_ble_eq_true rfl⟩) (fun H locs hI => ?_)
  refine lv_aload_n C0.1 C0.2.1 dX9_dive_11 rfl (lv_at hl 0 rfl) ?_
  refine r_get (C := RX9) (T := TX9) (N9 := 11) (ci := 10) C0 C1 hI iX9 rfl 0 4 (kdlt0 (rfl : kdI 0 = 0)) (by decide) ((shI_0 (rfl : kdI 0 = 0)) _) rfl rfl w_346 dX9_dive_12 ?_
  refine lv_aload_n C0.1 C0.2.1 dX9_dive_15 rfl (lv_at hl 0 rfl) ?_
  refine r_get (C := RX9) (T := TX9) (N9 := 11) (ci := 10) C0 C1 hI iX9 rfl 0 0 (kdlt0 (rfl : kdI 0 = 0)) (by decide) ((shI_0 (rfl : kdI 0 = 0)) _) rfl rfl w_342 dX9_dive_16 ?_
  obtain ⟨M_7, h_6, hf⟩ := ob_some hf
  refine k_v C1 hI (q_VN C0 C1 hI 94 (c_X5_push l g X r b H.size n M 94 (rfl : kdI 94 = 6) 1 (rfl : kdI 1 = 1) h_6) 18 rfl w_723 w_17 w_74 w_724 ⟨rfl, rfl⟩ hd_X5_push ⟨Nat.le_of_ble_eq_true rfl, Nat.le_of_ble_eq_true rfl⟩ (kdlt6 (rfl : kdI 94 = 6)) ((shI_6 (rfl : kdI 94 = 6)) _) rfl rfl rfl hl.1 rfl (Nat.le_of_ble_eq_true rfl) dX9_dive_19 ⟨Nat.le_of_ble_eq_true rfl, Nat.le_of_ble_eq_true rfl⟩) (fun H locs hI => ?_)
  refine lv_aload_n C0.1 C0.2.1 dX9_dive_22 rfl (lv_at hl 0 rfl) ?_
  refine r_get (C := RX9) (T := TX9) (N9 := 11) (ci := 10) C0 C1 hI iX9 rfl 0 0 (kdlt0 (rfl : kdI 0 = 0)) (by decide) ((shI_0 (rfl : kdI 0 = 0)) _) rfl rfl w_342 dX9_dive_23 ?_
  refine lv_iload_n C0.1 C0.2.1 dX9_dive_26 rfl (lv_at hl 1 rfl) ?_
  obtain ⟨r_9, M_10, h_8, hf⟩ := ob2_some hf
  refine k_i C1 hI (q_VN C0 C1 hI 1 (c_X2_unseat l g X r b H.size n M_7 1 (rfl : kdI 1 = 1) x1 h_8) 27 rfl w_809 w_29 w_72 w_810 ⟨rfl, rfl⟩ hd_X2_unseat ⟨Nat.le_of_ble_eq_true rfl, Nat.le_of_ble_eq_true rfl⟩ (kdlt1 (rfl : kdI 1 = 1)) ((shI_1 (rfl : kdI 1 = 1)) _) rfl rfl rfl hl.1 rfl (Nat.le_of_ble_eq_true rfl) dX9_dive_27 ⟨Nat.le_of_ble_eq_true rfl, Nat.le_of_ble_eq_true rfl⟩) (fun H locs hI => ?_)
  exact ep_zm C0 hI hr hlocks rfl hf dX9_dive_30

def F_X9_frogCount (n : Nat) (M : Mem) : Option Int32 :=
  some (M 1 0)
theorem hd_X9_frogCount : yX9_frogCount.cls ≠ "java/lang/invoke/MethodHandle" ∧ yX9_frogCount.cls ≠ "java/lang/invoke/VarHandle" ∧ (parseMethodDescriptor yX9_frogCount.desc).map (fun d => d.parameters.length) = some 0 := ⟨by decide +kernel, by decide +kernel, by decide +kernel⟩
set_option maxHeartbeats 4000000 in
set_option maxRecDepth 100000 in
theorem c_X9_frogCount (l : Launch) (g : GG) (X : va_W) (r : Nat → Nat) (b : Nat → Nat) (sz n : Nat) (M : Mem) {r0 : Int32} (hf : F_X9_frogCount n M = some r0) : Met l yX9_frogCount (.code yX9_frogCount cX9_frogCount 1 (some .int) :: LWg) (rmD 0 0 0) (va_Pc [.ref (b 0)] (PreP g X 372 (shI g r b) b sz M)) (Qi g X 372 (shI g r b) b sz r0 M) 0 0 (AA X b 372 sz) := by
  refine met_go (by decide +kernel) rfl (Nat.le_of_ble_eq_true rfl) ?_
  intro p e s m below meth c ls H locs C0 C1 hr hlocks hnm hsz hl hI
  subst hsz
  have hl : lv_has ls 1 [(0, .ref (b 0))] := hl
  unfold F_X9_frogCount at hf
  refine lv_aload_n C0.1 C0.2.1 dX9_frogCount_0 rfl (lv_at hl 0 rfl) ?_
  refine r_get (C := RX9) (T := TX9) (N9 := 11) (ci := 10) C0 C1 hI iX9 rfl 0 0 (kdlt0 (rfl : kdI 0 = 0)) (by decide) ((shI_0 (rfl : kdI 0 = 0)) _) rfl rfl w_342 dX9_frogCount_1 ?_
  refine r_getN (C := RX2) (T := TX2) (N9 := 12) (ci := 4) C0 C1 hI iX2 rfl 1 0 (kdlt1 (rfl : kdI 1 = 1)) (by decide) ((shI_1 (rfl : kdI 1 = 1)) _) rfl rfl 21 rfl dX9_frogCount_4 ?_
  exact ee_i C0 hI hr hlocks hf dX9_frogCount_7

def F_X9_requireFrog (n : Nat) (x1 : Int32) (M : Mem) : Option (RX Unit) :=
  ob (F_X2_hasFrog n 1 x1 M) (fun r_2 => (if r_2 = 0 then obx (F_X9_refuse n 2 M) (fun u_6 => some (.inr ())) else obx (F_X9_refuse n 0 M) (fun u_12 => some (.inr ()))))
theorem hd_X9_requireFrog : yX9_requireFrog.cls ≠ "java/lang/invoke/MethodHandle" ∧ yX9_requireFrog.cls ≠ "java/lang/invoke/VarHandle" ∧ (parseMethodDescriptor yX9_requireFrog.desc).map (fun d => d.parameters.length) = some 1 := ⟨by decide +kernel, by decide +kernel, by decide +kernel⟩
set_option maxHeartbeats 4000000 in
set_option maxRecDepth 100000 in
theorem c_X9_requireFrog (l : Launch) (hl0 : l.stackTraces = false) (g : GG) (X : va_W) (r : Nat → Nat) (b : Nat → Nat) (sz n : Nat) (M : Mem) (x1 : Int32) {q0 : RX Unit} (hf : F_X9_requireFrog n x1 M = some q0) : vx_Met l yX9_requireFrog (.code yX9_requireFrog cX9_requireFrog 2 none :: LWg) (rmD 10 1 6) (va_Pc [.ref (b 0), .int x1] (PreP g X 372 (shI g r b) b sz M)) (QvX g X 372 (shI g r b) b sz q0 M) (XcX g X 372 (shI g r b) b sz q0 M) 1 6 (AA X b 372 sz) := by
  refine metx_go (by decide +kernel) rfl (Nat.le_of_ble_eq_true rfl) ?_
  intro p e s m below meth c ls H locs C0 C1 hr hlocks hno hsz hl hI
  subst hsz
  have hl : lv_has ls 2 [(0, .ref (b 0)), (1, .int x1)] := hl
  unfold F_X9_requireFrog at hf
  refine lv_aload_n C0.1 C0.2.1 dX9_requireFrog_0 rfl (lv_at hl 0 rfl) ?_
  refine r_get (C := RX9) (T := TX9) (N9 := 11) (ci := 10) C0 C1 hI iX9 rfl 0 0 (kdlt0 (rfl : kdI 0 = 0)) (by decide) ((shI_0 (rfl : kdI 0 = 0)) _) rfl rfl w_342 dX9_requireFrog_1 ?_
  refine lv_iload_n C0.1 C0.2.1 dX9_requireFrog_4 rfl (lv_at hl 1 rfl) ?_
  obtain ⟨r_2, h_1, hf⟩ := ob_some hf
  refine k_i C1 hI (q_VN C0 C1 hI 1 (c_X2_hasFrog l g X r b H.size n M 1 (rfl : kdI 1 = 1) x1 h_1) 57 rfl w_771 w_24 w_72 w_772 ⟨rfl, rfl⟩ hd_X2_hasFrog ⟨Nat.le_of_ble_eq_true rfl, Nat.le_of_ble_eq_true rfl⟩ (kdlt1 (rfl : kdI 1 = 1)) ((shI_1 (rfl : kdI 1 = 1)) _) rfl rfl rfl hl.1 rfl (Nat.le_of_ble_eq_true rfl) dX9_requireFrog_5 ⟨Nat.le_of_ble_eq_true rfl, Nat.le_of_ble_eq_true rfl⟩) (fun H locs hI => ?_)
  refine lv_if_eq (tgt := 17) C0.1 C0.2.1 dX9_requireFrog_8 (by decide) (fun c_3 => ?_) (fun c_3 => ?_)
  · have hf := (if_pos c_3).symm.trans hf
    refine r_refu C0 C1 hI 2 (by decide) (n := "NO_SUCH_FROG") rfl w_1527 dX9_requireFrog_17 ?_
    obtain ⟨q_7, h_5, h_8, h_9⟩ := obx_x hf
    refine kx_v C1 hI (qx_S C0 C1 hI (c_X9_refuse l hl0 g X r b H.size n M 2 h_5) w_423 w_424 w_71 w_425 ⟨rfl, rfl⟩ hd_X9_refuse ⟨Nat.le_of_ble_eq_true rfl, Nat.le_of_ble_eq_true rfl⟩ rfl hl.1 rfl (Nat.le_of_ble_eq_true rfl) dX9_requireFrog_20 ⟨Nat.le_of_ble_eq_true rfl, Nat.le_of_ble_eq_true rfl⟩) (fun k H locs ce q9 e1 hI g1 g2 g3 => x_out hno hlocks hI g1 g2 g3 (h_8 k e1) (Nat.le_of_ble_eq_true rfl) (Nat.le_of_ble_eq_true rfl)) (fun u_6 H locs e1 hI => ?_)
    have hf := h_9 u_6 e1
    exact ex_v C0 hI hr hlocks hf dX9_requireFrog_23
  · have hf := (if_neg c_3).symm.trans hf
    refine r_refu C0 C1 hI 0 (by decide) (n := "NOTHING") rfl w_419 dX9_requireFrog_11 ?_
    refine lv_goto (tgt := 20) C0.1 C0.2.1 dX9_requireFrog_14 (by decide) ?_
    obtain ⟨q_13, h_11, h_14, h_15⟩ := obx_x hf
    refine kx_v C1 hI (qx_S C0 C1 hI (c_X9_refuse l hl0 g X r b H.size n M 0 h_11) w_423 w_424 w_71 w_425 ⟨rfl, rfl⟩ hd_X9_refuse ⟨Nat.le_of_ble_eq_true rfl, Nat.le_of_ble_eq_true rfl⟩ rfl hl.1 rfl (Nat.le_of_ble_eq_true rfl) dX9_requireFrog_20 ⟨Nat.le_of_ble_eq_true rfl, Nat.le_of_ble_eq_true rfl⟩) (fun k H locs ce q9 e1 hI g1 g2 g3 => x_out hno hlocks hI g1 g2 g3 (h_14 k e1) (Nat.le_of_ble_eq_true rfl) (Nat.le_of_ble_eq_true rfl)) (fun u_12 H locs e1 hI => ?_)
    have hf := h_15 u_12 e1
    exact ex_v C0 hI hr hlocks hf dX9_requireFrog_23


set_option maxHeartbeats 4000000 in
set_option maxRecDepth 100000 in
theorem p_X9_requireFrog (l : Launch) (g : GG) (X : va_W) (r : Nat → Nat) (b : Nat → Nat) (sz n : Nat) (M : Mem) (x1 : Int32)  (hf : F_X9_requireFrog n x1 M = some (.inr ())) : Met l yX9_requireFrog (.code yX9_requireFrog cX9_requireFrog 2 none :: LWg) (rmD 10 0 0) (va_Pc [.ref (b 0), .int x1] (PreP g X 372 (shI g r b) b sz M)) (Qv g X 372 (shI g r b) b sz M) 0 0 (AA X b 372 sz) := by
  refine met_go (by decide +kernel) rfl (Nat.le_of_ble_eq_true rfl) ?_
  intro p e s m below meth c ls H locs C0 C1 hr hlocks hnm hsz hl hI
  subst hsz
  have hl : lv_has ls 2 [(0, .ref (b 0)), (1, .int x1)] := hl
  unfold F_X9_requireFrog at hf
  refine lv_aload_n C0.1 C0.2.1 dX9_requireFrog_0 rfl (lv_at hl 0 rfl) ?_
  refine r_get (C := RX9) (T := TX9) (N9 := 11) (ci := 10) C0 C1 hI iX9 rfl 0 0 (kdlt0 (rfl : kdI 0 = 0)) (by decide) ((shI_0 (rfl : kdI 0 = 0)) _) rfl rfl w_342 dX9_requireFrog_1 ?_
  refine lv_iload_n C0.1 C0.2.1 dX9_requireFrog_4 rfl (lv_at hl 1 rfl) ?_
  obtain ⟨r_2, h_1, hf⟩ := ob_some hf
  refine k_i C1 hI (q_VN C0 C1 hI 1 (c_X2_hasFrog l g X r b H.size n M 1 (rfl : kdI 1 = 1) x1 h_1) 57 rfl w_771 w_24 w_72 w_772 ⟨rfl, rfl⟩ hd_X2_hasFrog ⟨Nat.le_of_ble_eq_true rfl, Nat.le_of_ble_eq_true rfl⟩ (kdlt1 (rfl : kdI 1 = 1)) ((shI_1 (rfl : kdI 1 = 1)) _) rfl rfl rfl hl.1 rfl (Nat.le_of_ble_eq_true rfl) dX9_requireFrog_5 ⟨Nat.le_of_ble_eq_true rfl, Nat.le_of_ble_eq_true rfl⟩) (fun H locs hI => ?_)
  refine lv_if_eq (tgt := 17) C0.1 C0.2.1 dX9_requireFrog_8 (by decide) (fun c_3 => ?_) (fun c_3 => ?_)
  · have hf := (if_pos c_3).symm.trans hf
    refine r_refu C0 C1 hI 2 (by decide) (n := "NO_SUCH_FROG") rfl w_1527 dX9_requireFrog_17 ?_
    obtain ⟨u_6, h_5, hf⟩ := obx_p hf
    refine k_v C1 hI (q_S C0 C1 hI (p_X9_refuse l g X r b H.size n M 2 h_5) w_423 w_424 w_71 w_425 ⟨rfl, rfl⟩ hd_X9_refuse ⟨Nat.le_of_ble_eq_true rfl, Nat.le_of_ble_eq_true rfl⟩ rfl hl.1 rfl (Nat.le_of_ble_eq_true rfl) dX9_requireFrog_20 ⟨Nat.le_of_ble_eq_true rfl, Nat.le_of_ble_eq_true rfl⟩) (fun H locs hI => ?_)
    exact ep_v C0 hI hr hlocks hf dX9_requireFrog_23
  · have hf := (if_neg c_3).symm.trans hf
    refine r_refu C0 C1 hI 0 (by decide) (n := "NOTHING") rfl w_419 dX9_requireFrog_11 ?_
    refine lv_goto (tgt := 20) C0.1 C0.2.1 dX9_requireFrog_14 (by decide) ?_
    obtain ⟨u_9, h_8, hf⟩ := obx_p hf
    refine k_v C1 hI (q_S C0 C1 hI (p_X9_refuse l g X r b H.size n M 0 h_8) w_423 w_424 w_71 w_425 ⟨rfl, rfl⟩ hd_X9_refuse ⟨Nat.le_of_ble_eq_true rfl, Nat.le_of_ble_eq_true rfl⟩ rfl hl.1 rfl (Nat.le_of_ble_eq_true rfl) dX9_requireFrog_20 ⟨Nat.le_of_ble_eq_true rfl, Nat.le_of_ble_eq_true rfl⟩) (fun H locs hI => ?_)
    exact ep_v C0 hI hr hlocks hf dX9_requireFrog_23

def F_X9_pondOf (n : Nat) (x1 : Int32) (M : Mem) : Option (RX Int32) :=
  obx (F_X9_requireFrog n x1 M) (fun u_3 => chk (inb x1 12) (some (.inr (M (1 + 1) (ix x1)))))
theorem hd_X9_pondOf : yX9_pondOf.cls ≠ "java/lang/invoke/MethodHandle" ∧ yX9_pondOf.cls ≠ "java/lang/invoke/VarHandle" ∧ (parseMethodDescriptor yX9_pondOf.desc).map (fun d => d.parameters.length) = some 1 := ⟨by decide +kernel, by decide +kernel, by decide +kernel⟩
set_option maxHeartbeats 4000000 in
set_option maxRecDepth 100000 in
theorem c_X9_pondOf (l : Launch) (hl0 : l.stackTraces = false) (g : GG) (X : va_W) (r : Nat → Nat) (b : Nat → Nat) (sz n : Nat) (M : Mem) (x1 : Int32) {q0 : RX Int32} (hf : F_X9_pondOf n x1 M = some q0) : vx_Met l yX9_pondOf (.code yX9_pondOf cX9_pondOf 2 (some .int) :: LWg) (rmD 11 1 6) (va_Pc [.ref (b 0), .int x1] (PreP g X 372 (shI g r b) b sz M)) (QiX g X 372 (shI g r b) b sz q0 M) (XcX g X 372 (shI g r b) b sz q0 M) 1 6 (AA X b 372 sz) := by
  refine metx_go (by decide +kernel) rfl (Nat.le_of_ble_eq_true rfl) ?_
  intro p e s m below meth c ls H locs C0 C1 hr hlocks hno hsz hl hI
  subst hsz
  have hl : lv_has ls 2 [(0, .ref (b 0)), (1, .int x1)] := hl
  unfold F_X9_pondOf at hf
  refine lv_aload_n C0.1 C0.2.1 dX9_pondOf_0 rfl (lv_at hl 0 rfl) ?_
  refine lv_iload_n C0.1 C0.2.1 dX9_pondOf_1 rfl (lv_at hl 1 rfl) ?_
  obtain ⟨q_4, h_2, h_5, h_6⟩ := obx_x hf
  refine kx_v C1 hI (qx_V C0 C1 hI 0 (c_X9_requireFrog l hl0 g X r b H.size n M x1 h_2) w_1522 w_1524 w_68 w_71 w_1525 ⟨rfl, rfl⟩ hd_X9_requireFrog ⟨Nat.le_of_ble_eq_true rfl, Nat.le_of_ble_eq_true rfl⟩ (kdlt0 (rfl : kdI 0 = 0)) ((shI_0 (rfl : kdI 0 = 0)) _) rfl rfl rfl hl.1 rfl (Nat.le_of_ble_eq_true rfl) dX9_pondOf_2 ⟨Nat.le_of_ble_eq_true rfl, Nat.le_of_ble_eq_true rfl⟩) (fun k H locs ce q9 e1 hI g1 g2 g3 => x_out hno hlocks hI g1 g2 g3 (h_5 k e1) (Nat.le_of_ble_eq_true rfl) (Nat.le_of_ble_eq_true rfl)) (fun u_3 H locs e1 hI => ?_)
  have hf := h_6 u_3 e1
  refine lv_aload_n C0.1 C0.2.1 dX9_pondOf_5 rfl (lv_at hl 0 rfl) ?_
  refine r_get (C := RX9) (T := TX9) (N9 := 11) (ci := 10) C0 C1 hI iX9 rfl 0 0 (kdlt0 (rfl : kdI 0 = 0)) (by decide) ((shI_0 (rfl : kdI 0 = 0)) _) rfl rfl w_342 dX9_pondOf_6 ?_
  refine r_getN (C := RX2) (T := TX2) (N9 := 12) (ci := 4) C0 C1 hI iX2 rfl 1 1 (kdlt1 (rfl : kdI 1 = 1)) (by decide) ((shI_1 (rfl : kdI 1 = 1)) _) rfl rfl 22 rfl dX9_pondOf_9 ?_
  refine lv_iload_n C0.1 C0.2.1 dX9_pondOf_12 rfl (lv_at hl 1 rfl) ?_
  obtain ⟨h_7, hf⟩ := chk_some hf
  refine r_iald C0 C1 hI (1 + 1) (kdlt2 (kd1_1 (rfl : kdI 1 = 1))) (shI_2 (kd1_1 (rfl : kdI 1 = 1))) h_7 dX9_pondOf_13 ?_
  exact ex_z C0 hI hr hlocks rfl hf dX9_pondOf_14


set_option maxHeartbeats 4000000 in
set_option maxRecDepth 100000 in
theorem p_X9_pondOf (l : Launch) (g : GG) (X : va_W) (r : Nat → Nat) (b : Nat → Nat) (sz n : Nat) (M : Mem) (x1 : Int32) {r0 : Int32} (hf : F_X9_pondOf n x1 M = some (.inr r0)) : Met l yX9_pondOf (.code yX9_pondOf cX9_pondOf 2 (some .int) :: LWg) (rmD 11 0 0) (va_Pc [.ref (b 0), .int x1] (PreP g X 372 (shI g r b) b sz M)) (Qi g X 372 (shI g r b) b sz r0 M) 0 0 (AA X b 372 sz) := by
  refine met_go (by decide +kernel) rfl (Nat.le_of_ble_eq_true rfl) ?_
  intro p e s m below meth c ls H locs C0 C1 hr hlocks hnm hsz hl hI
  subst hsz
  have hl : lv_has ls 2 [(0, .ref (b 0)), (1, .int x1)] := hl
  unfold F_X9_pondOf at hf
  refine lv_aload_n C0.1 C0.2.1 dX9_pondOf_0 rfl (lv_at hl 0 rfl) ?_
  refine lv_iload_n C0.1 C0.2.1 dX9_pondOf_1 rfl (lv_at hl 1 rfl) ?_
  obtain ⟨u_3, h_2, hf⟩ := obx_p hf
  refine k_v C1 hI (q_V C0 C1 hI 0 (p_X9_requireFrog l g X r b H.size n M x1 h_2) w_1522 w_1524 w_68 w_71 w_1525 ⟨rfl, rfl⟩ hd_X9_requireFrog ⟨Nat.le_of_ble_eq_true rfl, Nat.le_of_ble_eq_true rfl⟩ (kdlt0 (rfl : kdI 0 = 0)) ((shI_0 (rfl : kdI 0 = 0)) _) rfl rfl rfl hl.1 rfl (Nat.le_of_ble_eq_true rfl) dX9_pondOf_2 ⟨Nat.le_of_ble_eq_true rfl, Nat.le_of_ble_eq_true rfl⟩) (fun H locs hI => ?_)
  refine lv_aload_n C0.1 C0.2.1 dX9_pondOf_5 rfl (lv_at hl 0 rfl) ?_
  refine r_get (C := RX9) (T := TX9) (N9 := 11) (ci := 10) C0 C1 hI iX9 rfl 0 0 (kdlt0 (rfl : kdI 0 = 0)) (by decide) ((shI_0 (rfl : kdI 0 = 0)) _) rfl rfl w_342 dX9_pondOf_6 ?_
  refine r_getN (C := RX2) (T := TX2) (N9 := 12) (ci := 4) C0 C1 hI iX2 rfl 1 1 (kdlt1 (rfl : kdI 1 = 1)) (by decide) ((shI_1 (rfl : kdI 1 = 1)) _) rfl rfl 22 rfl dX9_pondOf_9 ?_
  refine lv_iload_n C0.1 C0.2.1 dX9_pondOf_12 rfl (lv_at hl 1 rfl) ?_
  obtain ⟨h_4, hf⟩ := chk_some hf
  refine r_iald C0 C1 hI (1 + 1) (kdlt2 (kd1_1 (rfl : kdI 1 = 1))) (shI_2 (kd1_1 (rfl : kdI 1 = 1))) h_4 dX9_pondOf_13 ?_
  exact ep_z C0 hI hr hlocks rfl hf dX9_pondOf_14

def F_X9_weightOf (n : Nat) (x1 : Int32) (M : Mem) : Option (RX Int32) :=
  obx (F_X9_requireFrog n x1 M) (fun u_3 => chk (inb x1 12) (some (.inr (M (1 + 2) (ix x1)))))
theorem hd_X9_weightOf : yX9_weightOf.cls ≠ "java/lang/invoke/MethodHandle" ∧ yX9_weightOf.cls ≠ "java/lang/invoke/VarHandle" ∧ (parseMethodDescriptor yX9_weightOf.desc).map (fun d => d.parameters.length) = some 1 := ⟨by decide +kernel, by decide +kernel, by decide +kernel⟩
set_option maxHeartbeats 4000000 in
set_option maxRecDepth 100000 in
theorem c_X9_weightOf (l : Launch) (hl0 : l.stackTraces = false) (g : GG) (X : va_W) (r : Nat → Nat) (b : Nat → Nat) (sz n : Nat) (M : Mem) (x1 : Int32) {q0 : RX Int32} (hf : F_X9_weightOf n x1 M = some q0) : vx_Met l yX9_weightOf (.code yX9_weightOf cX9_weightOf 2 (some .int) :: LWg) (rmD 11 1 6) (va_Pc [.ref (b 0), .int x1] (PreP g X 372 (shI g r b) b sz M)) (QiX g X 372 (shI g r b) b sz q0 M) (XcX g X 372 (shI g r b) b sz q0 M) 1 6 (AA X b 372 sz) := by
  refine metx_go (by decide +kernel) rfl (Nat.le_of_ble_eq_true rfl) ?_
  intro p e s m below meth c ls H locs C0 C1 hr hlocks hno hsz hl hI
  subst hsz
  have hl : lv_has ls 2 [(0, .ref (b 0)), (1, .int x1)] := hl
  unfold F_X9_weightOf at hf
  refine lv_aload_n C0.1 C0.2.1 dX9_weightOf_0 rfl (lv_at hl 0 rfl) ?_
  refine lv_iload_n C0.1 C0.2.1 dX9_weightOf_1 rfl (lv_at hl 1 rfl) ?_
  obtain ⟨q_4, h_2, h_5, h_6⟩ := obx_x hf
  refine kx_v C1 hI (qx_V C0 C1 hI 0 (c_X9_requireFrog l hl0 g X r b H.size n M x1 h_2) w_1522 w_1524 w_68 w_71 w_1525 ⟨rfl, rfl⟩ hd_X9_requireFrog ⟨Nat.le_of_ble_eq_true rfl, Nat.le_of_ble_eq_true rfl⟩ (kdlt0 (rfl : kdI 0 = 0)) ((shI_0 (rfl : kdI 0 = 0)) _) rfl rfl rfl hl.1 rfl (Nat.le_of_ble_eq_true rfl) dX9_weightOf_2 ⟨Nat.le_of_ble_eq_true rfl, Nat.le_of_ble_eq_true rfl⟩) (fun k H locs ce q9 e1 hI g1 g2 g3 => x_out hno hlocks hI g1 g2 g3 (h_5 k e1) (Nat.le_of_ble_eq_true rfl) (Nat.le_of_ble_eq_true rfl)) (fun u_3 H locs e1 hI => ?_)
  have hf := h_6 u_3 e1
  refine lv_aload_n C0.1 C0.2.1 dX9_weightOf_5 rfl (lv_at hl 0 rfl) ?_
  refine r_get (C := RX9) (T := TX9) (N9 := 11) (ci := 10) C0 C1 hI iX9 rfl 0 0 (kdlt0 (rfl : kdI 0 = 0)) (by decide) ((shI_0 (rfl : kdI 0 = 0)) _) rfl rfl w_342 dX9_weightOf_6 ?_
  refine r_getN (C := RX2) (T := TX2) (N9 := 12) (ci := 4) C0 C1 hI iX2 rfl 1 2 (kdlt1 (rfl : kdI 1 = 1)) (by decide) ((shI_1 (rfl : kdI 1 = 1)) _) rfl rfl 23 rfl dX9_weightOf_9 ?_
  refine lv_iload_n C0.1 C0.2.1 dX9_weightOf_12 rfl (lv_at hl 1 rfl) ?_
  obtain ⟨h_7, hf⟩ := chk_some hf
  refine r_iald C0 C1 hI (1 + 2) (kdlt2 (kd1_2 (rfl : kdI 1 = 1))) (shI_2 (kd1_2 (rfl : kdI 1 = 1))) h_7 dX9_weightOf_13 ?_
  exact ex_z C0 hI hr hlocks rfl hf dX9_weightOf_14


set_option maxHeartbeats 4000000 in
set_option maxRecDepth 100000 in
theorem p_X9_weightOf (l : Launch) (g : GG) (X : va_W) (r : Nat → Nat) (b : Nat → Nat) (sz n : Nat) (M : Mem) (x1 : Int32) {r0 : Int32} (hf : F_X9_weightOf n x1 M = some (.inr r0)) : Met l yX9_weightOf (.code yX9_weightOf cX9_weightOf 2 (some .int) :: LWg) (rmD 11 0 0) (va_Pc [.ref (b 0), .int x1] (PreP g X 372 (shI g r b) b sz M)) (Qi g X 372 (shI g r b) b sz r0 M) 0 0 (AA X b 372 sz) := by
  refine met_go (by decide +kernel) rfl (Nat.le_of_ble_eq_true rfl) ?_
  intro p e s m below meth c ls H locs C0 C1 hr hlocks hnm hsz hl hI
  subst hsz
  have hl : lv_has ls 2 [(0, .ref (b 0)), (1, .int x1)] := hl
  unfold F_X9_weightOf at hf
  refine lv_aload_n C0.1 C0.2.1 dX9_weightOf_0 rfl (lv_at hl 0 rfl) ?_
  refine lv_iload_n C0.1 C0.2.1 dX9_weightOf_1 rfl (lv_at hl 1 rfl) ?_
  obtain ⟨u_3, h_2, hf⟩ := obx_p hf
  refine k_v C1 hI (q_V C0 C1 hI 0 (p_X9_requireFrog l g X r b H.size n M x1 h_2) w_1522 w_1524 w_68 w_71 w_1525 ⟨rfl, rfl⟩ hd_X9_requireFrog ⟨Nat.le_of_ble_eq_true rfl, Nat.le_of_ble_eq_true rfl⟩ (kdlt0 (rfl : kdI 0 = 0)) ((shI_0 (rfl : kdI 0 = 0)) _) rfl rfl rfl hl.1 rfl (Nat.le_of_ble_eq_true rfl) dX9_weightOf_2 ⟨Nat.le_of_ble_eq_true rfl, Nat.le_of_ble_eq_true rfl⟩) (fun H locs hI => ?_)
  refine lv_aload_n C0.1 C0.2.1 dX9_weightOf_5 rfl (lv_at hl 0 rfl) ?_
  refine r_get (C := RX9) (T := TX9) (N9 := 11) (ci := 10) C0 C1 hI iX9 rfl 0 0 (kdlt0 (rfl : kdI 0 = 0)) (by decide) ((shI_0 (rfl : kdI 0 = 0)) _) rfl rfl w_342 dX9_weightOf_6 ?_
  refine r_getN (C := RX2) (T := TX2) (N9 := 12) (ci := 4) C0 C1 hI iX2 rfl 1 2 (kdlt1 (rfl : kdI 1 = 1)) (by decide) ((shI_1 (rfl : kdI 1 = 1)) _) rfl rfl 23 rfl dX9_weightOf_9 ?_
  refine lv_iload_n C0.1 C0.2.1 dX9_weightOf_12 rfl (lv_at hl 1 rfl) ?_
  obtain ⟨h_4, hf⟩ := chk_some hf
  refine r_iald C0 C1 hI (1 + 2) (kdlt2 (kd1_2 (rfl : kdI 1 = 1))) (shI_2 (kd1_2 (rfl : kdI 1 = 1))) h_4 dX9_weightOf_13 ?_
  exact ep_z C0 hI hr hlocks rfl hf dX9_weightOf_14

def F_X9_padOf (n : Nat) (x1 : Int32) (M : Mem) : Option (RX Int32) :=
  obx (F_X9_requireFrog n x1 M) (fun u_3 => ob (F_X2_sits n 1 x1 M) (fun r_8 => (if r_8 = 0 then some (.inl 5) else chk (inb x1 12) (some (.inr (M (1 + 3) (ix x1)))))))
theorem hd_X9_padOf : yX9_padOf.cls ≠ "java/lang/invoke/MethodHandle" ∧ yX9_padOf.cls ≠ "java/lang/invoke/VarHandle" ∧ (parseMethodDescriptor yX9_padOf.desc).map (fun d => d.parameters.length) = some 1 := ⟨by decide +kernel, by decide +kernel, by decide +kernel⟩
set_option maxHeartbeats 4000000 in
set_option maxRecDepth 100000 in
theorem c_X9_padOf (l : Launch) (hl0 : l.stackTraces = false) (g : GG) (X : va_W) (r : Nat → Nat) (b : Nat → Nat) (sz n : Nat) (M : Mem) (x1 : Int32) {q0 : RX Int32} (hf : F_X9_padOf n x1 M = some q0) : vx_Met l yX9_padOf (.code yX9_padOf cX9_padOf 2 (some .int) :: LWg) (rmD 11 2 12) (va_Pc [.ref (b 0), .int x1] (PreP g X 372 (shI g r b) b sz M)) (QiX g X 372 (shI g r b) b sz q0 M) (XcX g X 372 (shI g r b) b sz q0 M) 2 12 (AA X b 372 sz) := by
  refine metx_go (by decide +kernel) rfl (Nat.le_of_ble_eq_true rfl) ?_
  intro p e s m below meth c ls H locs C0 C1 hr hlocks hno hsz hl hI
  subst hsz
  have hl : lv_has ls 2 [(0, .ref (b 0)), (1, .int x1)] := hl
  unfold F_X9_padOf at hf
  refine lv_aload_n C0.1 C0.2.1 dX9_padOf_0 rfl (lv_at hl 0 rfl) ?_
  refine lv_iload_n C0.1 C0.2.1 dX9_padOf_1 rfl (lv_at hl 1 rfl) ?_
  obtain ⟨q_4, h_2, h_5, h_6⟩ := obx_x hf
  refine kx_v C1 hI (qx_V C0 C1 hI 0 (c_X9_requireFrog l hl0 g X r b H.size n M x1 h_2) w_1522 w_1524 w_68 w_71 w_1525 ⟨rfl, rfl⟩ hd_X9_requireFrog ⟨Nat.le_of_ble_eq_true rfl, Nat.le_of_ble_eq_true rfl⟩ (kdlt0 (rfl : kdI 0 = 0)) ((shI_0 (rfl : kdI 0 = 0)) _) rfl rfl rfl hl.1 rfl (Nat.le_of_ble_eq_true rfl) dX9_padOf_2 ⟨Nat.le_of_ble_eq_true rfl, Nat.le_of_ble_eq_true rfl⟩) (fun k H locs ce q9 e1 hI g1 g2 g3 => x_out hno hlocks hI g1 g2 g3 (h_5 k e1) (Nat.le_of_ble_eq_true rfl) (Nat.le_of_ble_eq_true rfl)) (fun u_3 H locs e1 hI => ?_)
  have hf := h_6 u_3 e1
  refine lv_aload_n C0.1 C0.2.1 dX9_padOf_5 rfl (lv_at hl 0 rfl) ?_
  refine r_get (C := RX9) (T := TX9) (N9 := 11) (ci := 10) C0 C1 hI iX9 rfl 0 0 (kdlt0 (rfl : kdI 0 = 0)) (by decide) ((shI_0 (rfl : kdI 0 = 0)) _) rfl rfl w_342 dX9_padOf_6 ?_
  refine lv_iload_n C0.1 C0.2.1 dX9_padOf_9 rfl (lv_at hl 1 rfl) ?_
  obtain ⟨r_8, h_7, hf⟩ := ob_some hf
  refine k_i C1 hI (q_VN C0 C1 hI 1 (c_X2_sits l g X r b H.size n M 1 (rfl : kdI 1 = 1) x1 h_7) 47 rfl w_803 w_28 w_72 w_804 ⟨rfl, rfl⟩ hd_X2_sits ⟨Nat.le_of_ble_eq_true rfl, Nat.le_of_ble_eq_true rfl⟩ (kdlt1 (rfl : kdI 1 = 1)) ((shI_1 (rfl : kdI 1 = 1)) _) rfl rfl rfl hl.1 rfl (Nat.le_of_ble_eq_true rfl) dX9_padOf_10 ⟨Nat.le_of_ble_eq_true rfl, Nat.le_of_ble_eq_true rfl⟩) (fun H locs hI => ?_)
  refine lv_if_ne (tgt := 26) C0.1 C0.2.1 dX9_padOf_13 (by decide) (fun c_9 => ?_) (fun c_9 => ?_)
  · have hf := (if_neg c_9).symm.trans hf
    refine lv_aload_n C0.1 C0.2.1 dX9_padOf_26 rfl (lv_at hl 0 rfl) ?_
    refine r_get (C := RX9) (T := TX9) (N9 := 11) (ci := 10) C0 C1 hI iX9 rfl 0 0 (kdlt0 (rfl : kdI 0 = 0)) (by decide) ((shI_0 (rfl : kdI 0 = 0)) _) rfl rfl w_342 dX9_padOf_27 ?_
    refine r_getN (C := RX2) (T := TX2) (N9 := 12) (ci := 4) C0 C1 hI iX2 rfl 1 3 (kdlt1 (rfl : kdI 1 = 1)) (by decide) ((shI_1 (rfl : kdI 1 = 1)) _) rfl rfl 24 rfl dX9_padOf_30 ?_
    refine lv_iload_n C0.1 C0.2.1 dX9_padOf_33 rfl (lv_at hl 1 rfl) ?_
    obtain ⟨h_10, hf⟩ := chk_some hf
    refine r_iald C0 C1 hI (1 + 3) (kdlt2 (kd1_3 (rfl : kdI 1 = 1))) (shI_2 (kd1_3 (rfl : kdI 1 = 1))) h_10 dX9_padOf_34 ?_
    refine W.widen (k := 2) (n := 12) (Nat.le_of_ble_eq_true rfl) (Nat.le_of_ble_eq_true rfl) ?_
    exact ex_z C0 hI hr hlocks rfl hf dX9_padOf_35
  · have hf := (if_pos c_9).symm.trans hf
    exact r_throwSN C0 C1 hI hl0 hl.1 hno hlocks (E := 5) (sk := 12) rfl (by decide +kernel) (by decide +kernel) nzY nz0 nz1 nz2 nz5 w_572 w_89 at_NSE ag_NSE dX9_padOf_16 dX9_padOf_19 dX9_padOf_20 dX9_padOf_22 dX9_padOf_25 (Nat.le_of_ble_eq_true rfl) (Nat.le_of_ble_eq_true rfl) (Nat.le_of_ble_eq_true rfl) (Nat.le_of_ble_eq_true rfl) hf (Nat.le_of_ble_eq_true rfl) (Nat.le_of_ble_eq_true rfl)


set_option maxHeartbeats 4000000 in
set_option maxRecDepth 100000 in
theorem p_X9_padOf (l : Launch) (g : GG) (X : va_W) (r : Nat → Nat) (b : Nat → Nat) (sz n : Nat) (M : Mem) (x1 : Int32) {r0 : Int32} (hf : F_X9_padOf n x1 M = some (.inr r0)) : Met l yX9_padOf (.code yX9_padOf cX9_padOf 2 (some .int) :: LWg) (rmD 11 0 0) (va_Pc [.ref (b 0), .int x1] (PreP g X 372 (shI g r b) b sz M)) (Qi g X 372 (shI g r b) b sz r0 M) 0 0 (AA X b 372 sz) := by
  refine met_go (by decide +kernel) rfl (Nat.le_of_ble_eq_true rfl) ?_
  intro p e s m below meth c ls H locs C0 C1 hr hlocks hnm hsz hl hI
  subst hsz
  have hl : lv_has ls 2 [(0, .ref (b 0)), (1, .int x1)] := hl
  unfold F_X9_padOf at hf
  refine lv_aload_n C0.1 C0.2.1 dX9_padOf_0 rfl (lv_at hl 0 rfl) ?_
  refine lv_iload_n C0.1 C0.2.1 dX9_padOf_1 rfl (lv_at hl 1 rfl) ?_
  obtain ⟨u_3, h_2, hf⟩ := obx_p hf
  refine k_v C1 hI (q_V C0 C1 hI 0 (p_X9_requireFrog l g X r b H.size n M x1 h_2) w_1522 w_1524 w_68 w_71 w_1525 ⟨rfl, rfl⟩ hd_X9_requireFrog ⟨Nat.le_of_ble_eq_true rfl, Nat.le_of_ble_eq_true rfl⟩ (kdlt0 (rfl : kdI 0 = 0)) ((shI_0 (rfl : kdI 0 = 0)) _) rfl rfl rfl hl.1 rfl (Nat.le_of_ble_eq_true rfl) dX9_padOf_2 ⟨Nat.le_of_ble_eq_true rfl, Nat.le_of_ble_eq_true rfl⟩) (fun H locs hI => ?_)
  refine lv_aload_n C0.1 C0.2.1 dX9_padOf_5 rfl (lv_at hl 0 rfl) ?_
  refine r_get (C := RX9) (T := TX9) (N9 := 11) (ci := 10) C0 C1 hI iX9 rfl 0 0 (kdlt0 (rfl : kdI 0 = 0)) (by decide) ((shI_0 (rfl : kdI 0 = 0)) _) rfl rfl w_342 dX9_padOf_6 ?_
  refine lv_iload_n C0.1 C0.2.1 dX9_padOf_9 rfl (lv_at hl 1 rfl) ?_
  obtain ⟨r_5, h_4, hf⟩ := ob_some hf
  refine k_i C1 hI (q_VN C0 C1 hI 1 (c_X2_sits l g X r b H.size n M 1 (rfl : kdI 1 = 1) x1 h_4) 47 rfl w_803 w_28 w_72 w_804 ⟨rfl, rfl⟩ hd_X2_sits ⟨Nat.le_of_ble_eq_true rfl, Nat.le_of_ble_eq_true rfl⟩ (kdlt1 (rfl : kdI 1 = 1)) ((shI_1 (rfl : kdI 1 = 1)) _) rfl rfl rfl hl.1 rfl (Nat.le_of_ble_eq_true rfl) dX9_padOf_10 ⟨Nat.le_of_ble_eq_true rfl, Nat.le_of_ble_eq_true rfl⟩) (fun H locs hI => ?_)
  refine lv_if_ne (tgt := 26) C0.1 C0.2.1 dX9_padOf_13 (by decide) (fun c_6 => ?_) (fun c_6 => ?_)
  · have hf := (if_neg c_6).symm.trans hf
    refine lv_aload_n C0.1 C0.2.1 dX9_padOf_26 rfl (lv_at hl 0 rfl) ?_
    refine r_get (C := RX9) (T := TX9) (N9 := 11) (ci := 10) C0 C1 hI iX9 rfl 0 0 (kdlt0 (rfl : kdI 0 = 0)) (by decide) ((shI_0 (rfl : kdI 0 = 0)) _) rfl rfl w_342 dX9_padOf_27 ?_
    refine r_getN (C := RX2) (T := TX2) (N9 := 12) (ci := 4) C0 C1 hI iX2 rfl 1 3 (kdlt1 (rfl : kdI 1 = 1)) (by decide) ((shI_1 (rfl : kdI 1 = 1)) _) rfl rfl 24 rfl dX9_padOf_30 ?_
    refine lv_iload_n C0.1 C0.2.1 dX9_padOf_33 rfl (lv_at hl 1 rfl) ?_
    obtain ⟨h_7, hf⟩ := chk_some hf
    refine r_iald C0 C1 hI (1 + 3) (kdlt2 (kd1_3 (rfl : kdI 1 = 1))) (shI_2 (kd1_3 (rfl : kdI 1 = 1))) h_7 dX9_padOf_34 ?_
    exact ep_z C0 hI hr hlocks rfl hf dX9_padOf_35
  · have hf := (if_pos c_6).symm.trans hf
    exact nomatch hf

def F_X9_padCount (n : Nat) (M : Mem) : Option Int32 :=
  some (M 1 6)
theorem hd_X9_padCount : yX9_padCount.cls ≠ "java/lang/invoke/MethodHandle" ∧ yX9_padCount.cls ≠ "java/lang/invoke/VarHandle" ∧ (parseMethodDescriptor yX9_padCount.desc).map (fun d => d.parameters.length) = some 0 := ⟨by decide +kernel, by decide +kernel, by decide +kernel⟩
set_option maxHeartbeats 4000000 in
set_option maxRecDepth 100000 in
theorem c_X9_padCount (l : Launch) (g : GG) (X : va_W) (r : Nat → Nat) (b : Nat → Nat) (sz n : Nat) (M : Mem) {r0 : Int32} (hf : F_X9_padCount n M = some r0) : Met l yX9_padCount (.code yX9_padCount cX9_padCount 1 (some .int) :: LWg) (rmD 0 0 0) (va_Pc [.ref (b 0)] (PreP g X 372 (shI g r b) b sz M)) (Qi g X 372 (shI g r b) b sz r0 M) 0 0 (AA X b 372 sz) := by
  refine met_go (by decide +kernel) rfl (Nat.le_of_ble_eq_true rfl) ?_
  intro p e s m below meth c ls H locs C0 C1 hr hlocks hnm hsz hl hI
  subst hsz
  have hl : lv_has ls 1 [(0, .ref (b 0))] := hl
  unfold F_X9_padCount at hf
  refine lv_aload_n C0.1 C0.2.1 dX9_padCount_0 rfl (lv_at hl 0 rfl) ?_
  refine r_get (C := RX9) (T := TX9) (N9 := 11) (ci := 10) C0 C1 hI iX9 rfl 0 0 (kdlt0 (rfl : kdI 0 = 0)) (by decide) ((shI_0 (rfl : kdI 0 = 0)) _) rfl rfl w_342 dX9_padCount_1 ?_
  refine r_getN (C := RX2) (T := TX2) (N9 := 12) (ci := 4) C0 C1 hI iX2 rfl 1 6 (kdlt1 (rfl : kdI 1 = 1)) (by decide) ((shI_1 (rfl : kdI 1 = 1)) _) rfl rfl 27 rfl dX9_padCount_4 ?_
  exact ee_i C0 hI hr hlocks hf dX9_padCount_7

def F_X9_requirePad (n : Nat) (x1 : Int32) (M : Mem) : Option (RX Unit) :=
  ob (F_X2_hasPad n 1 x1 M) (fun r_2 => (if r_2 = 0 then obx (F_X9_refuse n 3 M) (fun u_6 => some (.inr ())) else obx (F_X9_refuse n 0 M) (fun u_12 => some (.inr ()))))
theorem hd_X9_requirePad : yX9_requirePad.cls ≠ "java/lang/invoke/MethodHandle" ∧ yX9_requirePad.cls ≠ "java/lang/invoke/VarHandle" ∧ (parseMethodDescriptor yX9_requirePad.desc).map (fun d => d.parameters.length) = some 1 := ⟨by decide +kernel, by decide +kernel, by decide +kernel⟩
set_option maxHeartbeats 4000000 in
set_option maxRecDepth 100000 in
theorem c_X9_requirePad (l : Launch) (hl0 : l.stackTraces = false) (g : GG) (X : va_W) (r : Nat → Nat) (b : Nat → Nat) (sz n : Nat) (M : Mem) (x1 : Int32) {q0 : RX Unit} (hf : F_X9_requirePad n x1 M = some q0) : vx_Met l yX9_requirePad (.code yX9_requirePad cX9_requirePad 2 none :: LWg) (rmD 10 1 6) (va_Pc [.ref (b 0), .int x1] (PreP g X 372 (shI g r b) b sz M)) (QvX g X 372 (shI g r b) b sz q0 M) (XcX g X 372 (shI g r b) b sz q0 M) 1 6 (AA X b 372 sz) := by
  refine metx_go (by decide +kernel) rfl (Nat.le_of_ble_eq_true rfl) ?_
  intro p e s m below meth c ls H locs C0 C1 hr hlocks hno hsz hl hI
  subst hsz
  have hl : lv_has ls 2 [(0, .ref (b 0)), (1, .int x1)] := hl
  unfold F_X9_requirePad at hf
  refine lv_aload_n C0.1 C0.2.1 dX9_requirePad_0 rfl (lv_at hl 0 rfl) ?_
  refine r_get (C := RX9) (T := TX9) (N9 := 11) (ci := 10) C0 C1 hI iX9 rfl 0 0 (kdlt0 (rfl : kdI 0 = 0)) (by decide) ((shI_0 (rfl : kdI 0 = 0)) _) rfl rfl w_342 dX9_requirePad_1 ?_
  refine lv_iload_n C0.1 C0.2.1 dX9_requirePad_4 rfl (lv_at hl 1 rfl) ?_
  obtain ⟨r_2, h_1, hf⟩ := ob_some hf
  refine k_i C1 hI (q_VN C0 C1 hI 1 (c_X2_hasPad l g X r b H.size n M 1 (rfl : kdI 1 = 1) x1 h_1) 58 rfl w_777 w_25 w_72 w_778 ⟨rfl, rfl⟩ hd_X2_hasPad ⟨Nat.le_of_ble_eq_true rfl, Nat.le_of_ble_eq_true rfl⟩ (kdlt1 (rfl : kdI 1 = 1)) ((shI_1 (rfl : kdI 1 = 1)) _) rfl rfl rfl hl.1 rfl (Nat.le_of_ble_eq_true rfl) dX9_requirePad_5 ⟨Nat.le_of_ble_eq_true rfl, Nat.le_of_ble_eq_true rfl⟩) (fun H locs hI => ?_)
  refine lv_if_eq (tgt := 17) C0.1 C0.2.1 dX9_requirePad_8 (by decide) (fun c_3 => ?_) (fun c_3 => ?_)
  · have hf := (if_pos c_3).symm.trans hf
    refine r_refu C0 C1 hI 3 (by decide) (n := "NO_SUCH_PAD") rfl w_1615 dX9_requirePad_17 ?_
    obtain ⟨q_7, h_5, h_8, h_9⟩ := obx_x hf
    refine kx_v C1 hI (qx_S C0 C1 hI (c_X9_refuse l hl0 g X r b H.size n M 3 h_5) w_423 w_424 w_71 w_425 ⟨rfl, rfl⟩ hd_X9_refuse ⟨Nat.le_of_ble_eq_true rfl, Nat.le_of_ble_eq_true rfl⟩ rfl hl.1 rfl (Nat.le_of_ble_eq_true rfl) dX9_requirePad_20 ⟨Nat.le_of_ble_eq_true rfl, Nat.le_of_ble_eq_true rfl⟩) (fun k H locs ce q9 e1 hI g1 g2 g3 => x_out hno hlocks hI g1 g2 g3 (h_8 k e1) (Nat.le_of_ble_eq_true rfl) (Nat.le_of_ble_eq_true rfl)) (fun u_6 H locs e1 hI => ?_)
    have hf := h_9 u_6 e1
    exact ex_v C0 hI hr hlocks hf dX9_requirePad_23
  · have hf := (if_neg c_3).symm.trans hf
    refine r_refu C0 C1 hI 0 (by decide) (n := "NOTHING") rfl w_419 dX9_requirePad_11 ?_
    refine lv_goto (tgt := 20) C0.1 C0.2.1 dX9_requirePad_14 (by decide) ?_
    obtain ⟨q_13, h_11, h_14, h_15⟩ := obx_x hf
    refine kx_v C1 hI (qx_S C0 C1 hI (c_X9_refuse l hl0 g X r b H.size n M 0 h_11) w_423 w_424 w_71 w_425 ⟨rfl, rfl⟩ hd_X9_refuse ⟨Nat.le_of_ble_eq_true rfl, Nat.le_of_ble_eq_true rfl⟩ rfl hl.1 rfl (Nat.le_of_ble_eq_true rfl) dX9_requirePad_20 ⟨Nat.le_of_ble_eq_true rfl, Nat.le_of_ble_eq_true rfl⟩) (fun k H locs ce q9 e1 hI g1 g2 g3 => x_out hno hlocks hI g1 g2 g3 (h_14 k e1) (Nat.le_of_ble_eq_true rfl) (Nat.le_of_ble_eq_true rfl)) (fun u_12 H locs e1 hI => ?_)
    have hf := h_15 u_12 e1
    exact ex_v C0 hI hr hlocks hf dX9_requirePad_23


set_option maxHeartbeats 4000000 in
set_option maxRecDepth 100000 in
theorem p_X9_requirePad (l : Launch) (g : GG) (X : va_W) (r : Nat → Nat) (b : Nat → Nat) (sz n : Nat) (M : Mem) (x1 : Int32)  (hf : F_X9_requirePad n x1 M = some (.inr ())) : Met l yX9_requirePad (.code yX9_requirePad cX9_requirePad 2 none :: LWg) (rmD 10 0 0) (va_Pc [.ref (b 0), .int x1] (PreP g X 372 (shI g r b) b sz M)) (Qv g X 372 (shI g r b) b sz M) 0 0 (AA X b 372 sz) := by
  refine met_go (by decide +kernel) rfl (Nat.le_of_ble_eq_true rfl) ?_
  intro p e s m below meth c ls H locs C0 C1 hr hlocks hnm hsz hl hI
  subst hsz
  have hl : lv_has ls 2 [(0, .ref (b 0)), (1, .int x1)] := hl
  unfold F_X9_requirePad at hf
  refine lv_aload_n C0.1 C0.2.1 dX9_requirePad_0 rfl (lv_at hl 0 rfl) ?_
  refine r_get (C := RX9) (T := TX9) (N9 := 11) (ci := 10) C0 C1 hI iX9 rfl 0 0 (kdlt0 (rfl : kdI 0 = 0)) (by decide) ((shI_0 (rfl : kdI 0 = 0)) _) rfl rfl w_342 dX9_requirePad_1 ?_
  refine lv_iload_n C0.1 C0.2.1 dX9_requirePad_4 rfl (lv_at hl 1 rfl) ?_
  obtain ⟨r_2, h_1, hf⟩ := ob_some hf
  refine k_i C1 hI (q_VN C0 C1 hI 1 (c_X2_hasPad l g X r b H.size n M 1 (rfl : kdI 1 = 1) x1 h_1) 58 rfl w_777 w_25 w_72 w_778 ⟨rfl, rfl⟩ hd_X2_hasPad ⟨Nat.le_of_ble_eq_true rfl, Nat.le_of_ble_eq_true rfl⟩ (kdlt1 (rfl : kdI 1 = 1)) ((shI_1 (rfl : kdI 1 = 1)) _) rfl rfl rfl hl.1 rfl (Nat.le_of_ble_eq_true rfl) dX9_requirePad_5 ⟨Nat.le_of_ble_eq_true rfl, Nat.le_of_ble_eq_true rfl⟩) (fun H locs hI => ?_)
  refine lv_if_eq (tgt := 17) C0.1 C0.2.1 dX9_requirePad_8 (by decide) (fun c_3 => ?_) (fun c_3 => ?_)
  · have hf := (if_pos c_3).symm.trans hf
    refine r_refu C0 C1 hI 3 (by decide) (n := "NO_SUCH_PAD") rfl w_1615 dX9_requirePad_17 ?_
    obtain ⟨u_6, h_5, hf⟩ := obx_p hf
    refine k_v C1 hI (q_S C0 C1 hI (p_X9_refuse l g X r b H.size n M 3 h_5) w_423 w_424 w_71 w_425 ⟨rfl, rfl⟩ hd_X9_refuse ⟨Nat.le_of_ble_eq_true rfl, Nat.le_of_ble_eq_true rfl⟩ rfl hl.1 rfl (Nat.le_of_ble_eq_true rfl) dX9_requirePad_20 ⟨Nat.le_of_ble_eq_true rfl, Nat.le_of_ble_eq_true rfl⟩) (fun H locs hI => ?_)
    exact ep_v C0 hI hr hlocks hf dX9_requirePad_23
  · have hf := (if_neg c_3).symm.trans hf
    refine r_refu C0 C1 hI 0 (by decide) (n := "NOTHING") rfl w_419 dX9_requirePad_11 ?_
    refine lv_goto (tgt := 20) C0.1 C0.2.1 dX9_requirePad_14 (by decide) ?_
    obtain ⟨u_9, h_8, hf⟩ := obx_p hf
    refine k_v C1 hI (q_S C0 C1 hI (p_X9_refuse l g X r b H.size n M 0 h_8) w_423 w_424 w_71 w_425 ⟨rfl, rfl⟩ hd_X9_refuse ⟨Nat.le_of_ble_eq_true rfl, Nat.le_of_ble_eq_true rfl⟩ rfl hl.1 rfl (Nat.le_of_ble_eq_true rfl) dX9_requirePad_20 ⟨Nat.le_of_ble_eq_true rfl, Nat.le_of_ble_eq_true rfl⟩) (fun H locs hI => ?_)
    exact ep_v C0 hI hr hlocks hf dX9_requirePad_23

def F_X9_frogsOn (n : Nat) (x1 : Int32) (M : Mem) : Option (RX Int32) :=
  obx (F_X9_requirePad n x1 M) (fun u_3 => ob (F_X2_countOn n 1 x1 M) (fun r_8 => some (.inr r_8)))
theorem hd_X9_frogsOn : yX9_frogsOn.cls ≠ "java/lang/invoke/MethodHandle" ∧ yX9_frogsOn.cls ≠ "java/lang/invoke/VarHandle" ∧ (parseMethodDescriptor yX9_frogsOn.desc).map (fun d => d.parameters.length) = some 1 := ⟨by decide +kernel, by decide +kernel, by decide +kernel⟩
set_option maxHeartbeats 4000000 in
set_option maxRecDepth 100000 in
theorem c_X9_frogsOn (l : Launch) (hl0 : l.stackTraces = false) (g : GG) (X : va_W) (r : Nat → Nat) (b : Nat → Nat) (sz n : Nat) (M : Mem) (x1 : Int32) {q0 : RX Int32} (hf : F_X9_frogsOn n x1 M = some q0) : vx_Met l yX9_frogsOn (.code yX9_frogsOn cX9_frogsOn 2 (some .int) :: LWg) (rmD 11 1 6) (va_Pc [.ref (b 0), .int x1] (PreP g X 372 (shI g r b) b sz M)) (QiX g X 372 (shI g r b) b sz q0 M) (XcX g X 372 (shI g r b) b sz q0 M) 1 6 (AA X b 372 sz) := by
  refine metx_go (by decide +kernel) rfl (Nat.le_of_ble_eq_true rfl) ?_
  intro p e s m below meth c ls H locs C0 C1 hr hlocks hno hsz hl hI
  subst hsz
  have hl : lv_has ls 2 [(0, .ref (b 0)), (1, .int x1)] := hl
  unfold F_X9_frogsOn at hf
  refine lv_aload_n C0.1 C0.2.1 dX9_frogsOn_0 rfl (lv_at hl 0 rfl) ?_
  refine lv_iload_n C0.1 C0.2.1 dX9_frogsOn_1 rfl (lv_at hl 1 rfl) ?_
  obtain ⟨q_4, h_2, h_5, h_6⟩ := obx_x hf
  refine kx_v C1 hI (qx_V C0 C1 hI 0 (c_X9_requirePad l hl0 g X r b H.size n M x1 h_2) w_1610 w_1612 w_69 w_71 w_1613 ⟨rfl, rfl⟩ hd_X9_requirePad ⟨Nat.le_of_ble_eq_true rfl, Nat.le_of_ble_eq_true rfl⟩ (kdlt0 (rfl : kdI 0 = 0)) ((shI_0 (rfl : kdI 0 = 0)) _) rfl rfl rfl hl.1 rfl (Nat.le_of_ble_eq_true rfl) dX9_frogsOn_2 ⟨Nat.le_of_ble_eq_true rfl, Nat.le_of_ble_eq_true rfl⟩) (fun k H locs ce q9 e1 hI g1 g2 g3 => x_out hno hlocks hI g1 g2 g3 (h_5 k e1) (Nat.le_of_ble_eq_true rfl) (Nat.le_of_ble_eq_true rfl)) (fun u_3 H locs e1 hI => ?_)
  have hf := h_6 u_3 e1
  refine lv_aload_n C0.1 C0.2.1 dX9_frogsOn_5 rfl (lv_at hl 0 rfl) ?_
  refine r_get (C := RX9) (T := TX9) (N9 := 11) (ci := 10) C0 C1 hI iX9 rfl 0 0 (kdlt0 (rfl : kdI 0 = 0)) (by decide) ((shI_0 (rfl : kdI 0 = 0)) _) rfl rfl w_342 dX9_frogsOn_6 ?_
  refine lv_iload_n C0.1 C0.2.1 dX9_frogsOn_9 rfl (lv_at hl 1 rfl) ?_
  obtain ⟨r_8, h_7, hf⟩ := ob_some hf
  refine k_i C1 hI (q_VN C0 C1 hI 1 (c_X2_countOn l g X r b H.size n M 1 (rfl : kdI 1 = 1) x1 h_7) 7 rfl w_390 w_0 w_72 w_391 ⟨rfl, rfl⟩ hd_X2_countOn ⟨Nat.le_of_ble_eq_true rfl, Nat.le_of_ble_eq_true rfl⟩ (kdlt1 (rfl : kdI 1 = 1)) ((shI_1 (rfl : kdI 1 = 1)) _) rfl rfl rfl hl.1 rfl (Nat.le_of_ble_eq_true rfl) dX9_frogsOn_10 ⟨Nat.le_of_ble_eq_true rfl, Nat.le_of_ble_eq_true rfl⟩) (fun H locs hI => ?_)
  exact ex_z C0 hI hr hlocks rfl hf dX9_frogsOn_13


set_option maxHeartbeats 4000000 in
set_option maxRecDepth 100000 in
theorem p_X9_frogsOn (l : Launch) (g : GG) (X : va_W) (r : Nat → Nat) (b : Nat → Nat) (sz n : Nat) (M : Mem) (x1 : Int32) {r0 : Int32} (hf : F_X9_frogsOn n x1 M = some (.inr r0)) : Met l yX9_frogsOn (.code yX9_frogsOn cX9_frogsOn 2 (some .int) :: LWg) (rmD 11 0 0) (va_Pc [.ref (b 0), .int x1] (PreP g X 372 (shI g r b) b sz M)) (Qi g X 372 (shI g r b) b sz r0 M) 0 0 (AA X b 372 sz) := by
  refine met_go (by decide +kernel) rfl (Nat.le_of_ble_eq_true rfl) ?_
  intro p e s m below meth c ls H locs C0 C1 hr hlocks hnm hsz hl hI
  subst hsz
  have hl : lv_has ls 2 [(0, .ref (b 0)), (1, .int x1)] := hl
  unfold F_X9_frogsOn at hf
  refine lv_aload_n C0.1 C0.2.1 dX9_frogsOn_0 rfl (lv_at hl 0 rfl) ?_
  refine lv_iload_n C0.1 C0.2.1 dX9_frogsOn_1 rfl (lv_at hl 1 rfl) ?_
  obtain ⟨u_3, h_2, hf⟩ := obx_p hf
  refine k_v C1 hI (q_V C0 C1 hI 0 (p_X9_requirePad l g X r b H.size n M x1 h_2) w_1610 w_1612 w_69 w_71 w_1613 ⟨rfl, rfl⟩ hd_X9_requirePad ⟨Nat.le_of_ble_eq_true rfl, Nat.le_of_ble_eq_true rfl⟩ (kdlt0 (rfl : kdI 0 = 0)) ((shI_0 (rfl : kdI 0 = 0)) _) rfl rfl rfl hl.1 rfl (Nat.le_of_ble_eq_true rfl) dX9_frogsOn_2 ⟨Nat.le_of_ble_eq_true rfl, Nat.le_of_ble_eq_true rfl⟩) (fun H locs hI => ?_)
  refine lv_aload_n C0.1 C0.2.1 dX9_frogsOn_5 rfl (lv_at hl 0 rfl) ?_
  refine r_get (C := RX9) (T := TX9) (N9 := 11) (ci := 10) C0 C1 hI iX9 rfl 0 0 (kdlt0 (rfl : kdI 0 = 0)) (by decide) ((shI_0 (rfl : kdI 0 = 0)) _) rfl rfl w_342 dX9_frogsOn_6 ?_
  refine lv_iload_n C0.1 C0.2.1 dX9_frogsOn_9 rfl (lv_at hl 1 rfl) ?_
  obtain ⟨r_5, h_4, hf⟩ := ob_some hf
  refine k_i C1 hI (q_VN C0 C1 hI 1 (c_X2_countOn l g X r b H.size n M 1 (rfl : kdI 1 = 1) x1 h_4) 7 rfl w_390 w_0 w_72 w_391 ⟨rfl, rfl⟩ hd_X2_countOn ⟨Nat.le_of_ble_eq_true rfl, Nat.le_of_ble_eq_true rfl⟩ (kdlt1 (rfl : kdI 1 = 1)) ((shI_1 (rfl : kdI 1 = 1)) _) rfl rfl rfl hl.1 rfl (Nat.le_of_ble_eq_true rfl) dX9_frogsOn_10 ⟨Nat.le_of_ble_eq_true rfl, Nat.le_of_ble_eq_true rfl⟩) (fun H locs hI => ?_)
  exact ep_z C0 hI hr hlocks rfl hf dX9_frogsOn_13

def F_X9_padWeight (n : Nat) (x1 : Int32) (M : Mem) : Option (RX Int32) :=
  obx (F_X9_requirePad n x1 M) (fun u_3 => ob (F_X2_sittersOf n 1 x1 M) (fun r_8 => ob (F_X2_weightOfSet n 1 r_8 M) (fun r_10 => some (.inr r_10))))
theorem hd_X9_padWeight : yX9_padWeight.cls ≠ "java/lang/invoke/MethodHandle" ∧ yX9_padWeight.cls ≠ "java/lang/invoke/VarHandle" ∧ (parseMethodDescriptor yX9_padWeight.desc).map (fun d => d.parameters.length) = some 1 := ⟨by decide +kernel, by decide +kernel, by decide +kernel⟩
set_option maxHeartbeats 4000000 in
set_option maxRecDepth 100000 in
theorem c_X9_padWeight (l : Launch) (hl0 : l.stackTraces = false) (g : GG) (X : va_W) (r : Nat → Nat) (b : Nat → Nat) (sz n : Nat) (M : Mem) (x1 : Int32) {q0 : RX Int32} (hf : F_X9_padWeight n x1 M = some q0) : vx_Met l yX9_padWeight (.code yX9_padWeight cX9_padWeight 2 (some .int) :: LWg) (rmD 11 1 6) (va_Pc [.ref (b 0), .int x1] (PreP g X 372 (shI g r b) b sz M)) (QiX g X 372 (shI g r b) b sz q0 M) (XcX g X 372 (shI g r b) b sz q0 M) 1 6 (AA X b 372 sz) := by
  refine metx_go (by decide +kernel) rfl (Nat.le_of_ble_eq_true rfl) ?_
  intro p e s m below meth c ls H locs C0 C1 hr hlocks hno hsz hl hI
  subst hsz
  have hl : lv_has ls 2 [(0, .ref (b 0)), (1, .int x1)] := hl
  unfold F_X9_padWeight at hf
  refine lv_aload_n C0.1 C0.2.1 dX9_padWeight_0 rfl (lv_at hl 0 rfl) ?_
  refine lv_iload_n C0.1 C0.2.1 dX9_padWeight_1 rfl (lv_at hl 1 rfl) ?_
  obtain ⟨q_4, h_2, h_5, h_6⟩ := obx_x hf
  refine kx_v C1 hI (qx_V C0 C1 hI 0 (c_X9_requirePad l hl0 g X r b H.size n M x1 h_2) w_1610 w_1612 w_69 w_71 w_1613 ⟨rfl, rfl⟩ hd_X9_requirePad ⟨Nat.le_of_ble_eq_true rfl, Nat.le_of_ble_eq_true rfl⟩ (kdlt0 (rfl : kdI 0 = 0)) ((shI_0 (rfl : kdI 0 = 0)) _) rfl rfl rfl hl.1 rfl (Nat.le_of_ble_eq_true rfl) dX9_padWeight_2 ⟨Nat.le_of_ble_eq_true rfl, Nat.le_of_ble_eq_true rfl⟩) (fun k H locs ce q9 e1 hI g1 g2 g3 => x_out hno hlocks hI g1 g2 g3 (h_5 k e1) (Nat.le_of_ble_eq_true rfl) (Nat.le_of_ble_eq_true rfl)) (fun u_3 H locs e1 hI => ?_)
  have hf := h_6 u_3 e1
  refine lv_aload_n C0.1 C0.2.1 dX9_padWeight_5 rfl (lv_at hl 0 rfl) ?_
  refine r_get (C := RX9) (T := TX9) (N9 := 11) (ci := 10) C0 C1 hI iX9 rfl 0 0 (kdlt0 (rfl : kdI 0 = 0)) (by decide) ((shI_0 (rfl : kdI 0 = 0)) _) rfl rfl w_342 dX9_padWeight_6 ?_
  refine lv_aload_n C0.1 C0.2.1 dX9_padWeight_9 rfl (lv_at hl 0 rfl) ?_
  refine r_get (C := RX9) (T := TX9) (N9 := 11) (ci := 10) C0 C1 hI iX9 rfl 0 0 (kdlt0 (rfl : kdI 0 = 0)) (by decide) ((shI_0 (rfl : kdI 0 = 0)) _) rfl rfl w_342 dX9_padWeight_10 ?_
  refine lv_iload_n C0.1 C0.2.1 dX9_padWeight_13 rfl (lv_at hl 1 rfl) ?_
  obtain ⟨r_8, h_7, hf⟩ := ob_some hf
  refine k_i C1 hI (q_VN C0 C1 hI 1 (c_X2_sittersOf l g X r b H.size n M 1 (rfl : kdI 1 = 1) x1 h_7) 59 rfl w_394 w_1 w_72 w_395 ⟨rfl, rfl⟩ hd_X2_sittersOf ⟨Nat.le_of_ble_eq_true rfl, Nat.le_of_ble_eq_true rfl⟩ (kdlt1 (rfl : kdI 1 = 1)) ((shI_1 (rfl : kdI 1 = 1)) _) rfl rfl rfl hl.1 rfl (Nat.le_of_ble_eq_true rfl) dX9_padWeight_14 ⟨Nat.le_of_ble_eq_true rfl, Nat.le_of_ble_eq_true rfl⟩) (fun H locs hI => ?_)
  obtain ⟨r_10, h_9, hf⟩ := ob_some hf
  refine k_i C1 hI (q_VN C0 C1 hI 1 (c_X2_weightOfSet l g X r b H.size n M 1 (rfl : kdI 1 = 1) r_8 h_9) 48 rfl w_1379 w_62 w_72 w_1380 ⟨rfl, rfl⟩ hd_X2_weightOfSet ⟨Nat.le_of_ble_eq_true rfl, Nat.le_of_ble_eq_true rfl⟩ (kdlt1 (rfl : kdI 1 = 1)) ((shI_1 (rfl : kdI 1 = 1)) _) rfl rfl rfl hl.1 rfl (Nat.le_of_ble_eq_true rfl) dX9_padWeight_17 ⟨Nat.le_of_ble_eq_true rfl, Nat.le_of_ble_eq_true rfl⟩) (fun H locs hI => ?_)
  exact ex_z C0 hI hr hlocks rfl hf dX9_padWeight_20


set_option maxHeartbeats 4000000 in
set_option maxRecDepth 100000 in
theorem p_X9_padWeight (l : Launch) (g : GG) (X : va_W) (r : Nat → Nat) (b : Nat → Nat) (sz n : Nat) (M : Mem) (x1 : Int32) {r0 : Int32} (hf : F_X9_padWeight n x1 M = some (.inr r0)) : Met l yX9_padWeight (.code yX9_padWeight cX9_padWeight 2 (some .int) :: LWg) (rmD 11 0 0) (va_Pc [.ref (b 0), .int x1] (PreP g X 372 (shI g r b) b sz M)) (Qi g X 372 (shI g r b) b sz r0 M) 0 0 (AA X b 372 sz) := by
  refine met_go (by decide +kernel) rfl (Nat.le_of_ble_eq_true rfl) ?_
  intro p e s m below meth c ls H locs C0 C1 hr hlocks hnm hsz hl hI
  subst hsz
  have hl : lv_has ls 2 [(0, .ref (b 0)), (1, .int x1)] := hl
  unfold F_X9_padWeight at hf
  refine lv_aload_n C0.1 C0.2.1 dX9_padWeight_0 rfl (lv_at hl 0 rfl) ?_
  refine lv_iload_n C0.1 C0.2.1 dX9_padWeight_1 rfl (lv_at hl 1 rfl) ?_
  obtain ⟨u_3, h_2, hf⟩ := obx_p hf
  refine k_v C1 hI (q_V C0 C1 hI 0 (p_X9_requirePad l g X r b H.size n M x1 h_2) w_1610 w_1612 w_69 w_71 w_1613 ⟨rfl, rfl⟩ hd_X9_requirePad ⟨Nat.le_of_ble_eq_true rfl, Nat.le_of_ble_eq_true rfl⟩ (kdlt0 (rfl : kdI 0 = 0)) ((shI_0 (rfl : kdI 0 = 0)) _) rfl rfl rfl hl.1 rfl (Nat.le_of_ble_eq_true rfl) dX9_padWeight_2 ⟨Nat.le_of_ble_eq_true rfl, Nat.le_of_ble_eq_true rfl⟩) (fun H locs hI => ?_)
  refine lv_aload_n C0.1 C0.2.1 dX9_padWeight_5 rfl (lv_at hl 0 rfl) ?_
  refine r_get (C := RX9) (T := TX9) (N9 := 11) (ci := 10) C0 C1 hI iX9 rfl 0 0 (kdlt0 (rfl : kdI 0 = 0)) (by decide) ((shI_0 (rfl : kdI 0 = 0)) _) rfl rfl w_342 dX9_padWeight_6 ?_
  refine lv_aload_n C0.1 C0.2.1 dX9_padWeight_9 rfl (lv_at hl 0 rfl) ?_
  refine r_get (C := RX9) (T := TX9) (N9 := 11) (ci := 10) C0 C1 hI iX9 rfl 0 0 (kdlt0 (rfl : kdI 0 = 0)) (by decide) ((shI_0 (rfl : kdI 0 = 0)) _) rfl rfl w_342 dX9_padWeight_10 ?_
  refine lv_iload_n C0.1 C0.2.1 dX9_padWeight_13 rfl (lv_at hl 1 rfl) ?_
  obtain ⟨r_5, h_4, hf⟩ := ob_some hf
  refine k_i C1 hI (q_VN C0 C1 hI 1 (c_X2_sittersOf l g X r b H.size n M 1 (rfl : kdI 1 = 1) x1 h_4) 59 rfl w_394 w_1 w_72 w_395 ⟨rfl, rfl⟩ hd_X2_sittersOf ⟨Nat.le_of_ble_eq_true rfl, Nat.le_of_ble_eq_true rfl⟩ (kdlt1 (rfl : kdI 1 = 1)) ((shI_1 (rfl : kdI 1 = 1)) _) rfl rfl rfl hl.1 rfl (Nat.le_of_ble_eq_true rfl) dX9_padWeight_14 ⟨Nat.le_of_ble_eq_true rfl, Nat.le_of_ble_eq_true rfl⟩) (fun H locs hI => ?_)
  obtain ⟨r_7, h_6, hf⟩ := ob_some hf
  refine k_i C1 hI (q_VN C0 C1 hI 1 (c_X2_weightOfSet l g X r b H.size n M 1 (rfl : kdI 1 = 1) r_5 h_6) 48 rfl w_1379 w_62 w_72 w_1380 ⟨rfl, rfl⟩ hd_X2_weightOfSet ⟨Nat.le_of_ble_eq_true rfl, Nat.le_of_ble_eq_true rfl⟩ (kdlt1 (rfl : kdI 1 = 1)) ((shI_1 (rfl : kdI 1 = 1)) _) rfl rfl rfl hl.1 rfl (Nat.le_of_ble_eq_true rfl) dX9_padWeight_17 ⟨Nat.le_of_ble_eq_true rfl, Nat.le_of_ble_eq_true rfl⟩) (fun H locs hI => ?_)
  exact ep_z C0 hI hr hlocks rfl hf dX9_padWeight_20

def F_X9_sittingCount_L4 (n : Nat) (M : Mem) : Nat → Int32 → Int32 → Option Int32
  | 0, _, _ => none
  | k4 + 1, x1_4, x2_4 =>
    (if (M 1 6) ≤ x2_4 then some x1_4 else ob (F_X2_countOn n 1 x2_4 M) (fun r_4_3 => lt' (x1_4 + r_4_3) (fun x1_4_4 => lt' (x2_4 + 1) (fun x2_4_6 => F_X9_sittingCount_L4 n M k4 x1_4_4 x2_4_6))))
def F_X9_sittingCount (n : Nat) (M : Mem) : Option Int32 :=
  F_X9_sittingCount_L4 n M n 0 0
theorem hd_X9_sittingCount : yX9_sittingCount.cls ≠ "java/lang/invoke/MethodHandle" ∧ yX9_sittingCount.cls ≠ "java/lang/invoke/VarHandle" ∧ (parseMethodDescriptor yX9_sittingCount.desc).map (fun d => d.parameters.length) = some 0 := ⟨by decide +kernel, by decide +kernel, by decide +kernel⟩
set_option maxHeartbeats 4000000 in
set_option maxRecDepth 100000 in
theorem c_X9_sittingCount (l : Launch) (g : GG) (X : va_W) (r : Nat → Nat) (b : Nat → Nat) (sz n : Nat) (M : Mem) {r0 : Int32} (hf : F_X9_sittingCount n M = some r0) : Met l yX9_sittingCount (.code yX9_sittingCount cX9_sittingCount 3 (some .int) :: LWg) (rmD 2 0 0) (va_Pc [.ref (b 0)] (PreP g X 372 (shI g r b) b sz M)) (Qi g X 372 (shI g r b) b sz r0 M) 0 0 (AA X b 372 sz) := by
  refine met_go (by decide +kernel) rfl (Nat.le_of_ble_eq_true rfl) ?_
  intro p e s m below meth c ls H locs C0 C1 hr hlocks hnm hsz hl hI
  subst hsz
  have hl : lv_has ls 3 [(0, .ref (b 0))] := hl
  unfold F_X9_sittingCount at hf
  refine lv_iconst (v := 0) C0.1 C0.2.1 dX9_sittingCount_0 (by decide) ?_
  refine lv_istore_n (lv' := [(1, .int 0), (0, .ref (b 0))]) C0.1 C0.2.1 dX9_sittingCount_1 rfl hl (by decide) rfl (fun ls hl => ?_)
  refine lv_iconst (v := 0) C0.1 C0.2.1 dX9_sittingCount_2 (by decide) ?_
  refine lv_istore_n (lv' := [(2, .int 0), (1, .int 0), (0, .ref (b 0))]) C0.1 C0.2.1 dX9_sittingCount_3 rfl hl (by decide) rfl (fun ls hl => ?_)
  have L4 : ∀ (k4 : Nat) (x1_4 : Int32) (x2_4 : Int32), F_X9_sittingCount_L4 n M k4 x1_4 x2_4 = some r0 → ∀ (H : Heap) (locs : List Loc) (ls : Array Slot), PI g X 372 (shI g r b) b s M H locs → lv_has ls 3 [(0, .ref (b 0)), (1, .int x1_4), (2, .int x2_4)] → W p l e (rmD 2 0 0) s m ([.ref (b 0)] : List Value).toArray below meth c H locs 0 0 (MQ below (Qi g X 372 (shI g r b) b s.heap.size r0 M) ([.ref (b 0)] : List Value).toArray s 0 0 (AA X b 372 s.heap.size)) (F0 m 4 ls []) := by
    intro k4
    induction k4 with
    | zero => intro x1_4 x2_4 hf; exact absurd (show (none : Option Int32) = some r0 from hf) (fun h => by cases h)
    | succ k4 ih4 =>
      intro x1_4 x2_4 hf H locs ls hI hl
      unfold F_X9_sittingCount_L4 at hf
      refine lv_iload_n C0.1 C0.2.1 dX9_sittingCount_4 rfl (lv_at hl 2 rfl) ?_
      refine lv_aload_n C0.1 C0.2.1 dX9_sittingCount_5 rfl (lv_at hl 0 rfl) ?_
      refine r_get (C := RX9) (T := TX9) (N9 := 11) (ci := 10) C0 C1 hI iX9 rfl 0 0 (kdlt0 (rfl : kdI 0 = 0)) (by decide) ((shI_0 (rfl : kdI 0 = 0)) _) rfl rfl w_342 dX9_sittingCount_6 ?_
      refine r_getN (C := RX2) (T := TX2) (N9 := 12) (ci := 4) C0 C1 hI iX2 rfl 1 6 (kdlt1 (rfl : kdI 1 = 1)) (by decide) ((shI_1 (rfl : kdI 1 = 1)) _) rfl rfl 27 rfl dX9_sittingCount_9 ?_
      refine lv_icmp_ge (tgt := 32) C0.1 C0.2.1 dX9_sittingCount_12 (by decide) (fun c_4_1 => ?_) (fun c_4_1 => ?_)
      · have hf := (if_pos c_4_1).symm.trans hf
        refine lv_iload_n C0.1 C0.2.1 dX9_sittingCount_32 rfl (lv_at hl 1 rfl) ?_
        exact ee_i C0 hI hr hlocks hf dX9_sittingCount_33
      · have hf := (if_neg c_4_1).symm.trans hf
        refine lv_iload_n C0.1 C0.2.1 dX9_sittingCount_15 rfl (lv_at hl 1 rfl) ?_
        refine lv_aload_n C0.1 C0.2.1 dX9_sittingCount_16 rfl (lv_at hl 0 rfl) ?_
        refine r_get (C := RX9) (T := TX9) (N9 := 11) (ci := 10) C0 C1 hI iX9 rfl 0 0 (kdlt0 (rfl : kdI 0 = 0)) (by decide) ((shI_0 (rfl : kdI 0 = 0)) _) rfl rfl w_342 dX9_sittingCount_17 ?_
        refine lv_iload_n C0.1 C0.2.1 dX9_sittingCount_20 rfl (lv_at hl 2 rfl) ?_
        obtain ⟨r_4_3, h_4_2, hf⟩ := ob_some hf
        refine k_i C1 hI (q_VN C0 C1 hI 1 (c_X2_countOn l g X r b H.size n M 1 (rfl : kdI 1 = 1) x2_4 h_4_2) 7 rfl w_390 w_0 w_72 w_391 ⟨rfl, rfl⟩ hd_X2_countOn ⟨Nat.le_of_ble_eq_true rfl, Nat.le_of_ble_eq_true rfl⟩ (kdlt1 (rfl : kdI 1 = 1)) ((shI_1 (rfl : kdI 1 = 1)) _) rfl rfl rfl hl.1 rfl (Nat.le_of_ble_eq_true rfl) dX9_sittingCount_21 ⟨Nat.le_of_ble_eq_true rfl, Nat.le_of_ble_eq_true rfl⟩) (fun H locs hI => ?_)
        refine lv_iadd C0.1 C0.2.1 dX9_sittingCount_24 ?_
        refine lv_topi (fun x1_4_4 e_4_5 => ?_)
        have hf := lt_at e_4_5 hf
        refine lv_istore_n (lv' := [(1, .int x1_4_4), (0, .ref (b 0)), (2, .int x2_4)]) C0.1 C0.2.1 dX9_sittingCount_25 rfl hl (by decide) rfl (fun ls hl => ?_)
        obtain ⟨x2_4_6, e_4_7⟩ : ∃ z : Int32, z = x2_4 + 1 := ⟨_, rfl⟩
        have hf := lt_at e_4_7 hf
        refine lv_iinc (v := x2_4_6) (lv' := [(2, .int x2_4_6), (1, .int x1_4_4), (0, .ref (b 0))]) C0.1 C0.2.1 dX9_sittingCount_26 hl (k := 2) rfl (by rw [e_4_7]; rfl) (by decide) rfl (fun ls hl => ?_)
        refine lv_goto (tgt := 4) C0.1 C0.2.1 dX9_sittingCount_29 (by decide) ?_
        exact ih4 x1_4_4 x2_4_6 hf H locs ls hI (lv_sub hl [2, 1, 0] rfl)
  exact L4 n 0 0 hf H locs ls hI (lv_sub hl [2, 1, 0] rfl)

def F_X9_sittingCountBySet (n : Nat) (M : Mem) : Option Int32 :=
  ob (F_J6_bitCount_0f7a4 n (M 1 5) M) (fun r_2 => some r_2)
theorem hd_X9_sittingCountBySet : yX9_sittingCountBySet.cls ≠ "java/lang/invoke/MethodHandle" ∧ yX9_sittingCountBySet.cls ≠ "java/lang/invoke/VarHandle" ∧ (parseMethodDescriptor yX9_sittingCountBySet.desc).map (fun d => d.parameters.length) = some 0 := ⟨by decide +kernel, by decide +kernel, by decide +kernel⟩
set_option maxHeartbeats 4000000 in
set_option maxRecDepth 100000 in
theorem c_X9_sittingCountBySet (l : Launch) (g : GG) (X : va_W) (r : Nat → Nat) (b : Nat → Nat) (sz n : Nat) (M : Mem) {r0 : Int32} (hf : F_X9_sittingCountBySet n M = some r0) : Met l yX9_sittingCountBySet (.code yX9_sittingCountBySet cX9_sittingCountBySet 1 (some .int) :: LWg) (rmD 1 0 0) (va_Pc [.ref (b 0)] (PreP g X 372 (shI g r b) b sz M)) (Qi g X 372 (shI g r b) b sz r0 M) 0 0 (AA X b 372 sz) := by
  refine met_go (by decide +kernel) rfl (Nat.le_of_ble_eq_true rfl) ?_
  intro p e s m below meth c ls H locs C0 C1 hr hlocks hnm hsz hl hI
  subst hsz
  have hl : lv_has ls 1 [(0, .ref (b 0))] := hl
  unfold F_X9_sittingCountBySet at hf
  refine lv_aload_n C0.1 C0.2.1 dX9_sittingCountBySet_0 rfl (lv_at hl 0 rfl) ?_
  refine r_get (C := RX9) (T := TX9) (N9 := 11) (ci := 10) C0 C1 hI iX9 rfl 0 0 (kdlt0 (rfl : kdI 0 = 0)) (by decide) ((shI_0 (rfl : kdI 0 = 0)) _) rfl rfl w_342 dX9_sittingCountBySet_1 ?_
  refine r_getN (C := RX2) (T := TX2) (N9 := 12) (ci := 4) C0 C1 hI iX2 rfl 1 5 (kdlt1 (rfl : kdI 1 = 1)) (by decide) ((shI_1 (rfl : kdI 1 = 1)) _) rfl rfl 26 rfl dX9_sittingCountBySet_4 ?_
  obtain ⟨r_2, h_1, hf⟩ := ob_some hf
  refine k_i C1 hI (q_S C0 C1 hI (c_J6_bitCount_0f7a4 l g X r b H.size n M (M 1 5) h_1) w_406 w_397 w_98 w_398 ⟨rfl, rfl⟩ hd_J6_bitCount_0f7a4 ⟨Nat.le_of_ble_eq_true rfl, Nat.le_of_ble_eq_true rfl⟩ rfl hl.1 rfl (Nat.le_of_ble_eq_true rfl) dX9_sittingCountBySet_7 ⟨Nat.le_of_ble_eq_true rfl, Nat.le_of_ble_eq_true rfl⟩) (fun H locs hI => ?_)
  exact ee_i C0 hI hr hlocks hf dX9_sittingCountBySet_10

def F_X9_addMotion (n : Nat) (x1 : Int32) (M : Mem) : Option (RX Int32 × Mem) :=
  ob (F_X2_refusalToPropose n 1 x1 M) (fun r_2 => obxr (F_X9_refuse n r_2 M) M (fun u_5 => ob (F_X5_push n 94 1 M) (fun M_10 => ob2 (F_X2_propose n 1 x1 M_10) (fun r_12 M_13 => some (.inr r_12, M_13)))))
theorem hd_X9_addMotion : yX9_addMotion.cls ≠ "java/lang/invoke/MethodHandle" ∧ yX9_addMotion.cls ≠ "java/lang/invoke/VarHandle" ∧ (parseMethodDescriptor yX9_addMotion.desc).map (fun d => d.parameters.length) = some 1 := ⟨by decide +kernel, by decide +kernel, by decide +kernel⟩
set_option maxHeartbeats 4000000 in
set_option maxRecDepth 100000 in
theorem c_X9_addMotion (l : Launch) (hl0 : l.stackTraces = false) (g : GG) (X : va_W) (r : Nat → Nat) (b : Nat → Nat) (sz n : Nat) (M : Mem) (x1 : Int32) {q0 : RX Int32} {M' : Mem} (hf : F_X9_addMotion n x1 M = some (q0, M')) : vx_Met l yX9_addMotion (.code yX9_addMotion cX9_addMotion 2 (some .int) :: LWg) (rmD 10 1 6) (va_Pc [.ref (b 0), .int x1] (PreP g X 372 (shI g r b) b sz M)) (QiX g X 372 (shI g r b) b sz q0 M') (XcX g X 372 (shI g r b) b sz q0 M') 1 6 (AA X b 372 sz) := by
  refine metx_go (by decide +kernel) rfl (Nat.le_of_ble_eq_true rfl) ?_
  intro p e s m below meth c ls H locs C0 C1 hr hlocks hno hsz hl hI
  subst hsz
  have hl : lv_has ls 2 [(0, .ref (b 0)), (1, .int x1)] := hl
  unfold F_X9_addMotion at hf
  refine lv_aload_n C0.1 C0.2.1 dX9_addMotion_0 rfl (lv_at hl 0 rfl) ?_
  refine r_get (C := RX9) (T := TX9) (N9 := 11) (ci := 10) C0 C1 hI iX9 rfl 0 0 (kdlt0 (rfl : kdI 0 = 0)) (by decide) ((shI_0 (rfl : kdI 0 = 0)) _) rfl rfl w_342 dX9_addMotion_1 ?_
  refine lv_iload_n C0.1 C0.2.1 dX9_addMotion_4 rfl (lv_at hl 1 rfl) ?_
  obtain ⟨r_2, h_1, hf⟩ := ob_some hf
  refine k_e C1 hI (q_VN C0 C1 hI 1 (c_X2_refusalToPropose l g X r b H.size n M 1 (rfl : kdI 1 = 1) x1 h_1) 28 rfl w_820 w_30 w_72 w_821 ⟨rfl, rfl⟩ hd_X2_refusalToPropose ⟨Nat.le_of_ble_eq_true rfl, Nat.le_of_ble_eq_true rfl⟩ (kdlt1 (rfl : kdI 1 = 1)) ((shI_1 (rfl : kdI 1 = 1)) _) rfl rfl rfl hl.1 rfl (Nat.le_of_ble_eq_true rfl) dX9_addMotion_5 ⟨Nat.le_of_ble_eq_true rfl, Nat.le_of_ble_eq_true rfl⟩) (fun H locs hI => ?_)
  obtain ⟨q_6, h_4, h_7, h_8⟩ := obxr_x hf
  refine kx_v C1 hI (qx_S C0 C1 hI (c_X9_refuse l hl0 g X r b H.size n M r_2 h_4) w_423 w_424 w_71 w_425 ⟨rfl, rfl⟩ hd_X9_refuse ⟨Nat.le_of_ble_eq_true rfl, Nat.le_of_ble_eq_true rfl⟩ rfl hl.1 rfl (Nat.le_of_ble_eq_true rfl) dX9_addMotion_8 ⟨Nat.le_of_ble_eq_true rfl, Nat.le_of_ble_eq_true rfl⟩) (fun k H locs ce q9 e1 hI g1 g2 g3 => x_outm hno hlocks hI g1 g2 g3 (h_7 k e1) (Nat.le_of_ble_eq_true rfl) (Nat.le_of_ble_eq_true rfl)) (fun u_5 H locs e1 hI => ?_)
  have hf := h_8 u_5 e1
  refine lv_aload_n C0.1 C0.2.1 dX9_addMotion_11 rfl (lv_at hl 0 rfl) ?_
  refine r_get (C := RX9) (T := TX9) (N9 := 11) (ci := 10) C0 C1 hI iX9 rfl 0 4 (kdlt0 (rfl : kdI 0 = 0)) (by decide) ((shI_0 (rfl : kdI 0 = 0)) _) rfl rfl w_346 dX9_addMotion_12 ?_
  refine lv_aload_n C0.1 C0.2.1 dX9_addMotion_15 rfl (lv_at hl 0 rfl) ?_
  refine r_get (C := RX9) (T := TX9) (N9 := 11) (ci := 10) C0 C1 hI iX9 rfl 0 0 (kdlt0 (rfl : kdI 0 = 0)) (by decide) ((shI_0 (rfl : kdI 0 = 0)) _) rfl rfl w_342 dX9_addMotion_16 ?_
  obtain ⟨M_10, h_9, hf⟩ := ob_some hf
  refine k_v C1 hI (q_VN C0 C1 hI 94 (c_X5_push l g X r b H.size n M 94 (rfl : kdI 94 = 6) 1 (rfl : kdI 1 = 1) h_9) 18 rfl w_723 w_17 w_74 w_724 ⟨rfl, rfl⟩ hd_X5_push ⟨Nat.le_of_ble_eq_true rfl, Nat.le_of_ble_eq_true rfl⟩ (kdlt6 (rfl : kdI 94 = 6)) ((shI_6 (rfl : kdI 94 = 6)) _) rfl rfl rfl hl.1 rfl (Nat.le_of_ble_eq_true rfl) dX9_addMotion_19 ⟨Nat.le_of_ble_eq_true rfl, Nat.le_of_ble_eq_true rfl⟩) (fun H locs hI => ?_)
  refine lv_aload_n C0.1 C0.2.1 dX9_addMotion_22 rfl (lv_at hl 0 rfl) ?_
  refine r_get (C := RX9) (T := TX9) (N9 := 11) (ci := 10) C0 C1 hI iX9 rfl 0 0 (kdlt0 (rfl : kdI 0 = 0)) (by decide) ((shI_0 (rfl : kdI 0 = 0)) _) rfl rfl w_342 dX9_addMotion_23 ?_
  refine lv_iload_n C0.1 C0.2.1 dX9_addMotion_26 rfl (lv_at hl 1 rfl) ?_
  obtain ⟨r_12, M_13, h_11, hf⟩ := ob2_some hf
  refine k_i C1 hI (q_VN C0 C1 hI 1 (c_X2_propose l g X r b H.size n M_10 1 (rfl : kdI 1 = 1) x1 h_11) 29 rfl w_826 w_31 w_72 w_827 ⟨rfl, rfl⟩ hd_X2_propose ⟨Nat.le_of_ble_eq_true rfl, Nat.le_of_ble_eq_true rfl⟩ (kdlt1 (rfl : kdI 1 = 1)) ((shI_1 (rfl : kdI 1 = 1)) _) rfl rfl rfl hl.1 rfl (Nat.le_of_ble_eq_true rfl) dX9_addMotion_27 ⟨Nat.le_of_ble_eq_true rfl, Nat.le_of_ble_eq_true rfl⟩) (fun H locs hI => ?_)
  exact ex_zm C0 hI hr hlocks rfl hf dX9_addMotion_30


set_option maxHeartbeats 4000000 in
set_option maxRecDepth 100000 in
theorem p_X9_addMotion (l : Launch) (g : GG) (X : va_W) (r : Nat → Nat) (b : Nat → Nat) (sz n : Nat) (M : Mem) (x1 : Int32) {r0 : Int32} {M' : Mem} (hf : F_X9_addMotion n x1 M = some (.inr r0, M')) : Met l yX9_addMotion (.code yX9_addMotion cX9_addMotion 2 (some .int) :: LWg) (rmD 10 0 0) (va_Pc [.ref (b 0), .int x1] (PreP g X 372 (shI g r b) b sz M)) (Qi g X 372 (shI g r b) b sz r0 M') 0 0 (AA X b 372 sz) := by
  refine met_go (by decide +kernel) rfl (Nat.le_of_ble_eq_true rfl) ?_
  intro p e s m below meth c ls H locs C0 C1 hr hlocks hnm hsz hl hI
  subst hsz
  have hl : lv_has ls 2 [(0, .ref (b 0)), (1, .int x1)] := hl
  unfold F_X9_addMotion at hf
  refine lv_aload_n C0.1 C0.2.1 dX9_addMotion_0 rfl (lv_at hl 0 rfl) ?_
  refine r_get (C := RX9) (T := TX9) (N9 := 11) (ci := 10) C0 C1 hI iX9 rfl 0 0 (kdlt0 (rfl : kdI 0 = 0)) (by decide) ((shI_0 (rfl : kdI 0 = 0)) _) rfl rfl w_342 dX9_addMotion_1 ?_
  refine lv_iload_n C0.1 C0.2.1 dX9_addMotion_4 rfl (lv_at hl 1 rfl) ?_
  obtain ⟨r_2, h_1, hf⟩ := ob_some hf
  refine k_e C1 hI (q_VN C0 C1 hI 1 (c_X2_refusalToPropose l g X r b H.size n M 1 (rfl : kdI 1 = 1) x1 h_1) 28 rfl w_820 w_30 w_72 w_821 ⟨rfl, rfl⟩ hd_X2_refusalToPropose ⟨Nat.le_of_ble_eq_true rfl, Nat.le_of_ble_eq_true rfl⟩ (kdlt1 (rfl : kdI 1 = 1)) ((shI_1 (rfl : kdI 1 = 1)) _) rfl rfl rfl hl.1 rfl (Nat.le_of_ble_eq_true rfl) dX9_addMotion_5 ⟨Nat.le_of_ble_eq_true rfl, Nat.le_of_ble_eq_true rfl⟩) (fun H locs hI => ?_)
  obtain ⟨u_5, h_4, hf⟩ := obxr_p hf
  refine k_v C1 hI (q_S C0 C1 hI (p_X9_refuse l g X r b H.size n M r_2 h_4) w_423 w_424 w_71 w_425 ⟨rfl, rfl⟩ hd_X9_refuse ⟨Nat.le_of_ble_eq_true rfl, Nat.le_of_ble_eq_true rfl⟩ rfl hl.1 rfl (Nat.le_of_ble_eq_true rfl) dX9_addMotion_8 ⟨Nat.le_of_ble_eq_true rfl, Nat.le_of_ble_eq_true rfl⟩) (fun H locs hI => ?_)
  refine lv_aload_n C0.1 C0.2.1 dX9_addMotion_11 rfl (lv_at hl 0 rfl) ?_
  refine r_get (C := RX9) (T := TX9) (N9 := 11) (ci := 10) C0 C1 hI iX9 rfl 0 4 (kdlt0 (rfl : kdI 0 = 0)) (by decide) ((shI_0 (rfl : kdI 0 = 0)) _) rfl rfl w_346 dX9_addMotion_12 ?_
  refine lv_aload_n C0.1 C0.2.1 dX9_addMotion_15 rfl (lv_at hl 0 rfl) ?_
  refine r_get (C := RX9) (T := TX9) (N9 := 11) (ci := 10) C0 C1 hI iX9 rfl 0 0 (kdlt0 (rfl : kdI 0 = 0)) (by decide) ((shI_0 (rfl : kdI 0 = 0)) _) rfl rfl w_342 dX9_addMotion_16 ?_
  obtain ⟨M_7, h_6, hf⟩ := ob_some hf
  refine k_v C1 hI (q_VN C0 C1 hI 94 (c_X5_push l g X r b H.size n M 94 (rfl : kdI 94 = 6) 1 (rfl : kdI 1 = 1) h_6) 18 rfl w_723 w_17 w_74 w_724 ⟨rfl, rfl⟩ hd_X5_push ⟨Nat.le_of_ble_eq_true rfl, Nat.le_of_ble_eq_true rfl⟩ (kdlt6 (rfl : kdI 94 = 6)) ((shI_6 (rfl : kdI 94 = 6)) _) rfl rfl rfl hl.1 rfl (Nat.le_of_ble_eq_true rfl) dX9_addMotion_19 ⟨Nat.le_of_ble_eq_true rfl, Nat.le_of_ble_eq_true rfl⟩) (fun H locs hI => ?_)
  refine lv_aload_n C0.1 C0.2.1 dX9_addMotion_22 rfl (lv_at hl 0 rfl) ?_
  refine r_get (C := RX9) (T := TX9) (N9 := 11) (ci := 10) C0 C1 hI iX9 rfl 0 0 (kdlt0 (rfl : kdI 0 = 0)) (by decide) ((shI_0 (rfl : kdI 0 = 0)) _) rfl rfl w_342 dX9_addMotion_23 ?_
  refine lv_iload_n C0.1 C0.2.1 dX9_addMotion_26 rfl (lv_at hl 1 rfl) ?_
  obtain ⟨r_9, M_10, h_8, hf⟩ := ob2_some hf
  refine k_i C1 hI (q_VN C0 C1 hI 1 (c_X2_propose l g X r b H.size n M_7 1 (rfl : kdI 1 = 1) x1 h_8) 29 rfl w_826 w_31 w_72 w_827 ⟨rfl, rfl⟩ hd_X2_propose ⟨Nat.le_of_ble_eq_true rfl, Nat.le_of_ble_eq_true rfl⟩ (kdlt1 (rfl : kdI 1 = 1)) ((shI_1 (rfl : kdI 1 = 1)) _) rfl rfl rfl hl.1 rfl (Nat.le_of_ble_eq_true rfl) dX9_addMotion_27 ⟨Nat.le_of_ble_eq_true rfl, Nat.le_of_ble_eq_true rfl⟩) (fun H locs hI => ?_)
  exact ep_zm C0 hI hr hlocks rfl hf dX9_addMotion_30

def F_X9_motionCount (n : Nat) (M : Mem) : Option Int32 :=
  some (M 1 8)
theorem hd_X9_motionCount : yX9_motionCount.cls ≠ "java/lang/invoke/MethodHandle" ∧ yX9_motionCount.cls ≠ "java/lang/invoke/VarHandle" ∧ (parseMethodDescriptor yX9_motionCount.desc).map (fun d => d.parameters.length) = some 0 := ⟨by decide +kernel, by decide +kernel, by decide +kernel⟩
set_option maxHeartbeats 4000000 in
set_option maxRecDepth 100000 in
theorem c_X9_motionCount (l : Launch) (g : GG) (X : va_W) (r : Nat → Nat) (b : Nat → Nat) (sz n : Nat) (M : Mem) {r0 : Int32} (hf : F_X9_motionCount n M = some r0) : Met l yX9_motionCount (.code yX9_motionCount cX9_motionCount 1 (some .int) :: LWg) (rmD 0 0 0) (va_Pc [.ref (b 0)] (PreP g X 372 (shI g r b) b sz M)) (Qi g X 372 (shI g r b) b sz r0 M) 0 0 (AA X b 372 sz) := by
  refine met_go (by decide +kernel) rfl (Nat.le_of_ble_eq_true rfl) ?_
  intro p e s m below meth c ls H locs C0 C1 hr hlocks hnm hsz hl hI
  subst hsz
  have hl : lv_has ls 1 [(0, .ref (b 0))] := hl
  unfold F_X9_motionCount at hf
  refine lv_aload_n C0.1 C0.2.1 dX9_motionCount_0 rfl (lv_at hl 0 rfl) ?_
  refine r_get (C := RX9) (T := TX9) (N9 := 11) (ci := 10) C0 C1 hI iX9 rfl 0 0 (kdlt0 (rfl : kdI 0 = 0)) (by decide) ((shI_0 (rfl : kdI 0 = 0)) _) rfl rfl w_342 dX9_motionCount_1 ?_
  refine r_getN (C := RX2) (T := TX2) (N9 := 12) (ci := 4) C0 C1 hI iX2 rfl 1 8 (kdlt1 (rfl : kdI 1 = 1)) (by decide) ((shI_1 (rfl : kdI 1 = 1)) _) rfl rfl 28 rfl dX9_motionCount_4 ?_
  exact ee_i C0 hI hr hlocks hf dX9_motionCount_7

def F_X9_isEntitled (n : Nat) (x1 : Int32) (x2 : Int32) (M : Mem) : Option (RX Int32) :=
  ob (F_X2_refusalOfPair n 1 x1 x2 M) (fun r_2 => obx (F_X9_refuse n r_2 M) (fun u_5 => ob (F_X2_entitles n 1 x1 x2 M) (fun r_10 => chk (isB r_10) (some (.inr r_10)))))
theorem hd_X9_isEntitled : yX9_isEntitled.cls ≠ "java/lang/invoke/MethodHandle" ∧ yX9_isEntitled.cls ≠ "java/lang/invoke/VarHandle" ∧ (parseMethodDescriptor yX9_isEntitled.desc).map (fun d => d.parameters.length) = some 2 := ⟨by decide +kernel, by decide +kernel, by decide +kernel⟩
set_option maxHeartbeats 4000000 in
set_option maxRecDepth 100000 in
theorem c_X9_isEntitled (l : Launch) (hl0 : l.stackTraces = false) (g : GG) (X : va_W) (r : Nat → Nat) (b : Nat → Nat) (sz n : Nat) (M : Mem) (x1 : Int32) (x2 : Int32) {q0 : RX Int32} (hf : F_X9_isEntitled n x1 x2 M = some q0) : vx_Met l yX9_isEntitled (.code yX9_isEntitled cX9_isEntitled 3 (some .boolean) :: LWg) (rmD 10 1 6) (va_Pc [.ref (b 0), .int x1, .int x2] (PreP g X 372 (shI g r b) b sz M)) (QiX g X 372 (shI g r b) b sz q0 M) (XcX g X 372 (shI g r b) b sz q0 M) 1 6 (AA X b 372 sz) := by
  refine metx_go (by decide +kernel) rfl (Nat.le_of_ble_eq_true rfl) ?_
  intro p e s m below meth c ls H locs C0 C1 hr hlocks hno hsz hl hI
  subst hsz
  have hl : lv_has ls 3 [(0, .ref (b 0)), (1, .int x1), (2, .int x2)] := hl
  unfold F_X9_isEntitled at hf
  refine lv_aload_n C0.1 C0.2.1 dX9_isEntitled_0 rfl (lv_at hl 0 rfl) ?_
  refine r_get (C := RX9) (T := TX9) (N9 := 11) (ci := 10) C0 C1 hI iX9 rfl 0 0 (kdlt0 (rfl : kdI 0 = 0)) (by decide) ((shI_0 (rfl : kdI 0 = 0)) _) rfl rfl w_342 dX9_isEntitled_1 ?_
  refine lv_iload_n C0.1 C0.2.1 dX9_isEntitled_4 rfl (lv_at hl 1 rfl) ?_
  refine lv_iload_n C0.1 C0.2.1 dX9_isEntitled_5 rfl (lv_at hl 2 rfl) ?_
  obtain ⟨r_2, h_1, hf⟩ := ob_some hf
  refine k_e C1 hI (q_VN C0 C1 hI 1 (c_X2_refusalOfPair l g X r b H.size n M 1 (rfl : kdI 1 = 1) x1 x2 h_1) 62 rfl w_846 w_34 w_72 w_847 ⟨rfl, rfl⟩ hd_X2_refusalOfPair ⟨Nat.le_of_ble_eq_true rfl, Nat.le_of_ble_eq_true rfl⟩ (kdlt1 (rfl : kdI 1 = 1)) ((shI_1 (rfl : kdI 1 = 1)) _) rfl rfl rfl hl.1 rfl (Nat.le_of_ble_eq_true rfl) dX9_isEntitled_6 ⟨Nat.le_of_ble_eq_true rfl, Nat.le_of_ble_eq_true rfl⟩) (fun H locs hI => ?_)
  obtain ⟨q_6, h_4, h_7, h_8⟩ := obx_x hf
  refine kx_v C1 hI (qx_S C0 C1 hI (c_X9_refuse l hl0 g X r b H.size n M r_2 h_4) w_423 w_424 w_71 w_425 ⟨rfl, rfl⟩ hd_X9_refuse ⟨Nat.le_of_ble_eq_true rfl, Nat.le_of_ble_eq_true rfl⟩ rfl hl.1 rfl (Nat.le_of_ble_eq_true rfl) dX9_isEntitled_9 ⟨Nat.le_of_ble_eq_true rfl, Nat.le_of_ble_eq_true rfl⟩) (fun k H locs ce q9 e1 hI g1 g2 g3 => x_out hno hlocks hI g1 g2 g3 (h_7 k e1) (Nat.le_of_ble_eq_true rfl) (Nat.le_of_ble_eq_true rfl)) (fun u_5 H locs e1 hI => ?_)
  have hf := h_8 u_5 e1
  refine lv_aload_n C0.1 C0.2.1 dX9_isEntitled_12 rfl (lv_at hl 0 rfl) ?_
  refine r_get (C := RX9) (T := TX9) (N9 := 11) (ci := 10) C0 C1 hI iX9 rfl 0 0 (kdlt0 (rfl : kdI 0 = 0)) (by decide) ((shI_0 (rfl : kdI 0 = 0)) _) rfl rfl w_342 dX9_isEntitled_13 ?_
  refine lv_iload_n C0.1 C0.2.1 dX9_isEntitled_16 rfl (lv_at hl 1 rfl) ?_
  refine lv_iload_n C0.1 C0.2.1 dX9_isEntitled_17 rfl (lv_at hl 2 rfl) ?_
  obtain ⟨r_10, h_9, hf⟩ := ob_some hf
  refine k_i C1 hI (q_VN C0 C1 hI 1 (c_X2_entitles l g X r b H.size n M 1 (rfl : kdI 1 = 1) x1 x2 h_9) 63 rfl w_850 w_35 w_72 w_851 ⟨rfl, rfl⟩ hd_X2_entitles ⟨Nat.le_of_ble_eq_true rfl, Nat.le_of_ble_eq_true rfl⟩ (kdlt1 (rfl : kdI 1 = 1)) ((shI_1 (rfl : kdI 1 = 1)) _) rfl rfl rfl hl.1 rfl (Nat.le_of_ble_eq_true rfl) dX9_isEntitled_18 ⟨Nat.le_of_ble_eq_true rfl, Nat.le_of_ble_eq_true rfl⟩) (fun H locs hI => ?_)
  obtain ⟨h_11, hf⟩ := chk_some hf
  exact ex_z C0 hI hr hlocks (isB_n h_11).1 hf dX9_isEntitled_21


set_option maxHeartbeats 4000000 in
set_option maxRecDepth 100000 in
theorem p_X9_isEntitled (l : Launch) (g : GG) (X : va_W) (r : Nat → Nat) (b : Nat → Nat) (sz n : Nat) (M : Mem) (x1 : Int32) (x2 : Int32) {r0 : Int32} (hf : F_X9_isEntitled n x1 x2 M = some (.inr r0)) : Met l yX9_isEntitled (.code yX9_isEntitled cX9_isEntitled 3 (some .boolean) :: LWg) (rmD 10 0 0) (va_Pc [.ref (b 0), .int x1, .int x2] (PreP g X 372 (shI g r b) b sz M)) (Qi g X 372 (shI g r b) b sz r0 M) 0 0 (AA X b 372 sz) := by
  refine met_go (by decide +kernel) rfl (Nat.le_of_ble_eq_true rfl) ?_
  intro p e s m below meth c ls H locs C0 C1 hr hlocks hnm hsz hl hI
  subst hsz
  have hl : lv_has ls 3 [(0, .ref (b 0)), (1, .int x1), (2, .int x2)] := hl
  unfold F_X9_isEntitled at hf
  refine lv_aload_n C0.1 C0.2.1 dX9_isEntitled_0 rfl (lv_at hl 0 rfl) ?_
  refine r_get (C := RX9) (T := TX9) (N9 := 11) (ci := 10) C0 C1 hI iX9 rfl 0 0 (kdlt0 (rfl : kdI 0 = 0)) (by decide) ((shI_0 (rfl : kdI 0 = 0)) _) rfl rfl w_342 dX9_isEntitled_1 ?_
  refine lv_iload_n C0.1 C0.2.1 dX9_isEntitled_4 rfl (lv_at hl 1 rfl) ?_
  refine lv_iload_n C0.1 C0.2.1 dX9_isEntitled_5 rfl (lv_at hl 2 rfl) ?_
  obtain ⟨r_2, h_1, hf⟩ := ob_some hf
  refine k_e C1 hI (q_VN C0 C1 hI 1 (c_X2_refusalOfPair l g X r b H.size n M 1 (rfl : kdI 1 = 1) x1 x2 h_1) 62 rfl w_846 w_34 w_72 w_847 ⟨rfl, rfl⟩ hd_X2_refusalOfPair ⟨Nat.le_of_ble_eq_true rfl, Nat.le_of_ble_eq_true rfl⟩ (kdlt1 (rfl : kdI 1 = 1)) ((shI_1 (rfl : kdI 1 = 1)) _) rfl rfl rfl hl.1 rfl (Nat.le_of_ble_eq_true rfl) dX9_isEntitled_6 ⟨Nat.le_of_ble_eq_true rfl, Nat.le_of_ble_eq_true rfl⟩) (fun H locs hI => ?_)
  obtain ⟨u_5, h_4, hf⟩ := obx_p hf
  refine k_v C1 hI (q_S C0 C1 hI (p_X9_refuse l g X r b H.size n M r_2 h_4) w_423 w_424 w_71 w_425 ⟨rfl, rfl⟩ hd_X9_refuse ⟨Nat.le_of_ble_eq_true rfl, Nat.le_of_ble_eq_true rfl⟩ rfl hl.1 rfl (Nat.le_of_ble_eq_true rfl) dX9_isEntitled_9 ⟨Nat.le_of_ble_eq_true rfl, Nat.le_of_ble_eq_true rfl⟩) (fun H locs hI => ?_)
  refine lv_aload_n C0.1 C0.2.1 dX9_isEntitled_12 rfl (lv_at hl 0 rfl) ?_
  refine r_get (C := RX9) (T := TX9) (N9 := 11) (ci := 10) C0 C1 hI iX9 rfl 0 0 (kdlt0 (rfl : kdI 0 = 0)) (by decide) ((shI_0 (rfl : kdI 0 = 0)) _) rfl rfl w_342 dX9_isEntitled_13 ?_
  refine lv_iload_n C0.1 C0.2.1 dX9_isEntitled_16 rfl (lv_at hl 1 rfl) ?_
  refine lv_iload_n C0.1 C0.2.1 dX9_isEntitled_17 rfl (lv_at hl 2 rfl) ?_
  obtain ⟨r_7, h_6, hf⟩ := ob_some hf
  refine k_i C1 hI (q_VN C0 C1 hI 1 (c_X2_entitles l g X r b H.size n M 1 (rfl : kdI 1 = 1) x1 x2 h_6) 63 rfl w_850 w_35 w_72 w_851 ⟨rfl, rfl⟩ hd_X2_entitles ⟨Nat.le_of_ble_eq_true rfl, Nat.le_of_ble_eq_true rfl⟩ (kdlt1 (rfl : kdI 1 = 1)) ((shI_1 (rfl : kdI 1 = 1)) _) rfl rfl rfl hl.1 rfl (Nat.le_of_ble_eq_true rfl) dX9_isEntitled_18 ⟨Nat.le_of_ble_eq_true rfl, Nat.le_of_ble_eq_true rfl⟩) (fun H locs hI => ?_)
  obtain ⟨h_8, hf⟩ := chk_some hf
  exact ep_z C0 hI hr hlocks (isB_n h_8).1 hf dX9_isEntitled_21

def F_X9_signUp (n : Nat) (x1 : Int32) (x2 : Int32) (M : Mem) : Option (RX Int32 × Mem) :=
  ob (F_X2_refusalToEnlist n 1 x1 x2 M) (fun r_2 => obxr (F_X9_refuse n r_2 M) M (fun u_5 => ob (F_X5_push n 94 1 M) (fun M_10 => ob2 (F_X2_enlist n 1 x1 x2 M_10) (fun r_12 M_13 => some (.inr r_12, M_13)))))
theorem hd_X9_signUp : yX9_signUp.cls ≠ "java/lang/invoke/MethodHandle" ∧ yX9_signUp.cls ≠ "java/lang/invoke/VarHandle" ∧ (parseMethodDescriptor yX9_signUp.desc).map (fun d => d.parameters.length) = some 2 := ⟨by decide +kernel, by decide +kernel, by decide +kernel⟩
set_option maxHeartbeats 4000000 in
set_option maxRecDepth 100000 in
theorem c_X9_signUp (l : Launch) (hl0 : l.stackTraces = false) (g : GG) (X : va_W) (r : Nat → Nat) (b : Nat → Nat) (sz n : Nat) (M : Mem) (x1 : Int32) (x2 : Int32) {q0 : RX Int32} {M' : Mem} (hf : F_X9_signUp n x1 x2 M = some (q0, M')) : vx_Met l yX9_signUp (.code yX9_signUp cX9_signUp 3 (some .int) :: LWg) (rmD 10 1 6) (va_Pc [.ref (b 0), .int x1, .int x2] (PreP g X 372 (shI g r b) b sz M)) (QiX g X 372 (shI g r b) b sz q0 M') (XcX g X 372 (shI g r b) b sz q0 M') 1 6 (AA X b 372 sz) := by
  refine metx_go (by decide +kernel) rfl (Nat.le_of_ble_eq_true rfl) ?_
  intro p e s m below meth c ls H locs C0 C1 hr hlocks hno hsz hl hI
  subst hsz
  have hl : lv_has ls 3 [(0, .ref (b 0)), (1, .int x1), (2, .int x2)] := hl
  unfold F_X9_signUp at hf
  refine lv_aload_n C0.1 C0.2.1 dX9_signUp_0 rfl (lv_at hl 0 rfl) ?_
  refine r_get (C := RX9) (T := TX9) (N9 := 11) (ci := 10) C0 C1 hI iX9 rfl 0 0 (kdlt0 (rfl : kdI 0 = 0)) (by decide) ((shI_0 (rfl : kdI 0 = 0)) _) rfl rfl w_342 dX9_signUp_1 ?_
  refine lv_iload_n C0.1 C0.2.1 dX9_signUp_4 rfl (lv_at hl 1 rfl) ?_
  refine lv_iload_n C0.1 C0.2.1 dX9_signUp_5 rfl (lv_at hl 2 rfl) ?_
  obtain ⟨r_2, h_1, hf⟩ := ob_some hf
  refine k_e C1 hI (q_VN C0 C1 hI 1 (c_X2_refusalToEnlist l g X r b H.size n M 1 (rfl : kdI 1 = 1) x1 x2 h_1) 30 rfl w_838 w_32 w_72 w_839 ⟨rfl, rfl⟩ hd_X2_refusalToEnlist ⟨Nat.le_of_ble_eq_true rfl, Nat.le_of_ble_eq_true rfl⟩ (kdlt1 (rfl : kdI 1 = 1)) ((shI_1 (rfl : kdI 1 = 1)) _) rfl rfl rfl hl.1 rfl (Nat.le_of_ble_eq_true rfl) dX9_signUp_6 ⟨Nat.le_of_ble_eq_true rfl, Nat.le_of_ble_eq_true rfl⟩) (fun H locs hI => ?_)
  obtain ⟨q_6, h_4, h_7, h_8⟩ := obxr_x hf
  refine kx_v C1 hI (qx_S C0 C1 hI (c_X9_refuse l hl0 g X r b H.size n M r_2 h_4) w_423 w_424 w_71 w_425 ⟨rfl, rfl⟩ hd_X9_refuse ⟨Nat.le_of_ble_eq_true rfl, Nat.le_of_ble_eq_true rfl⟩ rfl hl.1 rfl (Nat.le_of_ble_eq_true rfl) dX9_signUp_9 ⟨Nat.le_of_ble_eq_true rfl, Nat.le_of_ble_eq_true rfl⟩) (fun k H locs ce q9 e1 hI g1 g2 g3 => x_outm hno hlocks hI g1 g2 g3 (h_7 k e1) (Nat.le_of_ble_eq_true rfl) (Nat.le_of_ble_eq_true rfl)) (fun u_5 H locs e1 hI => ?_)
  have hf := h_8 u_5 e1
  refine lv_aload_n C0.1 C0.2.1 dX9_signUp_12 rfl (lv_at hl 0 rfl) ?_
  refine r_get (C := RX9) (T := TX9) (N9 := 11) (ci := 10) C0 C1 hI iX9 rfl 0 4 (kdlt0 (rfl : kdI 0 = 0)) (by decide) ((shI_0 (rfl : kdI 0 = 0)) _) rfl rfl w_346 dX9_signUp_13 ?_
  refine lv_aload_n C0.1 C0.2.1 dX9_signUp_16 rfl (lv_at hl 0 rfl) ?_
  refine r_get (C := RX9) (T := TX9) (N9 := 11) (ci := 10) C0 C1 hI iX9 rfl 0 0 (kdlt0 (rfl : kdI 0 = 0)) (by decide) ((shI_0 (rfl : kdI 0 = 0)) _) rfl rfl w_342 dX9_signUp_17 ?_
  obtain ⟨M_10, h_9, hf⟩ := ob_some hf
  refine k_v C1 hI (q_VN C0 C1 hI 94 (c_X5_push l g X r b H.size n M 94 (rfl : kdI 94 = 6) 1 (rfl : kdI 1 = 1) h_9) 18 rfl w_723 w_17 w_74 w_724 ⟨rfl, rfl⟩ hd_X5_push ⟨Nat.le_of_ble_eq_true rfl, Nat.le_of_ble_eq_true rfl⟩ (kdlt6 (rfl : kdI 94 = 6)) ((shI_6 (rfl : kdI 94 = 6)) _) rfl rfl rfl hl.1 rfl (Nat.le_of_ble_eq_true rfl) dX9_signUp_20 ⟨Nat.le_of_ble_eq_true rfl, Nat.le_of_ble_eq_true rfl⟩) (fun H locs hI => ?_)
  refine lv_aload_n C0.1 C0.2.1 dX9_signUp_23 rfl (lv_at hl 0 rfl) ?_
  refine r_get (C := RX9) (T := TX9) (N9 := 11) (ci := 10) C0 C1 hI iX9 rfl 0 0 (kdlt0 (rfl : kdI 0 = 0)) (by decide) ((shI_0 (rfl : kdI 0 = 0)) _) rfl rfl w_342 dX9_signUp_24 ?_
  refine lv_iload_n C0.1 C0.2.1 dX9_signUp_27 rfl (lv_at hl 1 rfl) ?_
  refine lv_iload_n C0.1 C0.2.1 dX9_signUp_28 rfl (lv_at hl 2 rfl) ?_
  obtain ⟨r_12, M_13, h_11, hf⟩ := ob2_some hf
  refine k_i C1 hI (q_VN C0 C1 hI 1 (c_X2_enlist l g X r b H.size n M_10 1 (rfl : kdI 1 = 1) x1 x2 h_11) 32 rfl w_866 w_37 w_72 w_867 ⟨rfl, rfl⟩ hd_X2_enlist ⟨Nat.le_of_ble_eq_true rfl, Nat.le_of_ble_eq_true rfl⟩ (kdlt1 (rfl : kdI 1 = 1)) ((shI_1 (rfl : kdI 1 = 1)) _) rfl rfl rfl hl.1 rfl (Nat.le_of_ble_eq_true rfl) dX9_signUp_29 ⟨Nat.le_of_ble_eq_true rfl, Nat.le_of_ble_eq_true rfl⟩) (fun H locs hI => ?_)
  exact ex_zm C0 hI hr hlocks rfl hf dX9_signUp_32


set_option maxHeartbeats 4000000 in
set_option maxRecDepth 100000 in
theorem p_X9_signUp (l : Launch) (g : GG) (X : va_W) (r : Nat → Nat) (b : Nat → Nat) (sz n : Nat) (M : Mem) (x1 : Int32) (x2 : Int32) {r0 : Int32} {M' : Mem} (hf : F_X9_signUp n x1 x2 M = some (.inr r0, M')) : Met l yX9_signUp (.code yX9_signUp cX9_signUp 3 (some .int) :: LWg) (rmD 10 0 0) (va_Pc [.ref (b 0), .int x1, .int x2] (PreP g X 372 (shI g r b) b sz M)) (Qi g X 372 (shI g r b) b sz r0 M') 0 0 (AA X b 372 sz) := by
  refine met_go (by decide +kernel) rfl (Nat.le_of_ble_eq_true rfl) ?_
  intro p e s m below meth c ls H locs C0 C1 hr hlocks hnm hsz hl hI
  subst hsz
  have hl : lv_has ls 3 [(0, .ref (b 0)), (1, .int x1), (2, .int x2)] := hl
  unfold F_X9_signUp at hf
  refine lv_aload_n C0.1 C0.2.1 dX9_signUp_0 rfl (lv_at hl 0 rfl) ?_
  refine r_get (C := RX9) (T := TX9) (N9 := 11) (ci := 10) C0 C1 hI iX9 rfl 0 0 (kdlt0 (rfl : kdI 0 = 0)) (by decide) ((shI_0 (rfl : kdI 0 = 0)) _) rfl rfl w_342 dX9_signUp_1 ?_
  refine lv_iload_n C0.1 C0.2.1 dX9_signUp_4 rfl (lv_at hl 1 rfl) ?_
  refine lv_iload_n C0.1 C0.2.1 dX9_signUp_5 rfl (lv_at hl 2 rfl) ?_
  obtain ⟨r_2, h_1, hf⟩ := ob_some hf
  refine k_e C1 hI (q_VN C0 C1 hI 1 (c_X2_refusalToEnlist l g X r b H.size n M 1 (rfl : kdI 1 = 1) x1 x2 h_1) 30 rfl w_838 w_32 w_72 w_839 ⟨rfl, rfl⟩ hd_X2_refusalToEnlist ⟨Nat.le_of_ble_eq_true rfl, Nat.le_of_ble_eq_true rfl⟩ (kdlt1 (rfl : kdI 1 = 1)) ((shI_1 (rfl : kdI 1 = 1)) _) rfl rfl rfl hl.1 rfl (Nat.le_of_ble_eq_true rfl) dX9_signUp_6 ⟨Nat.le_of_ble_eq_true rfl, Nat.le_of_ble_eq_true rfl⟩) (fun H locs hI => ?_)
  obtain ⟨u_5, h_4, hf⟩ := obxr_p hf
  refine k_v C1 hI (q_S C0 C1 hI (p_X9_refuse l g X r b H.size n M r_2 h_4) w_423 w_424 w_71 w_425 ⟨rfl, rfl⟩ hd_X9_refuse ⟨Nat.le_of_ble_eq_true rfl, Nat.le_of_ble_eq_true rfl⟩ rfl hl.1 rfl (Nat.le_of_ble_eq_true rfl) dX9_signUp_9 ⟨Nat.le_of_ble_eq_true rfl, Nat.le_of_ble_eq_true rfl⟩) (fun H locs hI => ?_)
  refine lv_aload_n C0.1 C0.2.1 dX9_signUp_12 rfl (lv_at hl 0 rfl) ?_
  refine r_get (C := RX9) (T := TX9) (N9 := 11) (ci := 10) C0 C1 hI iX9 rfl 0 4 (kdlt0 (rfl : kdI 0 = 0)) (by decide) ((shI_0 (rfl : kdI 0 = 0)) _) rfl rfl w_346 dX9_signUp_13 ?_
  refine lv_aload_n C0.1 C0.2.1 dX9_signUp_16 rfl (lv_at hl 0 rfl) ?_
  refine r_get (C := RX9) (T := TX9) (N9 := 11) (ci := 10) C0 C1 hI iX9 rfl 0 0 (kdlt0 (rfl : kdI 0 = 0)) (by decide) ((shI_0 (rfl : kdI 0 = 0)) _) rfl rfl w_342 dX9_signUp_17 ?_
  obtain ⟨M_7, h_6, hf⟩ := ob_some hf
  refine k_v C1 hI (q_VN C0 C1 hI 94 (c_X5_push l g X r b H.size n M 94 (rfl : kdI 94 = 6) 1 (rfl : kdI 1 = 1) h_6) 18 rfl w_723 w_17 w_74 w_724 ⟨rfl, rfl⟩ hd_X5_push ⟨Nat.le_of_ble_eq_true rfl, Nat.le_of_ble_eq_true rfl⟩ (kdlt6 (rfl : kdI 94 = 6)) ((shI_6 (rfl : kdI 94 = 6)) _) rfl rfl rfl hl.1 rfl (Nat.le_of_ble_eq_true rfl) dX9_signUp_20 ⟨Nat.le_of_ble_eq_true rfl, Nat.le_of_ble_eq_true rfl⟩) (fun H locs hI => ?_)
  refine lv_aload_n C0.1 C0.2.1 dX9_signUp_23 rfl (lv_at hl 0 rfl) ?_
  refine r_get (C := RX9) (T := TX9) (N9 := 11) (ci := 10) C0 C1 hI iX9 rfl 0 0 (kdlt0 (rfl : kdI 0 = 0)) (by decide) ((shI_0 (rfl : kdI 0 = 0)) _) rfl rfl w_342 dX9_signUp_24 ?_
  refine lv_iload_n C0.1 C0.2.1 dX9_signUp_27 rfl (lv_at hl 1 rfl) ?_
  refine lv_iload_n C0.1 C0.2.1 dX9_signUp_28 rfl (lv_at hl 2 rfl) ?_
  obtain ⟨r_9, M_10, h_8, hf⟩ := ob2_some hf
  refine k_i C1 hI (q_VN C0 C1 hI 1 (c_X2_enlist l g X r b H.size n M_7 1 (rfl : kdI 1 = 1) x1 x2 h_8) 32 rfl w_866 w_37 w_72 w_867 ⟨rfl, rfl⟩ hd_X2_enlist ⟨Nat.le_of_ble_eq_true rfl, Nat.le_of_ble_eq_true rfl⟩ (kdlt1 (rfl : kdI 1 = 1)) ((shI_1 (rfl : kdI 1 = 1)) _) rfl rfl rfl hl.1 rfl (Nat.le_of_ble_eq_true rfl) dX9_signUp_29 ⟨Nat.le_of_ble_eq_true rfl, Nat.le_of_ble_eq_true rfl⟩) (fun H locs hI => ?_)
  exact ep_zm C0 hI hr hlocks rfl hf dX9_signUp_32

def F_X9_strike (n : Nat) (x1 : Int32) (x2 : Int32) (M : Mem) : Option (RX Int32 × Mem) :=
  ob (F_X2_refusalToUnlist n 1 x1 x2 M) (fun r_2 => obxr (F_X9_refuse n r_2 M) M (fun u_5 => ob (F_X5_push n 94 1 M) (fun M_10 => ob2 (F_X2_unlist n 1 x1 x2 M_10) (fun r_12 M_13 => some (.inr r_12, M_13)))))
theorem hd_X9_strike : yX9_strike.cls ≠ "java/lang/invoke/MethodHandle" ∧ yX9_strike.cls ≠ "java/lang/invoke/VarHandle" ∧ (parseMethodDescriptor yX9_strike.desc).map (fun d => d.parameters.length) = some 2 := ⟨by decide +kernel, by decide +kernel, by decide +kernel⟩
set_option maxHeartbeats 4000000 in
set_option maxRecDepth 100000 in
theorem c_X9_strike (l : Launch) (hl0 : l.stackTraces = false) (g : GG) (X : va_W) (r : Nat → Nat) (b : Nat → Nat) (sz n : Nat) (M : Mem) (x1 : Int32) (x2 : Int32) {q0 : RX Int32} {M' : Mem} (hf : F_X9_strike n x1 x2 M = some (q0, M')) : vx_Met l yX9_strike (.code yX9_strike cX9_strike 3 (some .int) :: LWg) (rmD 10 1 6) (va_Pc [.ref (b 0), .int x1, .int x2] (PreP g X 372 (shI g r b) b sz M)) (QiX g X 372 (shI g r b) b sz q0 M') (XcX g X 372 (shI g r b) b sz q0 M') 1 6 (AA X b 372 sz) := by
  refine metx_go (by decide +kernel) rfl (Nat.le_of_ble_eq_true rfl) ?_
  intro p e s m below meth c ls H locs C0 C1 hr hlocks hno hsz hl hI
  subst hsz
  have hl : lv_has ls 3 [(0, .ref (b 0)), (1, .int x1), (2, .int x2)] := hl
  unfold F_X9_strike at hf
  refine lv_aload_n C0.1 C0.2.1 dX9_strike_0 rfl (lv_at hl 0 rfl) ?_
  refine r_get (C := RX9) (T := TX9) (N9 := 11) (ci := 10) C0 C1 hI iX9 rfl 0 0 (kdlt0 (rfl : kdI 0 = 0)) (by decide) ((shI_0 (rfl : kdI 0 = 0)) _) rfl rfl w_342 dX9_strike_1 ?_
  refine lv_iload_n C0.1 C0.2.1 dX9_strike_4 rfl (lv_at hl 1 rfl) ?_
  refine lv_iload_n C0.1 C0.2.1 dX9_strike_5 rfl (lv_at hl 2 rfl) ?_
  obtain ⟨r_2, h_1, hf⟩ := ob_some hf
  refine k_e C1 hI (q_VN C0 C1 hI 1 (c_X2_refusalToUnlist l g X r b H.size n M 1 (rfl : kdI 1 = 1) x1 x2 h_1) 51 rfl w_1334 w_55 w_72 w_1335 ⟨rfl, rfl⟩ hd_X2_refusalToUnlist ⟨Nat.le_of_ble_eq_true rfl, Nat.le_of_ble_eq_true rfl⟩ (kdlt1 (rfl : kdI 1 = 1)) ((shI_1 (rfl : kdI 1 = 1)) _) rfl rfl rfl hl.1 rfl (Nat.le_of_ble_eq_true rfl) dX9_strike_6 ⟨Nat.le_of_ble_eq_true rfl, Nat.le_of_ble_eq_true rfl⟩) (fun H locs hI => ?_)
  obtain ⟨q_6, h_4, h_7, h_8⟩ := obxr_x hf
  refine kx_v C1 hI (qx_S C0 C1 hI (c_X9_refuse l hl0 g X r b H.size n M r_2 h_4) w_423 w_424 w_71 w_425 ⟨rfl, rfl⟩ hd_X9_refuse ⟨Nat.le_of_ble_eq_true rfl, Nat.le_of_ble_eq_true rfl⟩ rfl hl.1 rfl (Nat.le_of_ble_eq_true rfl) dX9_strike_9 ⟨Nat.le_of_ble_eq_true rfl, Nat.le_of_ble_eq_true rfl⟩) (fun k H locs ce q9 e1 hI g1 g2 g3 => x_outm hno hlocks hI g1 g2 g3 (h_7 k e1) (Nat.le_of_ble_eq_true rfl) (Nat.le_of_ble_eq_true rfl)) (fun u_5 H locs e1 hI => ?_)
  have hf := h_8 u_5 e1
  refine lv_aload_n C0.1 C0.2.1 dX9_strike_12 rfl (lv_at hl 0 rfl) ?_
  refine r_get (C := RX9) (T := TX9) (N9 := 11) (ci := 10) C0 C1 hI iX9 rfl 0 4 (kdlt0 (rfl : kdI 0 = 0)) (by decide) ((shI_0 (rfl : kdI 0 = 0)) _) rfl rfl w_346 dX9_strike_13 ?_
  refine lv_aload_n C0.1 C0.2.1 dX9_strike_16 rfl (lv_at hl 0 rfl) ?_
  refine r_get (C := RX9) (T := TX9) (N9 := 11) (ci := 10) C0 C1 hI iX9 rfl 0 0 (kdlt0 (rfl : kdI 0 = 0)) (by decide) ((shI_0 (rfl : kdI 0 = 0)) _) rfl rfl w_342 dX9_strike_17 ?_
  obtain ⟨M_10, h_9, hf⟩ := ob_some hf
  refine k_v C1 hI (q_VN C0 C1 hI 94 (c_X5_push l g X r b H.size n M 94 (rfl : kdI 94 = 6) 1 (rfl : kdI 1 = 1) h_9) 18 rfl w_723 w_17 w_74 w_724 ⟨rfl, rfl⟩ hd_X5_push ⟨Nat.le_of_ble_eq_true rfl, Nat.le_of_ble_eq_true rfl⟩ (kdlt6 (rfl : kdI 94 = 6)) ((shI_6 (rfl : kdI 94 = 6)) _) rfl rfl rfl hl.1 rfl (Nat.le_of_ble_eq_true rfl) dX9_strike_20 ⟨Nat.le_of_ble_eq_true rfl, Nat.le_of_ble_eq_true rfl⟩) (fun H locs hI => ?_)
  refine lv_aload_n C0.1 C0.2.1 dX9_strike_23 rfl (lv_at hl 0 rfl) ?_
  refine r_get (C := RX9) (T := TX9) (N9 := 11) (ci := 10) C0 C1 hI iX9 rfl 0 0 (kdlt0 (rfl : kdI 0 = 0)) (by decide) ((shI_0 (rfl : kdI 0 = 0)) _) rfl rfl w_342 dX9_strike_24 ?_
  refine lv_iload_n C0.1 C0.2.1 dX9_strike_27 rfl (lv_at hl 1 rfl) ?_
  refine lv_iload_n C0.1 C0.2.1 dX9_strike_28 rfl (lv_at hl 2 rfl) ?_
  obtain ⟨r_12, M_13, h_11, hf⟩ := ob2_some hf
  refine k_i C1 hI (q_VN C0 C1 hI 1 (c_X2_unlist l g X r b H.size n M_10 1 (rfl : kdI 1 = 1) x1 x2 h_11) 52 rfl w_1370 w_60 w_72 w_1371 ⟨rfl, rfl⟩ hd_X2_unlist ⟨Nat.le_of_ble_eq_true rfl, Nat.le_of_ble_eq_true rfl⟩ (kdlt1 (rfl : kdI 1 = 1)) ((shI_1 (rfl : kdI 1 = 1)) _) rfl rfl rfl hl.1 rfl (Nat.le_of_ble_eq_true rfl) dX9_strike_29 ⟨Nat.le_of_ble_eq_true rfl, Nat.le_of_ble_eq_true rfl⟩) (fun H locs hI => ?_)
  exact ex_zm C0 hI hr hlocks rfl hf dX9_strike_32


set_option maxHeartbeats 4000000 in
set_option maxRecDepth 100000 in
theorem p_X9_strike (l : Launch) (g : GG) (X : va_W) (r : Nat → Nat) (b : Nat → Nat) (sz n : Nat) (M : Mem) (x1 : Int32) (x2 : Int32) {r0 : Int32} {M' : Mem} (hf : F_X9_strike n x1 x2 M = some (.inr r0, M')) : Met l yX9_strike (.code yX9_strike cX9_strike 3 (some .int) :: LWg) (rmD 10 0 0) (va_Pc [.ref (b 0), .int x1, .int x2] (PreP g X 372 (shI g r b) b sz M)) (Qi g X 372 (shI g r b) b sz r0 M') 0 0 (AA X b 372 sz) := by
  refine met_go (by decide +kernel) rfl (Nat.le_of_ble_eq_true rfl) ?_
  intro p e s m below meth c ls H locs C0 C1 hr hlocks hnm hsz hl hI
  subst hsz
  have hl : lv_has ls 3 [(0, .ref (b 0)), (1, .int x1), (2, .int x2)] := hl
  unfold F_X9_strike at hf
  refine lv_aload_n C0.1 C0.2.1 dX9_strike_0 rfl (lv_at hl 0 rfl) ?_
  refine r_get (C := RX9) (T := TX9) (N9 := 11) (ci := 10) C0 C1 hI iX9 rfl 0 0 (kdlt0 (rfl : kdI 0 = 0)) (by decide) ((shI_0 (rfl : kdI 0 = 0)) _) rfl rfl w_342 dX9_strike_1 ?_
  refine lv_iload_n C0.1 C0.2.1 dX9_strike_4 rfl (lv_at hl 1 rfl) ?_
  refine lv_iload_n C0.1 C0.2.1 dX9_strike_5 rfl (lv_at hl 2 rfl) ?_
  obtain ⟨r_2, h_1, hf⟩ := ob_some hf
  refine k_e C1 hI (q_VN C0 C1 hI 1 (c_X2_refusalToUnlist l g X r b H.size n M 1 (rfl : kdI 1 = 1) x1 x2 h_1) 51 rfl w_1334 w_55 w_72 w_1335 ⟨rfl, rfl⟩ hd_X2_refusalToUnlist ⟨Nat.le_of_ble_eq_true rfl, Nat.le_of_ble_eq_true rfl⟩ (kdlt1 (rfl : kdI 1 = 1)) ((shI_1 (rfl : kdI 1 = 1)) _) rfl rfl rfl hl.1 rfl (Nat.le_of_ble_eq_true rfl) dX9_strike_6 ⟨Nat.le_of_ble_eq_true rfl, Nat.le_of_ble_eq_true rfl⟩) (fun H locs hI => ?_)
  obtain ⟨u_5, h_4, hf⟩ := obxr_p hf
  refine k_v C1 hI (q_S C0 C1 hI (p_X9_refuse l g X r b H.size n M r_2 h_4) w_423 w_424 w_71 w_425 ⟨rfl, rfl⟩ hd_X9_refuse ⟨Nat.le_of_ble_eq_true rfl, Nat.le_of_ble_eq_true rfl⟩ rfl hl.1 rfl (Nat.le_of_ble_eq_true rfl) dX9_strike_9 ⟨Nat.le_of_ble_eq_true rfl, Nat.le_of_ble_eq_true rfl⟩) (fun H locs hI => ?_)
  refine lv_aload_n C0.1 C0.2.1 dX9_strike_12 rfl (lv_at hl 0 rfl) ?_
  refine r_get (C := RX9) (T := TX9) (N9 := 11) (ci := 10) C0 C1 hI iX9 rfl 0 4 (kdlt0 (rfl : kdI 0 = 0)) (by decide) ((shI_0 (rfl : kdI 0 = 0)) _) rfl rfl w_346 dX9_strike_13 ?_
  refine lv_aload_n C0.1 C0.2.1 dX9_strike_16 rfl (lv_at hl 0 rfl) ?_
  refine r_get (C := RX9) (T := TX9) (N9 := 11) (ci := 10) C0 C1 hI iX9 rfl 0 0 (kdlt0 (rfl : kdI 0 = 0)) (by decide) ((shI_0 (rfl : kdI 0 = 0)) _) rfl rfl w_342 dX9_strike_17 ?_
  obtain ⟨M_7, h_6, hf⟩ := ob_some hf
  refine k_v C1 hI (q_VN C0 C1 hI 94 (c_X5_push l g X r b H.size n M 94 (rfl : kdI 94 = 6) 1 (rfl : kdI 1 = 1) h_6) 18 rfl w_723 w_17 w_74 w_724 ⟨rfl, rfl⟩ hd_X5_push ⟨Nat.le_of_ble_eq_true rfl, Nat.le_of_ble_eq_true rfl⟩ (kdlt6 (rfl : kdI 94 = 6)) ((shI_6 (rfl : kdI 94 = 6)) _) rfl rfl rfl hl.1 rfl (Nat.le_of_ble_eq_true rfl) dX9_strike_20 ⟨Nat.le_of_ble_eq_true rfl, Nat.le_of_ble_eq_true rfl⟩) (fun H locs hI => ?_)
  refine lv_aload_n C0.1 C0.2.1 dX9_strike_23 rfl (lv_at hl 0 rfl) ?_
  refine r_get (C := RX9) (T := TX9) (N9 := 11) (ci := 10) C0 C1 hI iX9 rfl 0 0 (kdlt0 (rfl : kdI 0 = 0)) (by decide) ((shI_0 (rfl : kdI 0 = 0)) _) rfl rfl w_342 dX9_strike_24 ?_
  refine lv_iload_n C0.1 C0.2.1 dX9_strike_27 rfl (lv_at hl 1 rfl) ?_
  refine lv_iload_n C0.1 C0.2.1 dX9_strike_28 rfl (lv_at hl 2 rfl) ?_
  obtain ⟨r_9, M_10, h_8, hf⟩ := ob2_some hf
  refine k_i C1 hI (q_VN C0 C1 hI 1 (c_X2_unlist l g X r b H.size n M_7 1 (rfl : kdI 1 = 1) x1 x2 h_8) 52 rfl w_1370 w_60 w_72 w_1371 ⟨rfl, rfl⟩ hd_X2_unlist ⟨Nat.le_of_ble_eq_true rfl, Nat.le_of_ble_eq_true rfl⟩ (kdlt1 (rfl : kdI 1 = 1)) ((shI_1 (rfl : kdI 1 = 1)) _) rfl rfl rfl hl.1 rfl (Nat.le_of_ble_eq_true rfl) dX9_strike_29 ⟨Nat.le_of_ble_eq_true rfl, Nat.le_of_ble_eq_true rfl⟩) (fun H locs hI => ?_)
  exact ep_zm C0 hI hr hlocks rfl hf dX9_strike_32

def F_X9_callNext (n : Nat) (x1 : Int32) (M : Mem) : Option (RX Int32 × Mem) :=
  ob (F_X2_refusalToCall n 1 x1 M) (fun r_2 => obxr (F_X9_refuse n r_2 M) M (fun u_5 => ob (F_X5_push n 94 1 M) (fun M_10 => ob2 (F_X2_callFirst n 1 x1 M_10) (fun r_12 M_13 => chk (isB r_12) (some (.inr r_12, M_13))))))
theorem hd_X9_callNext : yX9_callNext.cls ≠ "java/lang/invoke/MethodHandle" ∧ yX9_callNext.cls ≠ "java/lang/invoke/VarHandle" ∧ (parseMethodDescriptor yX9_callNext.desc).map (fun d => d.parameters.length) = some 1 := ⟨by decide +kernel, by decide +kernel, by decide +kernel⟩
set_option maxHeartbeats 4000000 in
set_option maxRecDepth 100000 in
theorem c_X9_callNext (l : Launch) (hl0 : l.stackTraces = false) (g : GG) (X : va_W) (r : Nat → Nat) (b : Nat → Nat) (sz n : Nat) (M : Mem) (x1 : Int32) {q0 : RX Int32} {M' : Mem} (hf : F_X9_callNext n x1 M = some (q0, M')) : vx_Met l yX9_callNext (.code yX9_callNext cX9_callNext 2 (some .boolean) :: LWg) (rmD 10 1 6) (va_Pc [.ref (b 0), .int x1] (PreP g X 372 (shI g r b) b sz M)) (QiX g X 372 (shI g r b) b sz q0 M') (XcX g X 372 (shI g r b) b sz q0 M') 1 6 (AA X b 372 sz) := by
  refine metx_go (by decide +kernel) rfl (Nat.le_of_ble_eq_true rfl) ?_
  intro p e s m below meth c ls H locs C0 C1 hr hlocks hno hsz hl hI
  subst hsz
  have hl : lv_has ls 2 [(0, .ref (b 0)), (1, .int x1)] := hl
  unfold F_X9_callNext at hf
  refine lv_aload_n C0.1 C0.2.1 dX9_callNext_0 rfl (lv_at hl 0 rfl) ?_
  refine r_get (C := RX9) (T := TX9) (N9 := 11) (ci := 10) C0 C1 hI iX9 rfl 0 0 (kdlt0 (rfl : kdI 0 = 0)) (by decide) ((shI_0 (rfl : kdI 0 = 0)) _) rfl rfl w_342 dX9_callNext_1 ?_
  refine lv_iload_n C0.1 C0.2.1 dX9_callNext_4 rfl (lv_at hl 1 rfl) ?_
  obtain ⟨r_2, h_1, hf⟩ := ob_some hf
  refine k_e C1 hI (q_VN C0 C1 hI 1 (c_X2_refusalToCall l g X r b H.size n M 1 (rfl : kdI 1 = 1) x1 h_1) 9 rfl w_595 w_5 w_72 w_596 ⟨rfl, rfl⟩ hd_X2_refusalToCall ⟨Nat.le_of_ble_eq_true rfl, Nat.le_of_ble_eq_true rfl⟩ (kdlt1 (rfl : kdI 1 = 1)) ((shI_1 (rfl : kdI 1 = 1)) _) rfl rfl rfl hl.1 rfl (Nat.le_of_ble_eq_true rfl) dX9_callNext_5 ⟨Nat.le_of_ble_eq_true rfl, Nat.le_of_ble_eq_true rfl⟩) (fun H locs hI => ?_)
  obtain ⟨q_6, h_4, h_7, h_8⟩ := obxr_x hf
  refine kx_v C1 hI (qx_S C0 C1 hI (c_X9_refuse l hl0 g X r b H.size n M r_2 h_4) w_423 w_424 w_71 w_425 ⟨rfl, rfl⟩ hd_X9_refuse ⟨Nat.le_of_ble_eq_true rfl, Nat.le_of_ble_eq_true rfl⟩ rfl hl.1 rfl (Nat.le_of_ble_eq_true rfl) dX9_callNext_8 ⟨Nat.le_of_ble_eq_true rfl, Nat.le_of_ble_eq_true rfl⟩) (fun k H locs ce q9 e1 hI g1 g2 g3 => x_outm hno hlocks hI g1 g2 g3 (h_7 k e1) (Nat.le_of_ble_eq_true rfl) (Nat.le_of_ble_eq_true rfl)) (fun u_5 H locs e1 hI => ?_)
  have hf := h_8 u_5 e1
  refine lv_aload_n C0.1 C0.2.1 dX9_callNext_11 rfl (lv_at hl 0 rfl) ?_
  refine r_get (C := RX9) (T := TX9) (N9 := 11) (ci := 10) C0 C1 hI iX9 rfl 0 4 (kdlt0 (rfl : kdI 0 = 0)) (by decide) ((shI_0 (rfl : kdI 0 = 0)) _) rfl rfl w_346 dX9_callNext_12 ?_
  refine lv_aload_n C0.1 C0.2.1 dX9_callNext_15 rfl (lv_at hl 0 rfl) ?_
  refine r_get (C := RX9) (T := TX9) (N9 := 11) (ci := 10) C0 C1 hI iX9 rfl 0 0 (kdlt0 (rfl : kdI 0 = 0)) (by decide) ((shI_0 (rfl : kdI 0 = 0)) _) rfl rfl w_342 dX9_callNext_16 ?_
  obtain ⟨M_10, h_9, hf⟩ := ob_some hf
  refine k_v C1 hI (q_VN C0 C1 hI 94 (c_X5_push l g X r b H.size n M 94 (rfl : kdI 94 = 6) 1 (rfl : kdI 1 = 1) h_9) 18 rfl w_723 w_17 w_74 w_724 ⟨rfl, rfl⟩ hd_X5_push ⟨Nat.le_of_ble_eq_true rfl, Nat.le_of_ble_eq_true rfl⟩ (kdlt6 (rfl : kdI 94 = 6)) ((shI_6 (rfl : kdI 94 = 6)) _) rfl rfl rfl hl.1 rfl (Nat.le_of_ble_eq_true rfl) dX9_callNext_19 ⟨Nat.le_of_ble_eq_true rfl, Nat.le_of_ble_eq_true rfl⟩) (fun H locs hI => ?_)
  refine lv_aload_n C0.1 C0.2.1 dX9_callNext_22 rfl (lv_at hl 0 rfl) ?_
  refine r_get (C := RX9) (T := TX9) (N9 := 11) (ci := 10) C0 C1 hI iX9 rfl 0 0 (kdlt0 (rfl : kdI 0 = 0)) (by decide) ((shI_0 (rfl : kdI 0 = 0)) _) rfl rfl w_342 dX9_callNext_23 ?_
  refine lv_iload_n C0.1 C0.2.1 dX9_callNext_26 rfl (lv_at hl 1 rfl) ?_
  obtain ⟨r_12, M_13, h_11, hf⟩ := ob2_some hf
  refine k_i C1 hI (q_VN C0 C1 hI 1 (c_X2_callFirst l g X r b H.size n M_10 1 (rfl : kdI 1 = 1) x1 h_11) 34 rfl w_882 w_39 w_72 w_883 ⟨rfl, rfl⟩ hd_X2_callFirst ⟨Nat.le_of_ble_eq_true rfl, Nat.le_of_ble_eq_true rfl⟩ (kdlt1 (rfl : kdI 1 = 1)) ((shI_1 (rfl : kdI 1 = 1)) _) rfl rfl rfl hl.1 rfl (Nat.le_of_ble_eq_true rfl) dX9_callNext_27 ⟨Nat.le_of_ble_eq_true rfl, Nat.le_of_ble_eq_true rfl⟩) (fun H locs hI => ?_)
  obtain ⟨h_14, hf⟩ := chk_some hf
  exact ex_zm C0 hI hr hlocks (isB_n h_14).1 hf dX9_callNext_30


set_option maxHeartbeats 4000000 in
set_option maxRecDepth 100000 in
theorem p_X9_callNext (l : Launch) (g : GG) (X : va_W) (r : Nat → Nat) (b : Nat → Nat) (sz n : Nat) (M : Mem) (x1 : Int32) {r0 : Int32} {M' : Mem} (hf : F_X9_callNext n x1 M = some (.inr r0, M')) : Met l yX9_callNext (.code yX9_callNext cX9_callNext 2 (some .boolean) :: LWg) (rmD 10 0 0) (va_Pc [.ref (b 0), .int x1] (PreP g X 372 (shI g r b) b sz M)) (Qi g X 372 (shI g r b) b sz r0 M') 0 0 (AA X b 372 sz) := by
  refine met_go (by decide +kernel) rfl (Nat.le_of_ble_eq_true rfl) ?_
  intro p e s m below meth c ls H locs C0 C1 hr hlocks hnm hsz hl hI
  subst hsz
  have hl : lv_has ls 2 [(0, .ref (b 0)), (1, .int x1)] := hl
  unfold F_X9_callNext at hf
  refine lv_aload_n C0.1 C0.2.1 dX9_callNext_0 rfl (lv_at hl 0 rfl) ?_
  refine r_get (C := RX9) (T := TX9) (N9 := 11) (ci := 10) C0 C1 hI iX9 rfl 0 0 (kdlt0 (rfl : kdI 0 = 0)) (by decide) ((shI_0 (rfl : kdI 0 = 0)) _) rfl rfl w_342 dX9_callNext_1 ?_
  refine lv_iload_n C0.1 C0.2.1 dX9_callNext_4 rfl (lv_at hl 1 rfl) ?_
  obtain ⟨r_2, h_1, hf⟩ := ob_some hf
  refine k_e C1 hI (q_VN C0 C1 hI 1 (c_X2_refusalToCall l g X r b H.size n M 1 (rfl : kdI 1 = 1) x1 h_1) 9 rfl w_595 w_5 w_72 w_596 ⟨rfl, rfl⟩ hd_X2_refusalToCall ⟨Nat.le_of_ble_eq_true rfl, Nat.le_of_ble_eq_true rfl⟩ (kdlt1 (rfl : kdI 1 = 1)) ((shI_1 (rfl : kdI 1 = 1)) _) rfl rfl rfl hl.1 rfl (Nat.le_of_ble_eq_true rfl) dX9_callNext_5 ⟨Nat.le_of_ble_eq_true rfl, Nat.le_of_ble_eq_true rfl⟩) (fun H locs hI => ?_)
  obtain ⟨u_5, h_4, hf⟩ := obxr_p hf
  refine k_v C1 hI (q_S C0 C1 hI (p_X9_refuse l g X r b H.size n M r_2 h_4) w_423 w_424 w_71 w_425 ⟨rfl, rfl⟩ hd_X9_refuse ⟨Nat.le_of_ble_eq_true rfl, Nat.le_of_ble_eq_true rfl⟩ rfl hl.1 rfl (Nat.le_of_ble_eq_true rfl) dX9_callNext_8 ⟨Nat.le_of_ble_eq_true rfl, Nat.le_of_ble_eq_true rfl⟩) (fun H locs hI => ?_)
  refine lv_aload_n C0.1 C0.2.1 dX9_callNext_11 rfl (lv_at hl 0 rfl) ?_
  refine r_get (C := RX9) (T := TX9) (N9 := 11) (ci := 10) C0 C1 hI iX9 rfl 0 4 (kdlt0 (rfl : kdI 0 = 0)) (by decide) ((shI_0 (rfl : kdI 0 = 0)) _) rfl rfl w_346 dX9_callNext_12 ?_
  refine lv_aload_n C0.1 C0.2.1 dX9_callNext_15 rfl (lv_at hl 0 rfl) ?_
  refine r_get (C := RX9) (T := TX9) (N9 := 11) (ci := 10) C0 C1 hI iX9 rfl 0 0 (kdlt0 (rfl : kdI 0 = 0)) (by decide) ((shI_0 (rfl : kdI 0 = 0)) _) rfl rfl w_342 dX9_callNext_16 ?_
  obtain ⟨M_7, h_6, hf⟩ := ob_some hf
  refine k_v C1 hI (q_VN C0 C1 hI 94 (c_X5_push l g X r b H.size n M 94 (rfl : kdI 94 = 6) 1 (rfl : kdI 1 = 1) h_6) 18 rfl w_723 w_17 w_74 w_724 ⟨rfl, rfl⟩ hd_X5_push ⟨Nat.le_of_ble_eq_true rfl, Nat.le_of_ble_eq_true rfl⟩ (kdlt6 (rfl : kdI 94 = 6)) ((shI_6 (rfl : kdI 94 = 6)) _) rfl rfl rfl hl.1 rfl (Nat.le_of_ble_eq_true rfl) dX9_callNext_19 ⟨Nat.le_of_ble_eq_true rfl, Nat.le_of_ble_eq_true rfl⟩) (fun H locs hI => ?_)
  refine lv_aload_n C0.1 C0.2.1 dX9_callNext_22 rfl (lv_at hl 0 rfl) ?_
  refine r_get (C := RX9) (T := TX9) (N9 := 11) (ci := 10) C0 C1 hI iX9 rfl 0 0 (kdlt0 (rfl : kdI 0 = 0)) (by decide) ((shI_0 (rfl : kdI 0 = 0)) _) rfl rfl w_342 dX9_callNext_23 ?_
  refine lv_iload_n C0.1 C0.2.1 dX9_callNext_26 rfl (lv_at hl 1 rfl) ?_
  obtain ⟨r_9, M_10, h_8, hf⟩ := ob2_some hf
  refine k_i C1 hI (q_VN C0 C1 hI 1 (c_X2_callFirst l g X r b H.size n M_7 1 (rfl : kdI 1 = 1) x1 h_8) 34 rfl w_882 w_39 w_72 w_883 ⟨rfl, rfl⟩ hd_X2_callFirst ⟨Nat.le_of_ble_eq_true rfl, Nat.le_of_ble_eq_true rfl⟩ (kdlt1 (rfl : kdI 1 = 1)) ((shI_1 (rfl : kdI 1 = 1)) _) rfl rfl rfl hl.1 rfl (Nat.le_of_ble_eq_true rfl) dX9_callNext_27 ⟨Nat.le_of_ble_eq_true rfl, Nat.le_of_ble_eq_true rfl⟩) (fun H locs hI => ?_)
  obtain ⟨h_11, hf⟩ := chk_some hf
  exact ep_zm C0 hI hr hlocks (isB_n h_11).1 hf dX9_callNext_30

def F_X9_requireMotion (n : Nat) (x1 : Int32) (M : Mem) : Option (RX Unit) :=
  ob (F_X2_hasMotion n 1 x1 M) (fun r_2 => (if r_2 = 0 then obx (F_X9_refuse n 4 M) (fun u_6 => some (.inr ())) else obx (F_X9_refuse n 0 M) (fun u_12 => some (.inr ()))))
theorem hd_X9_requireMotion : yX9_requireMotion.cls ≠ "java/lang/invoke/MethodHandle" ∧ yX9_requireMotion.cls ≠ "java/lang/invoke/VarHandle" ∧ (parseMethodDescriptor yX9_requireMotion.desc).map (fun d => d.parameters.length) = some 1 := ⟨by decide +kernel, by decide +kernel, by decide +kernel⟩
set_option maxHeartbeats 4000000 in
set_option maxRecDepth 100000 in
theorem c_X9_requireMotion (l : Launch) (hl0 : l.stackTraces = false) (g : GG) (X : va_W) (r : Nat → Nat) (b : Nat → Nat) (sz n : Nat) (M : Mem) (x1 : Int32) {q0 : RX Unit} (hf : F_X9_requireMotion n x1 M = some q0) : vx_Met l yX9_requireMotion (.code yX9_requireMotion cX9_requireMotion 2 none :: LWg) (rmD 10 1 6) (va_Pc [.ref (b 0), .int x1] (PreP g X 372 (shI g r b) b sz M)) (QvX g X 372 (shI g r b) b sz q0 M) (XcX g X 372 (shI g r b) b sz q0 M) 1 6 (AA X b 372 sz) := by
  refine metx_go (by decide +kernel) rfl (Nat.le_of_ble_eq_true rfl) ?_
  intro p e s m below meth c ls H locs C0 C1 hr hlocks hno hsz hl hI
  subst hsz
  have hl : lv_has ls 2 [(0, .ref (b 0)), (1, .int x1)] := hl
  unfold F_X9_requireMotion at hf
  refine lv_aload_n C0.1 C0.2.1 dX9_requireMotion_0 rfl (lv_at hl 0 rfl) ?_
  refine r_get (C := RX9) (T := TX9) (N9 := 11) (ci := 10) C0 C1 hI iX9 rfl 0 0 (kdlt0 (rfl : kdI 0 = 0)) (by decide) ((shI_0 (rfl : kdI 0 = 0)) _) rfl rfl w_342 dX9_requireMotion_1 ?_
  refine lv_iload_n C0.1 C0.2.1 dX9_requireMotion_4 rfl (lv_at hl 1 rfl) ?_
  obtain ⟨r_2, h_1, hf⟩ := ob_some hf
  refine k_i C1 hI (q_VN C0 C1 hI 1 (c_X2_hasMotion l g X r b H.size n M 1 (rfl : kdI 1 = 1) x1 h_1) 8 rfl w_417 w_3 w_72 w_418 ⟨rfl, rfl⟩ hd_X2_hasMotion ⟨Nat.le_of_ble_eq_true rfl, Nat.le_of_ble_eq_true rfl⟩ (kdlt1 (rfl : kdI 1 = 1)) ((shI_1 (rfl : kdI 1 = 1)) _) rfl rfl rfl hl.1 rfl (Nat.le_of_ble_eq_true rfl) dX9_requireMotion_5 ⟨Nat.le_of_ble_eq_true rfl, Nat.le_of_ble_eq_true rfl⟩) (fun H locs hI => ?_)
  refine lv_if_eq (tgt := 17) C0.1 C0.2.1 dX9_requireMotion_8 (by decide) (fun c_3 => ?_) (fun c_3 => ?_)
  · have hf := (if_pos c_3).symm.trans hf
    refine r_refu C0 C1 hI 4 (by decide) (n := "NO_SUCH_MOTION") rfl w_421 dX9_requireMotion_17 ?_
    obtain ⟨q_7, h_5, h_8, h_9⟩ := obx_x hf
    refine kx_v C1 hI (qx_S C0 C1 hI (c_X9_refuse l hl0 g X r b H.size n M 4 h_5) w_423 w_424 w_71 w_425 ⟨rfl, rfl⟩ hd_X9_refuse ⟨Nat.le_of_ble_eq_true rfl, Nat.le_of_ble_eq_true rfl⟩ rfl hl.1 rfl (Nat.le_of_ble_eq_true rfl) dX9_requireMotion_20 ⟨Nat.le_of_ble_eq_true rfl, Nat.le_of_ble_eq_true rfl⟩) (fun k H locs ce q9 e1 hI g1 g2 g3 => x_out hno hlocks hI g1 g2 g3 (h_8 k e1) (Nat.le_of_ble_eq_true rfl) (Nat.le_of_ble_eq_true rfl)) (fun u_6 H locs e1 hI => ?_)
    have hf := h_9 u_6 e1
    exact ex_v C0 hI hr hlocks hf dX9_requireMotion_23
  · have hf := (if_neg c_3).symm.trans hf
    refine r_refu C0 C1 hI 0 (by decide) (n := "NOTHING") rfl w_419 dX9_requireMotion_11 ?_
    refine lv_goto (tgt := 20) C0.1 C0.2.1 dX9_requireMotion_14 (by decide) ?_
    obtain ⟨q_13, h_11, h_14, h_15⟩ := obx_x hf
    refine kx_v C1 hI (qx_S C0 C1 hI (c_X9_refuse l hl0 g X r b H.size n M 0 h_11) w_423 w_424 w_71 w_425 ⟨rfl, rfl⟩ hd_X9_refuse ⟨Nat.le_of_ble_eq_true rfl, Nat.le_of_ble_eq_true rfl⟩ rfl hl.1 rfl (Nat.le_of_ble_eq_true rfl) dX9_requireMotion_20 ⟨Nat.le_of_ble_eq_true rfl, Nat.le_of_ble_eq_true rfl⟩) (fun k H locs ce q9 e1 hI g1 g2 g3 => x_out hno hlocks hI g1 g2 g3 (h_14 k e1) (Nat.le_of_ble_eq_true rfl) (Nat.le_of_ble_eq_true rfl)) (fun u_12 H locs e1 hI => ?_)
    have hf := h_15 u_12 e1
    exact ex_v C0 hI hr hlocks hf dX9_requireMotion_23


set_option maxHeartbeats 4000000 in
set_option maxRecDepth 100000 in
theorem p_X9_requireMotion (l : Launch) (g : GG) (X : va_W) (r : Nat → Nat) (b : Nat → Nat) (sz n : Nat) (M : Mem) (x1 : Int32)  (hf : F_X9_requireMotion n x1 M = some (.inr ())) : Met l yX9_requireMotion (.code yX9_requireMotion cX9_requireMotion 2 none :: LWg) (rmD 10 0 0) (va_Pc [.ref (b 0), .int x1] (PreP g X 372 (shI g r b) b sz M)) (Qv g X 372 (shI g r b) b sz M) 0 0 (AA X b 372 sz) := by
  refine met_go (by decide +kernel) rfl (Nat.le_of_ble_eq_true rfl) ?_
  intro p e s m below meth c ls H locs C0 C1 hr hlocks hnm hsz hl hI
  subst hsz
  have hl : lv_has ls 2 [(0, .ref (b 0)), (1, .int x1)] := hl
  unfold F_X9_requireMotion at hf
  refine lv_aload_n C0.1 C0.2.1 dX9_requireMotion_0 rfl (lv_at hl 0 rfl) ?_
  refine r_get (C := RX9) (T := TX9) (N9 := 11) (ci := 10) C0 C1 hI iX9 rfl 0 0 (kdlt0 (rfl : kdI 0 = 0)) (by decide) ((shI_0 (rfl : kdI 0 = 0)) _) rfl rfl w_342 dX9_requireMotion_1 ?_
  refine lv_iload_n C0.1 C0.2.1 dX9_requireMotion_4 rfl (lv_at hl 1 rfl) ?_
  obtain ⟨r_2, h_1, hf⟩ := ob_some hf
  refine k_i C1 hI (q_VN C0 C1 hI 1 (c_X2_hasMotion l g X r b H.size n M 1 (rfl : kdI 1 = 1) x1 h_1) 8 rfl w_417 w_3 w_72 w_418 ⟨rfl, rfl⟩ hd_X2_hasMotion ⟨Nat.le_of_ble_eq_true rfl, Nat.le_of_ble_eq_true rfl⟩ (kdlt1 (rfl : kdI 1 = 1)) ((shI_1 (rfl : kdI 1 = 1)) _) rfl rfl rfl hl.1 rfl (Nat.le_of_ble_eq_true rfl) dX9_requireMotion_5 ⟨Nat.le_of_ble_eq_true rfl, Nat.le_of_ble_eq_true rfl⟩) (fun H locs hI => ?_)
  refine lv_if_eq (tgt := 17) C0.1 C0.2.1 dX9_requireMotion_8 (by decide) (fun c_3 => ?_) (fun c_3 => ?_)
  · have hf := (if_pos c_3).symm.trans hf
    refine r_refu C0 C1 hI 4 (by decide) (n := "NO_SUCH_MOTION") rfl w_421 dX9_requireMotion_17 ?_
    obtain ⟨u_6, h_5, hf⟩ := obx_p hf
    refine k_v C1 hI (q_S C0 C1 hI (p_X9_refuse l g X r b H.size n M 4 h_5) w_423 w_424 w_71 w_425 ⟨rfl, rfl⟩ hd_X9_refuse ⟨Nat.le_of_ble_eq_true rfl, Nat.le_of_ble_eq_true rfl⟩ rfl hl.1 rfl (Nat.le_of_ble_eq_true rfl) dX9_requireMotion_20 ⟨Nat.le_of_ble_eq_true rfl, Nat.le_of_ble_eq_true rfl⟩) (fun H locs hI => ?_)
    exact ep_v C0 hI hr hlocks hf dX9_requireMotion_23
  · have hf := (if_neg c_3).symm.trans hf
    refine r_refu C0 C1 hI 0 (by decide) (n := "NOTHING") rfl w_419 dX9_requireMotion_11 ?_
    refine lv_goto (tgt := 20) C0.1 C0.2.1 dX9_requireMotion_14 (by decide) ?_
    obtain ⟨u_9, h_8, hf⟩ := obx_p hf
    refine k_v C1 hI (q_S C0 C1 hI (p_X9_refuse l g X r b H.size n M 0 h_8) w_423 w_424 w_71 w_425 ⟨rfl, rfl⟩ hd_X9_refuse ⟨Nat.le_of_ble_eq_true rfl, Nat.le_of_ble_eq_true rfl⟩ rfl hl.1 rfl (Nat.le_of_ble_eq_true rfl) dX9_requireMotion_20 ⟨Nat.le_of_ble_eq_true rfl, Nat.le_of_ble_eq_true rfl⟩) (fun H locs hI => ?_)
    exact ep_v C0 hI hr hlocks hf dX9_requireMotion_23

def F_X9_listLength (n : Nat) (x1 : Int32) (M : Mem) : Option (RX Int32) :=
  obx (F_X9_requireMotion n x1 M) (fun u_3 => chk (inb x1 6) (some (.inr (M (1 + 6 + 1 + 4 * ix x1) 2))))
theorem hd_X9_listLength : yX9_listLength.cls ≠ "java/lang/invoke/MethodHandle" ∧ yX9_listLength.cls ≠ "java/lang/invoke/VarHandle" ∧ (parseMethodDescriptor yX9_listLength.desc).map (fun d => d.parameters.length) = some 1 := ⟨by decide +kernel, by decide +kernel, by decide +kernel⟩
set_option maxHeartbeats 4000000 in
set_option maxRecDepth 100000 in
theorem c_X9_listLength (l : Launch) (hl0 : l.stackTraces = false) (g : GG) (X : va_W) (r : Nat → Nat) (b : Nat → Nat) (sz n : Nat) (M : Mem) (x1 : Int32) {q0 : RX Int32} (hf : F_X9_listLength n x1 M = some q0) : vx_Met l yX9_listLength (.code yX9_listLength cX9_listLength 2 (some .int) :: LWg) (rmD 11 1 6) (va_Pc [.ref (b 0), .int x1] (PreP g X 372 (shI g r b) b sz M)) (QiX g X 372 (shI g r b) b sz q0 M) (XcX g X 372 (shI g r b) b sz q0 M) 1 6 (AA X b 372 sz) := by
  refine metx_go (by decide +kernel) rfl (Nat.le_of_ble_eq_true rfl) ?_
  intro p e s m below meth c ls H locs C0 C1 hr hlocks hno hsz hl hI
  subst hsz
  have hl : lv_has ls 2 [(0, .ref (b 0)), (1, .int x1)] := hl
  unfold F_X9_listLength at hf
  refine lv_aload_n C0.1 C0.2.1 dX9_listLength_0 rfl (lv_at hl 0 rfl) ?_
  refine lv_iload_n C0.1 C0.2.1 dX9_listLength_1 rfl (lv_at hl 1 rfl) ?_
  obtain ⟨q_4, h_2, h_5, h_6⟩ := obx_x hf
  refine kx_v C1 hI (qx_V C0 C1 hI 0 (c_X9_requireMotion l hl0 g X r b H.size n M x1 h_2) w_411 w_413 w_2 w_71 w_414 ⟨rfl, rfl⟩ hd_X9_requireMotion ⟨Nat.le_of_ble_eq_true rfl, Nat.le_of_ble_eq_true rfl⟩ (kdlt0 (rfl : kdI 0 = 0)) ((shI_0 (rfl : kdI 0 = 0)) _) rfl rfl rfl hl.1 rfl (Nat.le_of_ble_eq_true rfl) dX9_listLength_2 ⟨Nat.le_of_ble_eq_true rfl, Nat.le_of_ble_eq_true rfl⟩) (fun k H locs ce q9 e1 hI g1 g2 g3 => x_out hno hlocks hI g1 g2 g3 (h_5 k e1) (Nat.le_of_ble_eq_true rfl) (Nat.le_of_ble_eq_true rfl)) (fun u_3 H locs e1 hI => ?_)
  have hf := h_6 u_3 e1
  refine lv_aload_n C0.1 C0.2.1 dX9_listLength_5 rfl (lv_at hl 0 rfl) ?_
  refine r_get (C := RX9) (T := TX9) (N9 := 11) (ci := 10) C0 C1 hI iX9 rfl 0 0 (kdlt0 (rfl : kdI 0 = 0)) (by decide) ((shI_0 (rfl : kdI 0 = 0)) _) rfl rfl w_342 dX9_listLength_6 ?_
  refine r_getN (C := RX2) (T := TX2) (N9 := 12) (ci := 4) C0 C1 hI iX2 rfl 1 9 (kdlt1 (rfl : kdI 1 = 1)) (by decide) ((shI_1 (rfl : kdI 1 = 1)) _) rfl rfl 29 rfl dX9_listLength_9 ?_
  refine lv_iload_n C0.1 C0.2.1 dX9_listLength_12 rfl (lv_at hl 1 rfl) ?_
  obtain ⟨h_7, hf⟩ := chk_some hf
  refine r_aald (t0 := 1) C0 C1 hI (1 + 6) (kdlt4 (kd1_6 (rfl : kdI 1 = 1))) (shI_4 (kd1_6 (rfl : kdI 1 = 1))) rfl h_7 rfl dX9_listLength_13 ?_
  refine r_getN (C := RX6) (T := TX6) (N9 := 12) (ci := 8) C0 C1 hI iX6 rfl (1 + 6 + 1 + 4 * ix x1) 2 (kdlt5 (kd4_i (kd1_6 (rfl : kdI 1 = 1)) h_7)) (by decide) ((shI_5 (kd4_i (kd1_6 (rfl : kdI 1 = 1)) h_7)) _) rfl rfl 3 rfl dX9_listLength_14 ?_
  exact ex_z C0 hI hr hlocks rfl hf dX9_listLength_17


set_option maxHeartbeats 4000000 in
set_option maxRecDepth 100000 in
theorem p_X9_listLength (l : Launch) (g : GG) (X : va_W) (r : Nat → Nat) (b : Nat → Nat) (sz n : Nat) (M : Mem) (x1 : Int32) {r0 : Int32} (hf : F_X9_listLength n x1 M = some (.inr r0)) : Met l yX9_listLength (.code yX9_listLength cX9_listLength 2 (some .int) :: LWg) (rmD 11 0 0) (va_Pc [.ref (b 0), .int x1] (PreP g X 372 (shI g r b) b sz M)) (Qi g X 372 (shI g r b) b sz r0 M) 0 0 (AA X b 372 sz) := by
  refine met_go (by decide +kernel) rfl (Nat.le_of_ble_eq_true rfl) ?_
  intro p e s m below meth c ls H locs C0 C1 hr hlocks hnm hsz hl hI
  subst hsz
  have hl : lv_has ls 2 [(0, .ref (b 0)), (1, .int x1)] := hl
  unfold F_X9_listLength at hf
  refine lv_aload_n C0.1 C0.2.1 dX9_listLength_0 rfl (lv_at hl 0 rfl) ?_
  refine lv_iload_n C0.1 C0.2.1 dX9_listLength_1 rfl (lv_at hl 1 rfl) ?_
  obtain ⟨u_3, h_2, hf⟩ := obx_p hf
  refine k_v C1 hI (q_V C0 C1 hI 0 (p_X9_requireMotion l g X r b H.size n M x1 h_2) w_411 w_413 w_2 w_71 w_414 ⟨rfl, rfl⟩ hd_X9_requireMotion ⟨Nat.le_of_ble_eq_true rfl, Nat.le_of_ble_eq_true rfl⟩ (kdlt0 (rfl : kdI 0 = 0)) ((shI_0 (rfl : kdI 0 = 0)) _) rfl rfl rfl hl.1 rfl (Nat.le_of_ble_eq_true rfl) dX9_listLength_2 ⟨Nat.le_of_ble_eq_true rfl, Nat.le_of_ble_eq_true rfl⟩) (fun H locs hI => ?_)
  refine lv_aload_n C0.1 C0.2.1 dX9_listLength_5 rfl (lv_at hl 0 rfl) ?_
  refine r_get (C := RX9) (T := TX9) (N9 := 11) (ci := 10) C0 C1 hI iX9 rfl 0 0 (kdlt0 (rfl : kdI 0 = 0)) (by decide) ((shI_0 (rfl : kdI 0 = 0)) _) rfl rfl w_342 dX9_listLength_6 ?_
  refine r_getN (C := RX2) (T := TX2) (N9 := 12) (ci := 4) C0 C1 hI iX2 rfl 1 9 (kdlt1 (rfl : kdI 1 = 1)) (by decide) ((shI_1 (rfl : kdI 1 = 1)) _) rfl rfl 29 rfl dX9_listLength_9 ?_
  refine lv_iload_n C0.1 C0.2.1 dX9_listLength_12 rfl (lv_at hl 1 rfl) ?_
  obtain ⟨h_4, hf⟩ := chk_some hf
  refine r_aald (t0 := 1) C0 C1 hI (1 + 6) (kdlt4 (kd1_6 (rfl : kdI 1 = 1))) (shI_4 (kd1_6 (rfl : kdI 1 = 1))) rfl h_4 rfl dX9_listLength_13 ?_
  refine r_getN (C := RX6) (T := TX6) (N9 := 12) (ci := 8) C0 C1 hI iX6 rfl (1 + 6 + 1 + 4 * ix x1) 2 (kdlt5 (kd4_i (kd1_6 (rfl : kdI 1 = 1)) h_4)) (by decide) ((shI_5 (kd4_i (kd1_6 (rfl : kdI 1 = 1)) h_4)) _) rfl rfl 3 rfl dX9_listLength_14 ?_
  exact ep_z C0 hI hr hlocks rfl hf dX9_listLength_17

def F_X9_fillQueue_L19 (n : Nat) (x1 : Int32) : Nat → Int32 → Mem → Option Mem
  | 0, _, _ => none
  | k19 + 1, x3_19, M =>
    (if (M (1 + 6 + 1 + 4 * ix x1) 2) ≤ x3_19 then some M else chk (inb x3_19 12) (lt' (M (1 + 6 + 1 + 4 * ix x1 + 1) (ix x3_19)) (fun x4_19_3 => chk (inb x4_19_3 12) (ob (F_X8_put n 344 (M (1 + 4) (ix x4_19_3)) x3_19 x4_19_3 M) (fun M_19_7 => lt' (x3_19 + 1) (fun x3_19_8 => F_X9_fillQueue_L19 n x1 k19 x3_19_8 M_19_7))))))
def F_X9_fillQueue (n : Nat) (x1 : Int32) (M : Mem) : Option Mem :=
  chk (inb x1 6) (ob (F_X8_clear n 344 M) (fun M_3 => F_X9_fillQueue_L19 n x1 n 0 M_3))
theorem hd_X9_fillQueue : yX9_fillQueue.cls ≠ "java/lang/invoke/MethodHandle" ∧ yX9_fillQueue.cls ≠ "java/lang/invoke/VarHandle" ∧ (parseMethodDescriptor yX9_fillQueue.desc).map (fun d => d.parameters.length) = some 1 := ⟨by decide +kernel, by decide +kernel, by decide +kernel⟩
set_option maxHeartbeats 4000000 in
set_option maxRecDepth 100000 in
theorem c_X9_fillQueue (l : Launch) (g : GG) (X : va_W) (r : Nat → Nat) (b : Nat → Nat) (sz n : Nat) (M : Mem) (x1 : Int32)  {M' : Mem} (hf : F_X9_fillQueue n x1 M = some M') : Met l yX9_fillQueue (.code yX9_fillQueue cX9_fillQueue 5 none :: LWg) (rmD 1 0 0) (va_Pc [.ref (b 0), .int x1] (PreP g X 372 (shI g r b) b sz M)) (Qv g X 372 (shI g r b) b sz M') 0 0 (AA X b 372 sz) := by
  refine met_go (by decide +kernel) rfl (Nat.le_of_ble_eq_true rfl) ?_
  intro p e s m below meth c ls H locs C0 C1 hr hlocks hnm hsz hl hI
  subst hsz
  have hl : lv_has ls 5 [(0, .ref (b 0)), (1, .int x1)] := hl
  unfold F_X9_fillQueue at hf
  refine lv_aload_n C0.1 C0.2.1 dX9_fillQueue_0 rfl (lv_at hl 0 rfl) ?_
  refine r_get (C := RX9) (T := TX9) (N9 := 11) (ci := 10) C0 C1 hI iX9 rfl 0 0 (kdlt0 (rfl : kdI 0 = 0)) (by decide) ((shI_0 (rfl : kdI 0 = 0)) _) rfl rfl w_342 dX9_fillQueue_1 ?_
  refine r_getN (C := RX2) (T := TX2) (N9 := 12) (ci := 4) C0 C1 hI iX2 rfl 1 9 (kdlt1 (rfl : kdI 1 = 1)) (by decide) ((shI_1 (rfl : kdI 1 = 1)) _) rfl rfl 29 rfl dX9_fillQueue_4 ?_
  refine lv_iload_n C0.1 C0.2.1 dX9_fillQueue_7 rfl (lv_at hl 1 rfl) ?_
  obtain ⟨h_1, hf⟩ := chk_some hf
  refine r_aald (t0 := 1) C0 C1 hI (1 + 6) (kdlt4 (kd1_6 (rfl : kdI 1 = 1))) (shI_4 (kd1_6 (rfl : kdI 1 = 1))) rfl h_1 rfl dX9_fillQueue_8 ?_
  refine lv_astore_n (lv' := [(2, .ref (b (1 + 6 + 1 + 4 * ix x1))), (0, .ref (b 0)), (1, .int x1)]) C0.1 C0.2.1 dX9_fillQueue_9 rfl hl (by decide) rfl (fun ls hl => ?_)
  refine lv_aload_n C0.1 C0.2.1 dX9_fillQueue_10 rfl (lv_at hl 1 rfl) ?_
  refine r_get (C := RX9) (T := TX9) (N9 := 11) (ci := 10) C0 C1 hI iX9 rfl 0 5 (kdlt0 (rfl : kdI 0 = 0)) (by decide) ((shI_0 (rfl : kdI 0 = 0)) _) rfl rfl w_347 dX9_fillQueue_11 ?_
  obtain ⟨M_3, h_2, hf⟩ := ob_some hf
  refine k_v C1 hI (q_VN C0 C1 hI 344 (c_X8_clear l g X r b H.size n M 344 (rfl : kdI 344 = 8) h_2) 10 rfl w_608 w_7 w_75 w_609 ⟨rfl, rfl⟩ hd_X8_clear ⟨Nat.le_of_ble_eq_true rfl, Nat.le_of_ble_eq_true rfl⟩ (kdlt8 (rfl : kdI 344 = 8)) ((shI_8 (rfl : kdI 344 = 8)) _) rfl rfl rfl hl.1 rfl (Nat.le_of_ble_eq_true rfl) dX9_fillQueue_14 ⟨Nat.le_of_ble_eq_true rfl, Nat.le_of_ble_eq_true rfl⟩) (fun H locs hI => ?_)
  refine lv_iconst (v := 0) C0.1 C0.2.1 dX9_fillQueue_17 (by decide) ?_
  refine lv_istore_n (lv' := [(3, .int 0), (2, .ref (b (1 + 6 + 1 + 4 * ix x1))), (0, .ref (b 0)), (1, .int x1)]) C0.1 C0.2.1 dX9_fillQueue_18 rfl hl (by decide) rfl (fun ls hl => ?_)
  have L19 : ∀ (k19 : Nat) (x3_19 : Int32) (M : Mem), F_X9_fillQueue_L19 n x1 k19 x3_19 M = some M' → ∀ (H : Heap) (locs : List Loc) (ls : Array Slot), PI g X 372 (shI g r b) b s M H locs → lv_has ls 5 [(0, .ref (b 0)), (2, .ref (b (1 + 6 + 1 + 4 * ix x1))), (3, .int x3_19)] → W p l e (rmD 1 0 0) s m ([.ref (b 0), .int x1] : List Value).toArray below meth c H locs 0 0 (MQ below (Qv g X 372 (shI g r b) b s.heap.size M') ([.ref (b 0), .int x1] : List Value).toArray s 0 0 (AA X b 372 s.heap.size)) (F0 m 19 ls []) := by
    intro k19
    induction k19 with
    | zero => intro x3_19 M hf; exact absurd (show (none : Option Mem) = some M' from hf) (fun h => by cases h)
    | succ k19 ih19 =>
      intro x3_19 M hf H locs ls hI hl
      unfold F_X9_fillQueue_L19 at hf
      refine lv_iload_n C0.1 C0.2.1 dX9_fillQueue_19 rfl (lv_at hl 2 rfl) ?_
      refine lv_aload_n C0.1 C0.2.1 dX9_fillQueue_20 rfl (lv_at hl 1 rfl) ?_
      refine r_getN (C := RX6) (T := TX6) (N9 := 12) (ci := 8) C0 C1 hI iX6 rfl (1 + 6 + 1 + 4 * ix x1) 2 (kdlt5 (kd4_i (kd1_6 (rfl : kdI 1 = 1)) h_1)) (by decide) ((shI_5 (kd4_i (kd1_6 (rfl : kdI 1 = 1)) h_1)) _) rfl rfl 3 rfl dX9_fillQueue_21 ?_
      refine lv_icmp_ge (tgt := 61) C0.1 C0.2.1 dX9_fillQueue_24 (by decide) (fun c_19_1 => ?_) (fun c_19_1 => ?_)
      · have hf := (if_pos c_19_1).symm.trans hf
        exact ee_vm C0 hI hr hlocks hf dX9_fillQueue_61
      · have hf := (if_neg c_19_1).symm.trans hf
        refine lv_aload_n C0.1 C0.2.1 dX9_fillQueue_27 rfl (lv_at hl 1 rfl) ?_
        refine r_getN (C := RX6) (T := TX6) (N9 := 12) (ci := 8) C0 C1 hI iX6 rfl (1 + 6 + 1 + 4 * ix x1) 1 (kdlt5 (kd4_i (kd1_6 (rfl : kdI 1 = 1)) h_1)) (by decide) ((shI_5 (kd4_i (kd1_6 (rfl : kdI 1 = 1)) h_1)) _) rfl rfl 1 rfl dX9_fillQueue_28 ?_
        refine lv_iload_n C0.1 C0.2.1 dX9_fillQueue_31 rfl (lv_at hl 2 rfl) ?_
        obtain ⟨h_19_2, hf⟩ := chk_some hf
        refine r_iald C0 C1 hI (1 + 6 + 1 + 4 * ix x1 + 1) (kdlt2 (kd5_1 (kd4_i (kd1_6 (rfl : kdI 1 = 1)) h_1))) (shI_2 (kd5_1 (kd4_i (kd1_6 (rfl : kdI 1 = 1)) h_1))) h_19_2 dX9_fillQueue_32 ?_
        refine lv_topi (fun x4_19_3 e_19_4 => ?_)
        have hf := lt_at e_19_4 hf
        refine lv_istore (lv' := [(4, .int x4_19_3), (0, .ref (b 0)), (2, .ref (b (1 + 6 + 1 + 4 * ix x1))), (3, .int x3_19)]) C0.1 C0.2.1 dX9_fillQueue_33 hl (by decide) rfl (fun ls hl => ?_)
        refine lv_aload_n C0.1 C0.2.1 dX9_fillQueue_35 rfl (lv_at hl 1 rfl) ?_
        refine r_get (C := RX9) (T := TX9) (N9 := 11) (ci := 10) C0 C1 hI iX9 rfl 0 5 (kdlt0 (rfl : kdI 0 = 0)) (by decide) ((shI_0 (rfl : kdI 0 = 0)) _) rfl rfl w_347 dX9_fillQueue_36 ?_
        refine lv_aload_n C0.1 C0.2.1 dX9_fillQueue_39 rfl (lv_at hl 1 rfl) ?_
        refine r_get (C := RX9) (T := TX9) (N9 := 11) (ci := 10) C0 C1 hI iX9 rfl 0 0 (kdlt0 (rfl : kdI 0 = 0)) (by decide) ((shI_0 (rfl : kdI 0 = 0)) _) rfl rfl w_342 dX9_fillQueue_40 ?_
        refine r_getN (C := RX2) (T := TX2) (N9 := 12) (ci := 4) C0 C1 hI iX2 rfl 1 4 (kdlt1 (rfl : kdI 1 = 1)) (by decide) ((shI_1 (rfl : kdI 1 = 1)) _) rfl rfl 25 rfl dX9_fillQueue_43 ?_
        refine lv_iload C0.1 C0.2.1 dX9_fillQueue_46 (lv_at hl 0 rfl) ?_
        obtain ⟨h_19_5, hf⟩ := chk_some hf
        refine r_iald C0 C1 hI (1 + 4) (kdlt2 (kd1_4 (rfl : kdI 1 = 1))) (shI_2 (kd1_4 (rfl : kdI 1 = 1))) h_19_5 dX9_fillQueue_48 ?_
        refine lv_iload_n C0.1 C0.2.1 dX9_fillQueue_49 rfl (lv_at hl 3 rfl) ?_
        refine lv_iload C0.1 C0.2.1 dX9_fillQueue_50 (lv_at hl 0 rfl) ?_
        obtain ⟨M_19_7, h_19_6, hf⟩ := ob_some hf
        refine k_v C1 hI (q_VN C0 C1 hI 344 (c_X8_put l g X r b H.size n M 344 (rfl : kdI 344 = 8) (M (1 + 4) (ix x4_19_3)) x3_19 x4_19_3 h_19_6) 11 rfl w_612 w_8 w_75 w_613 ⟨rfl, rfl⟩ hd_X8_put ⟨Nat.le_of_ble_eq_true rfl, Nat.le_of_ble_eq_true rfl⟩ (kdlt8 (rfl : kdI 344 = 8)) ((shI_8 (rfl : kdI 344 = 8)) _) rfl rfl rfl hl.1 rfl (Nat.le_of_ble_eq_true rfl) dX9_fillQueue_52 ⟨Nat.le_of_ble_eq_true rfl, Nat.le_of_ble_eq_true rfl⟩) (fun H locs hI => ?_)
        obtain ⟨x3_19_8, e_19_9⟩ : ∃ z : Int32, z = x3_19 + 1 := ⟨_, rfl⟩
        have hf := lt_at e_19_9 hf
        refine lv_iinc (v := x3_19_8) (lv' := [(3, .int x3_19_8), (4, .int x4_19_3), (0, .ref (b 0)), (2, .ref (b (1 + 6 + 1 + 4 * ix x1)))]) C0.1 C0.2.1 dX9_fillQueue_55 hl (k := 3) rfl (by rw [e_19_9]; rfl) (by decide) rfl (fun ls hl => ?_)
        refine lv_goto (tgt := 19) C0.1 C0.2.1 dX9_fillQueue_58 (by decide) ?_
        exact ih19 x3_19_8 M_19_7 hf H locs ls hI (lv_sub hl [2, 3, 0] rfl)
  exact L19 n 0 M_3 hf H locs ls hI (lv_sub hl [2, 1, 0] rfl)

def F_X9_nextFrog (n : Nat) (x1 : Int32) (M : Mem) : Option (RX Int32 × Mem) :=
  ob (F_X2_refusalToCall n 1 x1 M) (fun r_2 => obxr (F_X9_refuse n r_2 M) M (fun u_5 => ob (F_X9_fillQueue n x1 M) (fun M_10 => ob2 (F_X8_takeFirst n 344 M_10) (fun r_12 M_13 => some (.inr r_12, M_13)))))
theorem hd_X9_nextFrog : yX9_nextFrog.cls ≠ "java/lang/invoke/MethodHandle" ∧ yX9_nextFrog.cls ≠ "java/lang/invoke/VarHandle" ∧ (parseMethodDescriptor yX9_nextFrog.desc).map (fun d => d.parameters.length) = some 1 := ⟨by decide +kernel, by decide +kernel, by decide +kernel⟩
set_option maxHeartbeats 4000000 in
set_option maxRecDepth 100000 in
theorem c_X9_nextFrog (l : Launch) (hl0 : l.stackTraces = false) (g : GG) (X : va_W) (r : Nat → Nat) (b : Nat → Nat) (sz n : Nat) (M : Mem) (x1 : Int32) {q0 : RX Int32} {M' : Mem} (hf : F_X9_nextFrog n x1 M = some (q0, M')) : vx_Met l yX9_nextFrog (.code yX9_nextFrog cX9_nextFrog 2 (some .int) :: LWg) (rmD 10 1 6) (va_Pc [.ref (b 0), .int x1] (PreP g X 372 (shI g r b) b sz M)) (QiX g X 372 (shI g r b) b sz q0 M') (XcX g X 372 (shI g r b) b sz q0 M') 1 6 (AA X b 372 sz) := by
  refine metx_go (by decide +kernel) rfl (Nat.le_of_ble_eq_true rfl) ?_
  intro p e s m below meth c ls H locs C0 C1 hr hlocks hno hsz hl hI
  subst hsz
  have hl : lv_has ls 2 [(0, .ref (b 0)), (1, .int x1)] := hl
  unfold F_X9_nextFrog at hf
  refine lv_aload_n C0.1 C0.2.1 dX9_nextFrog_0 rfl (lv_at hl 0 rfl) ?_
  refine r_get (C := RX9) (T := TX9) (N9 := 11) (ci := 10) C0 C1 hI iX9 rfl 0 0 (kdlt0 (rfl : kdI 0 = 0)) (by decide) ((shI_0 (rfl : kdI 0 = 0)) _) rfl rfl w_342 dX9_nextFrog_1 ?_
  refine lv_iload_n C0.1 C0.2.1 dX9_nextFrog_4 rfl (lv_at hl 1 rfl) ?_
  obtain ⟨r_2, h_1, hf⟩ := ob_some hf
  refine k_e C1 hI (q_VN C0 C1 hI 1 (c_X2_refusalToCall l g X r b H.size n M 1 (rfl : kdI 1 = 1) x1 h_1) 9 rfl w_595 w_5 w_72 w_596 ⟨rfl, rfl⟩ hd_X2_refusalToCall ⟨Nat.le_of_ble_eq_true rfl, Nat.le_of_ble_eq_true rfl⟩ (kdlt1 (rfl : kdI 1 = 1)) ((shI_1 (rfl : kdI 1 = 1)) _) rfl rfl rfl hl.1 rfl (Nat.le_of_ble_eq_true rfl) dX9_nextFrog_5 ⟨Nat.le_of_ble_eq_true rfl, Nat.le_of_ble_eq_true rfl⟩) (fun H locs hI => ?_)
  obtain ⟨q_6, h_4, h_7, h_8⟩ := obxr_x hf
  refine kx_v C1 hI (qx_S C0 C1 hI (c_X9_refuse l hl0 g X r b H.size n M r_2 h_4) w_423 w_424 w_71 w_425 ⟨rfl, rfl⟩ hd_X9_refuse ⟨Nat.le_of_ble_eq_true rfl, Nat.le_of_ble_eq_true rfl⟩ rfl hl.1 rfl (Nat.le_of_ble_eq_true rfl) dX9_nextFrog_8 ⟨Nat.le_of_ble_eq_true rfl, Nat.le_of_ble_eq_true rfl⟩) (fun k H locs ce q9 e1 hI g1 g2 g3 => x_outm hno hlocks hI g1 g2 g3 (h_7 k e1) (Nat.le_of_ble_eq_true rfl) (Nat.le_of_ble_eq_true rfl)) (fun u_5 H locs e1 hI => ?_)
  have hf := h_8 u_5 e1
  refine lv_aload_n C0.1 C0.2.1 dX9_nextFrog_11 rfl (lv_at hl 0 rfl) ?_
  refine lv_iload_n C0.1 C0.2.1 dX9_nextFrog_12 rfl (lv_at hl 1 rfl) ?_
  obtain ⟨M_10, h_9, hf⟩ := ob_some hf
  refine k_v C1 hI (q_V C0 C1 hI 0 (c_X9_fillQueue l g X r b H.size n M x1 h_9) w_602 w_604 w_6 w_71 w_605 ⟨rfl, rfl⟩ hd_X9_fillQueue ⟨Nat.le_of_ble_eq_true rfl, Nat.le_of_ble_eq_true rfl⟩ (kdlt0 (rfl : kdI 0 = 0)) ((shI_0 (rfl : kdI 0 = 0)) _) rfl rfl rfl hl.1 rfl (Nat.le_of_ble_eq_true rfl) dX9_nextFrog_13 ⟨Nat.le_of_ble_eq_true rfl, Nat.le_of_ble_eq_true rfl⟩) (fun H locs hI => ?_)
  refine lv_aload_n C0.1 C0.2.1 dX9_nextFrog_16 rfl (lv_at hl 0 rfl) ?_
  refine r_get (C := RX9) (T := TX9) (N9 := 11) (ci := 10) C0 C1 hI iX9 rfl 0 5 (kdlt0 (rfl : kdI 0 = 0)) (by decide) ((shI_0 (rfl : kdI 0 = 0)) _) rfl rfl w_347 dX9_nextFrog_17 ?_
  obtain ⟨r_12, M_13, h_11, hf⟩ := ob2_some hf
  refine k_i C1 hI (q_VN C0 C1 hI 344 (c_X8_takeFirst l g X r b H.size n M_10 344 (rfl : kdI 344 = 8) h_11) 12 rfl w_616 w_9 w_75 w_617 ⟨rfl, rfl⟩ hd_X8_takeFirst ⟨Nat.le_of_ble_eq_true rfl, Nat.le_of_ble_eq_true rfl⟩ (kdlt8 (rfl : kdI 344 = 8)) ((shI_8 (rfl : kdI 344 = 8)) _) rfl rfl rfl hl.1 rfl (Nat.le_of_ble_eq_true rfl) dX9_nextFrog_20 ⟨Nat.le_of_ble_eq_true rfl, Nat.le_of_ble_eq_true rfl⟩) (fun H locs hI => ?_)
  exact ex_zm C0 hI hr hlocks rfl hf dX9_nextFrog_23


set_option maxHeartbeats 4000000 in
set_option maxRecDepth 100000 in
theorem p_X9_nextFrog (l : Launch) (g : GG) (X : va_W) (r : Nat → Nat) (b : Nat → Nat) (sz n : Nat) (M : Mem) (x1 : Int32) {r0 : Int32} {M' : Mem} (hf : F_X9_nextFrog n x1 M = some (.inr r0, M')) : Met l yX9_nextFrog (.code yX9_nextFrog cX9_nextFrog 2 (some .int) :: LWg) (rmD 10 0 0) (va_Pc [.ref (b 0), .int x1] (PreP g X 372 (shI g r b) b sz M)) (Qi g X 372 (shI g r b) b sz r0 M') 0 0 (AA X b 372 sz) := by
  refine met_go (by decide +kernel) rfl (Nat.le_of_ble_eq_true rfl) ?_
  intro p e s m below meth c ls H locs C0 C1 hr hlocks hnm hsz hl hI
  subst hsz
  have hl : lv_has ls 2 [(0, .ref (b 0)), (1, .int x1)] := hl
  unfold F_X9_nextFrog at hf
  refine lv_aload_n C0.1 C0.2.1 dX9_nextFrog_0 rfl (lv_at hl 0 rfl) ?_
  refine r_get (C := RX9) (T := TX9) (N9 := 11) (ci := 10) C0 C1 hI iX9 rfl 0 0 (kdlt0 (rfl : kdI 0 = 0)) (by decide) ((shI_0 (rfl : kdI 0 = 0)) _) rfl rfl w_342 dX9_nextFrog_1 ?_
  refine lv_iload_n C0.1 C0.2.1 dX9_nextFrog_4 rfl (lv_at hl 1 rfl) ?_
  obtain ⟨r_2, h_1, hf⟩ := ob_some hf
  refine k_e C1 hI (q_VN C0 C1 hI 1 (c_X2_refusalToCall l g X r b H.size n M 1 (rfl : kdI 1 = 1) x1 h_1) 9 rfl w_595 w_5 w_72 w_596 ⟨rfl, rfl⟩ hd_X2_refusalToCall ⟨Nat.le_of_ble_eq_true rfl, Nat.le_of_ble_eq_true rfl⟩ (kdlt1 (rfl : kdI 1 = 1)) ((shI_1 (rfl : kdI 1 = 1)) _) rfl rfl rfl hl.1 rfl (Nat.le_of_ble_eq_true rfl) dX9_nextFrog_5 ⟨Nat.le_of_ble_eq_true rfl, Nat.le_of_ble_eq_true rfl⟩) (fun H locs hI => ?_)
  obtain ⟨u_5, h_4, hf⟩ := obxr_p hf
  refine k_v C1 hI (q_S C0 C1 hI (p_X9_refuse l g X r b H.size n M r_2 h_4) w_423 w_424 w_71 w_425 ⟨rfl, rfl⟩ hd_X9_refuse ⟨Nat.le_of_ble_eq_true rfl, Nat.le_of_ble_eq_true rfl⟩ rfl hl.1 rfl (Nat.le_of_ble_eq_true rfl) dX9_nextFrog_8 ⟨Nat.le_of_ble_eq_true rfl, Nat.le_of_ble_eq_true rfl⟩) (fun H locs hI => ?_)
  refine lv_aload_n C0.1 C0.2.1 dX9_nextFrog_11 rfl (lv_at hl 0 rfl) ?_
  refine lv_iload_n C0.1 C0.2.1 dX9_nextFrog_12 rfl (lv_at hl 1 rfl) ?_
  obtain ⟨M_7, h_6, hf⟩ := ob_some hf
  refine k_v C1 hI (q_V C0 C1 hI 0 (c_X9_fillQueue l g X r b H.size n M x1 h_6) w_602 w_604 w_6 w_71 w_605 ⟨rfl, rfl⟩ hd_X9_fillQueue ⟨Nat.le_of_ble_eq_true rfl, Nat.le_of_ble_eq_true rfl⟩ (kdlt0 (rfl : kdI 0 = 0)) ((shI_0 (rfl : kdI 0 = 0)) _) rfl rfl rfl hl.1 rfl (Nat.le_of_ble_eq_true rfl) dX9_nextFrog_13 ⟨Nat.le_of_ble_eq_true rfl, Nat.le_of_ble_eq_true rfl⟩) (fun H locs hI => ?_)
  refine lv_aload_n C0.1 C0.2.1 dX9_nextFrog_16 rfl (lv_at hl 0 rfl) ?_
  refine r_get (C := RX9) (T := TX9) (N9 := 11) (ci := 10) C0 C1 hI iX9 rfl 0 5 (kdlt0 (rfl : kdI 0 = 0)) (by decide) ((shI_0 (rfl : kdI 0 = 0)) _) rfl rfl w_347 dX9_nextFrog_17 ?_
  obtain ⟨r_9, M_10, h_8, hf⟩ := ob2_some hf
  refine k_i C1 hI (q_VN C0 C1 hI 344 (c_X8_takeFirst l g X r b H.size n M_7 344 (rfl : kdI 344 = 8) h_8) 12 rfl w_616 w_9 w_75 w_617 ⟨rfl, rfl⟩ hd_X8_takeFirst ⟨Nat.le_of_ble_eq_true rfl, Nat.le_of_ble_eq_true rfl⟩ (kdlt8 (rfl : kdI 344 = 8)) ((shI_8 (rfl : kdI 344 = 8)) _) rfl rfl rfl hl.1 rfl (Nat.le_of_ble_eq_true rfl) dX9_nextFrog_20 ⟨Nat.le_of_ble_eq_true rfl, Nat.le_of_ble_eq_true rfl⟩) (fun H locs hI => ?_)
  exact ep_zm C0 hI hr hlocks rfl hf dX9_nextFrog_23

def F_X9_nextFrogByScan (n : Nat) (x1 : Int32) (M : Mem) : Option (RX Int32) :=
  ob (F_X2_refusalToCall n 1 x1 M) (fun r_2 => obx (F_X9_refuse n r_2 M) (fun u_5 => chk (inb x1 6) (ob (F_X2_firstPlace n 1 x1 M) (fun r_11 => chk (inb r_11 12) (some (.inr (M (1 + 6 + 1 + 4 * ix x1 + 1) (ix r_11))))))))
theorem hd_X9_nextFrogByScan : yX9_nextFrogByScan.cls ≠ "java/lang/invoke/MethodHandle" ∧ yX9_nextFrogByScan.cls ≠ "java/lang/invoke/VarHandle" ∧ (parseMethodDescriptor yX9_nextFrogByScan.desc).map (fun d => d.parameters.length) = some 1 := ⟨by decide +kernel, by decide +kernel, by decide +kernel⟩
set_option maxHeartbeats 4000000 in
set_option maxRecDepth 100000 in
theorem c_X9_nextFrogByScan (l : Launch) (hl0 : l.stackTraces = false) (g : GG) (X : va_W) (r : Nat → Nat) (b : Nat → Nat) (sz n : Nat) (M : Mem) (x1 : Int32) {q0 : RX Int32} (hf : F_X9_nextFrogByScan n x1 M = some q0) : vx_Met l yX9_nextFrogByScan (.code yX9_nextFrogByScan cX9_nextFrogByScan 2 (some .int) :: LWg) (rmD 10 1 6) (va_Pc [.ref (b 0), .int x1] (PreP g X 372 (shI g r b) b sz M)) (QiX g X 372 (shI g r b) b sz q0 M) (XcX g X 372 (shI g r b) b sz q0 M) 1 6 (AA X b 372 sz) := by
  refine metx_go (by decide +kernel) rfl (Nat.le_of_ble_eq_true rfl) ?_
  intro p e s m below meth c ls H locs C0 C1 hr hlocks hno hsz hl hI
  subst hsz
  have hl : lv_has ls 2 [(0, .ref (b 0)), (1, .int x1)] := hl
  unfold F_X9_nextFrogByScan at hf
  refine lv_aload_n C0.1 C0.2.1 dX9_nextFrogByScan_0 rfl (lv_at hl 0 rfl) ?_
  refine r_get (C := RX9) (T := TX9) (N9 := 11) (ci := 10) C0 C1 hI iX9 rfl 0 0 (kdlt0 (rfl : kdI 0 = 0)) (by decide) ((shI_0 (rfl : kdI 0 = 0)) _) rfl rfl w_342 dX9_nextFrogByScan_1 ?_
  refine lv_iload_n C0.1 C0.2.1 dX9_nextFrogByScan_4 rfl (lv_at hl 1 rfl) ?_
  obtain ⟨r_2, h_1, hf⟩ := ob_some hf
  refine k_e C1 hI (q_VN C0 C1 hI 1 (c_X2_refusalToCall l g X r b H.size n M 1 (rfl : kdI 1 = 1) x1 h_1) 9 rfl w_595 w_5 w_72 w_596 ⟨rfl, rfl⟩ hd_X2_refusalToCall ⟨Nat.le_of_ble_eq_true rfl, Nat.le_of_ble_eq_true rfl⟩ (kdlt1 (rfl : kdI 1 = 1)) ((shI_1 (rfl : kdI 1 = 1)) _) rfl rfl rfl hl.1 rfl (Nat.le_of_ble_eq_true rfl) dX9_nextFrogByScan_5 ⟨Nat.le_of_ble_eq_true rfl, Nat.le_of_ble_eq_true rfl⟩) (fun H locs hI => ?_)
  obtain ⟨q_6, h_4, h_7, h_8⟩ := obx_x hf
  refine kx_v C1 hI (qx_S C0 C1 hI (c_X9_refuse l hl0 g X r b H.size n M r_2 h_4) w_423 w_424 w_71 w_425 ⟨rfl, rfl⟩ hd_X9_refuse ⟨Nat.le_of_ble_eq_true rfl, Nat.le_of_ble_eq_true rfl⟩ rfl hl.1 rfl (Nat.le_of_ble_eq_true rfl) dX9_nextFrogByScan_8 ⟨Nat.le_of_ble_eq_true rfl, Nat.le_of_ble_eq_true rfl⟩) (fun k H locs ce q9 e1 hI g1 g2 g3 => x_out hno hlocks hI g1 g2 g3 (h_7 k e1) (Nat.le_of_ble_eq_true rfl) (Nat.le_of_ble_eq_true rfl)) (fun u_5 H locs e1 hI => ?_)
  have hf := h_8 u_5 e1
  refine lv_aload_n C0.1 C0.2.1 dX9_nextFrogByScan_11 rfl (lv_at hl 0 rfl) ?_
  refine r_get (C := RX9) (T := TX9) (N9 := 11) (ci := 10) C0 C1 hI iX9 rfl 0 0 (kdlt0 (rfl : kdI 0 = 0)) (by decide) ((shI_0 (rfl : kdI 0 = 0)) _) rfl rfl w_342 dX9_nextFrogByScan_12 ?_
  refine r_getN (C := RX2) (T := TX2) (N9 := 12) (ci := 4) C0 C1 hI iX2 rfl 1 9 (kdlt1 (rfl : kdI 1 = 1)) (by decide) ((shI_1 (rfl : kdI 1 = 1)) _) rfl rfl 29 rfl dX9_nextFrogByScan_15 ?_
  refine lv_iload_n C0.1 C0.2.1 dX9_nextFrogByScan_18 rfl (lv_at hl 1 rfl) ?_
  obtain ⟨h_9, hf⟩ := chk_some hf
  refine r_aald (t0 := 1) C0 C1 hI (1 + 6) (kdlt4 (kd1_6 (rfl : kdI 1 = 1))) (shI_4 (kd1_6 (rfl : kdI 1 = 1))) rfl h_9 rfl dX9_nextFrogByScan_19 ?_
  refine r_getN (C := RX6) (T := TX6) (N9 := 12) (ci := 8) C0 C1 hI iX6 rfl (1 + 6 + 1 + 4 * ix x1) 1 (kdlt5 (kd4_i (kd1_6 (rfl : kdI 1 = 1)) h_9)) (by decide) ((shI_5 (kd4_i (kd1_6 (rfl : kdI 1 = 1)) h_9)) _) rfl rfl 1 rfl dX9_nextFrogByScan_20 ?_
  refine lv_aload_n C0.1 C0.2.1 dX9_nextFrogByScan_23 rfl (lv_at hl 0 rfl) ?_
  refine r_get (C := RX9) (T := TX9) (N9 := 11) (ci := 10) C0 C1 hI iX9 rfl 0 0 (kdlt0 (rfl : kdI 0 = 0)) (by decide) ((shI_0 (rfl : kdI 0 = 0)) _) rfl rfl w_342 dX9_nextFrogByScan_24 ?_
  refine lv_iload_n C0.1 C0.2.1 dX9_nextFrogByScan_27 rfl (lv_at hl 1 rfl) ?_
  obtain ⟨r_11, h_10, hf⟩ := ob_some hf
  refine k_i C1 hI (q_VN C0 C1 hI 1 (c_X2_firstPlace l g X r b H.size n M 1 (rfl : kdI 1 = 1) x1 h_10) 13 rfl w_628 w_11 w_72 w_629 ⟨rfl, rfl⟩ hd_X2_firstPlace ⟨Nat.le_of_ble_eq_true rfl, Nat.le_of_ble_eq_true rfl⟩ (kdlt1 (rfl : kdI 1 = 1)) ((shI_1 (rfl : kdI 1 = 1)) _) rfl rfl rfl hl.1 rfl (Nat.le_of_ble_eq_true rfl) dX9_nextFrogByScan_28 ⟨Nat.le_of_ble_eq_true rfl, Nat.le_of_ble_eq_true rfl⟩) (fun H locs hI => ?_)
  obtain ⟨h_12, hf⟩ := chk_some hf
  refine r_iald C0 C1 hI (1 + 6 + 1 + 4 * ix x1 + 1) (kdlt2 (kd5_1 (kd4_i (kd1_6 (rfl : kdI 1 = 1)) h_9))) (shI_2 (kd5_1 (kd4_i (kd1_6 (rfl : kdI 1 = 1)) h_9))) h_12 dX9_nextFrogByScan_31 ?_
  exact ex_z C0 hI hr hlocks rfl hf dX9_nextFrogByScan_32


set_option maxHeartbeats 4000000 in
set_option maxRecDepth 100000 in
theorem p_X9_nextFrogByScan (l : Launch) (g : GG) (X : va_W) (r : Nat → Nat) (b : Nat → Nat) (sz n : Nat) (M : Mem) (x1 : Int32) {r0 : Int32} (hf : F_X9_nextFrogByScan n x1 M = some (.inr r0)) : Met l yX9_nextFrogByScan (.code yX9_nextFrogByScan cX9_nextFrogByScan 2 (some .int) :: LWg) (rmD 10 0 0) (va_Pc [.ref (b 0), .int x1] (PreP g X 372 (shI g r b) b sz M)) (Qi g X 372 (shI g r b) b sz r0 M) 0 0 (AA X b 372 sz) := by
  refine met_go (by decide +kernel) rfl (Nat.le_of_ble_eq_true rfl) ?_
  intro p e s m below meth c ls H locs C0 C1 hr hlocks hnm hsz hl hI
  subst hsz
  have hl : lv_has ls 2 [(0, .ref (b 0)), (1, .int x1)] := hl
  unfold F_X9_nextFrogByScan at hf
  refine lv_aload_n C0.1 C0.2.1 dX9_nextFrogByScan_0 rfl (lv_at hl 0 rfl) ?_
  refine r_get (C := RX9) (T := TX9) (N9 := 11) (ci := 10) C0 C1 hI iX9 rfl 0 0 (kdlt0 (rfl : kdI 0 = 0)) (by decide) ((shI_0 (rfl : kdI 0 = 0)) _) rfl rfl w_342 dX9_nextFrogByScan_1 ?_
  refine lv_iload_n C0.1 C0.2.1 dX9_nextFrogByScan_4 rfl (lv_at hl 1 rfl) ?_
  obtain ⟨r_2, h_1, hf⟩ := ob_some hf
  refine k_e C1 hI (q_VN C0 C1 hI 1 (c_X2_refusalToCall l g X r b H.size n M 1 (rfl : kdI 1 = 1) x1 h_1) 9 rfl w_595 w_5 w_72 w_596 ⟨rfl, rfl⟩ hd_X2_refusalToCall ⟨Nat.le_of_ble_eq_true rfl, Nat.le_of_ble_eq_true rfl⟩ (kdlt1 (rfl : kdI 1 = 1)) ((shI_1 (rfl : kdI 1 = 1)) _) rfl rfl rfl hl.1 rfl (Nat.le_of_ble_eq_true rfl) dX9_nextFrogByScan_5 ⟨Nat.le_of_ble_eq_true rfl, Nat.le_of_ble_eq_true rfl⟩) (fun H locs hI => ?_)
  obtain ⟨u_5, h_4, hf⟩ := obx_p hf
  refine k_v C1 hI (q_S C0 C1 hI (p_X9_refuse l g X r b H.size n M r_2 h_4) w_423 w_424 w_71 w_425 ⟨rfl, rfl⟩ hd_X9_refuse ⟨Nat.le_of_ble_eq_true rfl, Nat.le_of_ble_eq_true rfl⟩ rfl hl.1 rfl (Nat.le_of_ble_eq_true rfl) dX9_nextFrogByScan_8 ⟨Nat.le_of_ble_eq_true rfl, Nat.le_of_ble_eq_true rfl⟩) (fun H locs hI => ?_)
  refine lv_aload_n C0.1 C0.2.1 dX9_nextFrogByScan_11 rfl (lv_at hl 0 rfl) ?_
  refine r_get (C := RX9) (T := TX9) (N9 := 11) (ci := 10) C0 C1 hI iX9 rfl 0 0 (kdlt0 (rfl : kdI 0 = 0)) (by decide) ((shI_0 (rfl : kdI 0 = 0)) _) rfl rfl w_342 dX9_nextFrogByScan_12 ?_
  refine r_getN (C := RX2) (T := TX2) (N9 := 12) (ci := 4) C0 C1 hI iX2 rfl 1 9 (kdlt1 (rfl : kdI 1 = 1)) (by decide) ((shI_1 (rfl : kdI 1 = 1)) _) rfl rfl 29 rfl dX9_nextFrogByScan_15 ?_
  refine lv_iload_n C0.1 C0.2.1 dX9_nextFrogByScan_18 rfl (lv_at hl 1 rfl) ?_
  obtain ⟨h_6, hf⟩ := chk_some hf
  refine r_aald (t0 := 1) C0 C1 hI (1 + 6) (kdlt4 (kd1_6 (rfl : kdI 1 = 1))) (shI_4 (kd1_6 (rfl : kdI 1 = 1))) rfl h_6 rfl dX9_nextFrogByScan_19 ?_
  refine r_getN (C := RX6) (T := TX6) (N9 := 12) (ci := 8) C0 C1 hI iX6 rfl (1 + 6 + 1 + 4 * ix x1) 1 (kdlt5 (kd4_i (kd1_6 (rfl : kdI 1 = 1)) h_6)) (by decide) ((shI_5 (kd4_i (kd1_6 (rfl : kdI 1 = 1)) h_6)) _) rfl rfl 1 rfl dX9_nextFrogByScan_20 ?_
  refine lv_aload_n C0.1 C0.2.1 dX9_nextFrogByScan_23 rfl (lv_at hl 0 rfl) ?_
  refine r_get (C := RX9) (T := TX9) (N9 := 11) (ci := 10) C0 C1 hI iX9 rfl 0 0 (kdlt0 (rfl : kdI 0 = 0)) (by decide) ((shI_0 (rfl : kdI 0 = 0)) _) rfl rfl w_342 dX9_nextFrogByScan_24 ?_
  refine lv_iload_n C0.1 C0.2.1 dX9_nextFrogByScan_27 rfl (lv_at hl 1 rfl) ?_
  obtain ⟨r_8, h_7, hf⟩ := ob_some hf
  refine k_i C1 hI (q_VN C0 C1 hI 1 (c_X2_firstPlace l g X r b H.size n M 1 (rfl : kdI 1 = 1) x1 h_7) 13 rfl w_628 w_11 w_72 w_629 ⟨rfl, rfl⟩ hd_X2_firstPlace ⟨Nat.le_of_ble_eq_true rfl, Nat.le_of_ble_eq_true rfl⟩ (kdlt1 (rfl : kdI 1 = 1)) ((shI_1 (rfl : kdI 1 = 1)) _) rfl rfl rfl hl.1 rfl (Nat.le_of_ble_eq_true rfl) dX9_nextFrogByScan_28 ⟨Nat.le_of_ble_eq_true rfl, Nat.le_of_ble_eq_true rfl⟩) (fun H locs hI => ?_)
  obtain ⟨h_9, hf⟩ := chk_some hf
  refine r_iald C0 C1 hI (1 + 6 + 1 + 4 * ix x1 + 1) (kdlt2 (kd5_1 (kd4_i (kd1_6 (rfl : kdI 1 = 1)) h_6))) (shI_2 (kd5_1 (kd4_i (kd1_6 (rfl : kdI 1 = 1)) h_6))) h_9 dX9_nextFrogByScan_31 ?_
  exact ep_z C0 hI hr hlocks rfl hf dX9_nextFrogByScan_32

def F_X9_frogsBefore_L35 (n : Nat) (x1 : Int32) (M : Mem) : Nat → Int32 → Int32 → Int32 → Option (RX Int32)
  | 0, _, _, _ => none
  | k35 + 1, x4_35, x5_35, x6_35 =>
    (if (M (1 + 6 + 1 + 4 * ix x1) 2) ≤ x6_35 then some (.inr x5_35) else ob (F_X2_isCalledBefore n 1 (1 + 6 + 1 + 4 * ix x1) x6_35 x4_35 M) (fun r_35_3 => (if r_35_3 = 0 then lt' (x6_35 + 1) (fun x6_35_5 => F_X9_frogsBefore_L35 n x1 M k35 x4_35 x5_35 x6_35_5) else lt' (x5_35 + 1) (fun x5_35_7 => lt' (x6_35 + 1) (fun x6_35_9 => F_X9_frogsBefore_L35 n x1 M k35 x4_35 x5_35_7 x6_35_9)))))
def F_X9_frogsBefore (n : Nat) (x1 : Int32) (x2 : Int32) (M : Mem) : Option (RX Int32) :=
  ob (F_X2_refusalToUnlist n 1 x1 x2 M) (fun r_2 => obx (F_X9_refuse n r_2 M) (fun u_5 => chk (inb x1 6) (ob (F_X6_placeOf n (1 + 6 + 1 + 4 * ix x1) x2 M) (fun r_11 => F_X9_frogsBefore_L35 n x1 M n r_11 0 0))))
theorem hd_X9_frogsBefore : yX9_frogsBefore.cls ≠ "java/lang/invoke/MethodHandle" ∧ yX9_frogsBefore.cls ≠ "java/lang/invoke/VarHandle" ∧ (parseMethodDescriptor yX9_frogsBefore.desc).map (fun d => d.parameters.length) = some 2 := ⟨by decide +kernel, by decide +kernel, by decide +kernel⟩
set_option maxHeartbeats 4000000 in
set_option maxRecDepth 100000 in
theorem c_X9_frogsBefore (l : Launch) (hl0 : l.stackTraces = false) (g : GG) (X : va_W) (r : Nat → Nat) (b : Nat → Nat) (sz n : Nat) (M : Mem) (x1 : Int32) (x2 : Int32) {q0 : RX Int32} (hf : F_X9_frogsBefore n x1 x2 M = some q0) : vx_Met l yX9_frogsBefore (.code yX9_frogsBefore cX9_frogsBefore 7 (some .int) :: LWg) (rmD 10 1 6) (va_Pc [.ref (b 0), .int x1, .int x2] (PreP g X 372 (shI g r b) b sz M)) (QiX g X 372 (shI g r b) b sz q0 M) (XcX g X 372 (shI g r b) b sz q0 M) 1 6 (AA X b 372 sz) := by
  refine metx_go (by decide +kernel) rfl (Nat.le_of_ble_eq_true rfl) ?_
  intro p e s m below meth c ls H locs C0 C1 hr hlocks hno hsz hl hI
  subst hsz
  have hl : lv_has ls 7 [(0, .ref (b 0)), (1, .int x1), (2, .int x2)] := hl
  unfold F_X9_frogsBefore at hf
  refine lv_aload_n C0.1 C0.2.1 dX9_frogsBefore_0 rfl (lv_at hl 0 rfl) ?_
  refine r_get (C := RX9) (T := TX9) (N9 := 11) (ci := 10) C0 C1 hI iX9 rfl 0 0 (kdlt0 (rfl : kdI 0 = 0)) (by decide) ((shI_0 (rfl : kdI 0 = 0)) _) rfl rfl w_342 dX9_frogsBefore_1 ?_
  refine lv_iload_n C0.1 C0.2.1 dX9_frogsBefore_4 rfl (lv_at hl 1 rfl) ?_
  refine lv_iload_n C0.1 C0.2.1 dX9_frogsBefore_5 rfl (lv_at hl 2 rfl) ?_
  obtain ⟨r_2, h_1, hf⟩ := ob_some hf
  refine k_e C1 hI (q_VN C0 C1 hI 1 (c_X2_refusalToUnlist l g X r b H.size n M 1 (rfl : kdI 1 = 1) x1 x2 h_1) 51 rfl w_1334 w_55 w_72 w_1335 ⟨rfl, rfl⟩ hd_X2_refusalToUnlist ⟨Nat.le_of_ble_eq_true rfl, Nat.le_of_ble_eq_true rfl⟩ (kdlt1 (rfl : kdI 1 = 1)) ((shI_1 (rfl : kdI 1 = 1)) _) rfl rfl rfl hl.1 rfl (Nat.le_of_ble_eq_true rfl) dX9_frogsBefore_6 ⟨Nat.le_of_ble_eq_true rfl, Nat.le_of_ble_eq_true rfl⟩) (fun H locs hI => ?_)
  obtain ⟨q_6, h_4, h_7, h_8⟩ := obx_x hf
  refine kx_v C1 hI (qx_S C0 C1 hI (c_X9_refuse l hl0 g X r b H.size n M r_2 h_4) w_423 w_424 w_71 w_425 ⟨rfl, rfl⟩ hd_X9_refuse ⟨Nat.le_of_ble_eq_true rfl, Nat.le_of_ble_eq_true rfl⟩ rfl hl.1 rfl (Nat.le_of_ble_eq_true rfl) dX9_frogsBefore_9 ⟨Nat.le_of_ble_eq_true rfl, Nat.le_of_ble_eq_true rfl⟩) (fun k H locs ce q9 e1 hI g1 g2 g3 => x_out hno hlocks hI g1 g2 g3 (h_7 k e1) (Nat.le_of_ble_eq_true rfl) (Nat.le_of_ble_eq_true rfl)) (fun u_5 H locs e1 hI => ?_)
  have hf := h_8 u_5 e1
  refine lv_aload_n C0.1 C0.2.1 dX9_frogsBefore_12 rfl (lv_at hl 0 rfl) ?_
  refine r_get (C := RX9) (T := TX9) (N9 := 11) (ci := 10) C0 C1 hI iX9 rfl 0 0 (kdlt0 (rfl : kdI 0 = 0)) (by decide) ((shI_0 (rfl : kdI 0 = 0)) _) rfl rfl w_342 dX9_frogsBefore_13 ?_
  refine r_getN (C := RX2) (T := TX2) (N9 := 12) (ci := 4) C0 C1 hI iX2 rfl 1 9 (kdlt1 (rfl : kdI 1 = 1)) (by decide) ((shI_1 (rfl : kdI 1 = 1)) _) rfl rfl 29 rfl dX9_frogsBefore_16 ?_
  refine lv_iload_n C0.1 C0.2.1 dX9_frogsBefore_19 rfl (lv_at hl 1 rfl) ?_
  obtain ⟨h_9, hf⟩ := chk_some hf
  refine r_aald (t0 := 1) C0 C1 hI (1 + 6) (kdlt4 (kd1_6 (rfl : kdI 1 = 1))) (shI_4 (kd1_6 (rfl : kdI 1 = 1))) rfl h_9 rfl dX9_frogsBefore_20 ?_
  refine lv_astore_n (lv' := [(3, .ref (b (1 + 6 + 1 + 4 * ix x1))), (0, .ref (b 0)), (1, .int x1), (2, .int x2)]) C0.1 C0.2.1 dX9_frogsBefore_21 rfl hl (by decide) rfl (fun ls hl => ?_)
  refine lv_aload_n C0.1 C0.2.1 dX9_frogsBefore_22 rfl (lv_at hl 0 rfl) ?_
  refine lv_iload_n C0.1 C0.2.1 dX9_frogsBefore_23 rfl (lv_at hl 3 rfl) ?_
  obtain ⟨r_11, h_10, hf⟩ := ob_some hf
  refine k_i C1 hI (q_VN C0 C1 hI (1 + 6 + 1 + 4 * ix x1) (c_X6_placeOf l g X r b H.size n M (1 + 6 + 1 + 4 * ix x1) (kd4_i (kd1_6 (rfl : kdI 1 = 1)) h_9) x2 h_10) 60 rfl w_860 w_36 w_73 w_861 ⟨rfl, rfl⟩ hd_X6_placeOf ⟨Nat.le_of_ble_eq_true rfl, Nat.le_of_ble_eq_true rfl⟩ (kdlt5 (kd4_i (kd1_6 (rfl : kdI 1 = 1)) h_9)) ((shI_5 (kd4_i (kd1_6 (rfl : kdI 1 = 1)) h_9)) _) rfl rfl rfl hl.1 rfl (Nat.le_of_ble_eq_true rfl) dX9_frogsBefore_24 ⟨Nat.le_of_ble_eq_true rfl, Nat.le_of_ble_eq_true rfl⟩) (fun H locs hI => ?_)
  refine lv_istore (lv' := [(4, .int r_11), (3, .ref (b (1 + 6 + 1 + 4 * ix x1))), (0, .ref (b 0)), (1, .int x1), (2, .int x2)]) C0.1 C0.2.1 dX9_frogsBefore_27 hl (by decide) rfl (fun ls hl => ?_)
  refine lv_iconst (v := 0) C0.1 C0.2.1 dX9_frogsBefore_29 (by decide) ?_
  refine lv_istore (lv' := [(5, .int 0), (4, .int r_11), (3, .ref (b (1 + 6 + 1 + 4 * ix x1))), (0, .ref (b 0)), (1, .int x1), (2, .int x2)]) C0.1 C0.2.1 dX9_frogsBefore_30 hl (by decide) rfl (fun ls hl => ?_)
  refine lv_iconst (v := 0) C0.1 C0.2.1 dX9_frogsBefore_32 (by decide) ?_
  refine lv_istore (lv' := [(6, .int 0), (5, .int 0), (4, .int r_11), (3, .ref (b (1 + 6 + 1 + 4 * ix x1))), (0, .ref (b 0)), (1, .int x1), (2, .int x2)]) C0.1 C0.2.1 dX9_frogsBefore_33 hl (by decide) rfl (fun ls hl => ?_)
  have L35 : ∀ (k35 : Nat) (x4_35 : Int32) (x5_35 : Int32) (x6_35 : Int32), F_X9_frogsBefore_L35 n x1 M k35 x4_35 x5_35 x6_35 = some q0 → ∀ (H : Heap) (locs : List Loc) (ls : Array Slot), PI g X 372 (shI g r b) b s M H locs → lv_has ls 7 [(0, .ref (b 0)), (3, .ref (b (1 + 6 + 1 + 4 * ix x1))), (4, .int x4_35), (5, .int x5_35), (6, .int x6_35)] → W p l e (rmD 10 1 6) s m ([.ref (b 0), .int x1, .int x2] : List Value).toArray below meth c H locs 1 6 (vx_MQ below (QiX g X 372 (shI g r b) b s.heap.size q0 M) (XcX g X 372 (shI g r b) b s.heap.size q0 M) ([.ref (b 0), .int x1, .int x2] : List Value).toArray s 1 6 (AA X b 372 s.heap.size)) (F0 m 35 ls []) := by
    intro k35
    induction k35 with
    | zero => intro x4_35 x5_35 x6_35 hf; exact absurd (show (none : Option (RX Int32)) = some q0 from hf) (fun h => by cases h)
    | succ k35 ih35 =>
      intro x4_35 x5_35 x6_35 hf H locs ls hI hl
      unfold F_X9_frogsBefore_L35 at hf
      refine lv_iload C0.1 C0.2.1 dX9_frogsBefore_35 (lv_at hl 4 rfl) ?_
      refine lv_aload_n C0.1 C0.2.1 dX9_frogsBefore_37 rfl (lv_at hl 1 rfl) ?_
      refine r_getN (C := RX6) (T := TX6) (N9 := 12) (ci := 8) C0 C1 hI iX6 rfl (1 + 6 + 1 + 4 * ix x1) 2 (kdlt5 (kd4_i (kd1_6 (rfl : kdI 1 = 1)) h_9)) (by decide) ((shI_5 (kd4_i (kd1_6 (rfl : kdI 1 = 1)) h_9)) _) rfl rfl 3 rfl dX9_frogsBefore_38 ?_
      refine lv_icmp_ge (tgt := 68) C0.1 C0.2.1 dX9_frogsBefore_41 (by decide) (fun c_35_1 => ?_) (fun c_35_1 => ?_)
      · have hf := (if_pos c_35_1).symm.trans hf
        refine lv_iload C0.1 C0.2.1 dX9_frogsBefore_68 (lv_at hl 3 rfl) ?_
        exact ex_z C0 hI hr hlocks rfl hf dX9_frogsBefore_70
      · have hf := (if_neg c_35_1).symm.trans hf
        refine lv_aload_n C0.1 C0.2.1 dX9_frogsBefore_44 rfl (lv_at hl 0 rfl) ?_
        refine r_get (C := RX9) (T := TX9) (N9 := 11) (ci := 10) C0 C1 hI iX9 rfl 0 0 (kdlt0 (rfl : kdI 0 = 0)) (by decide) ((shI_0 (rfl : kdI 0 = 0)) _) rfl rfl w_342 dX9_frogsBefore_45 ?_
        refine lv_aload_n C0.1 C0.2.1 dX9_frogsBefore_48 rfl (lv_at hl 1 rfl) ?_
        refine lv_iload C0.1 C0.2.1 dX9_frogsBefore_49 (lv_at hl 4 rfl) ?_
        refine lv_iload C0.1 C0.2.1 dX9_frogsBefore_51 (lv_at hl 2 rfl) ?_
        obtain ⟨r_35_3, h_35_2, hf⟩ := ob_some hf
        refine k_i C1 hI (q_VN C0 C1 hI 1 (c_X2_isCalledBefore l g X r b H.size n M 1 (rfl : kdI 1 = 1) (1 + 6 + 1 + 4 * ix x1) (kd4_i (kd1_6 (rfl : kdI 1 = 1)) h_9) x6_35 x4_35 h_35_2) 61 rfl w_632 w_12 w_72 w_633 ⟨rfl, rfl⟩ hd_X2_isCalledBefore ⟨Nat.le_of_ble_eq_true rfl, Nat.le_of_ble_eq_true rfl⟩ (kdlt1 (rfl : kdI 1 = 1)) ((shI_1 (rfl : kdI 1 = 1)) _) rfl rfl rfl hl.1 rfl (Nat.le_of_ble_eq_true rfl) dX9_frogsBefore_53 ⟨Nat.le_of_ble_eq_true rfl, Nat.le_of_ble_eq_true rfl⟩) (fun H locs hI => ?_)
        refine lv_if_eq (tgt := 62) C0.1 C0.2.1 dX9_frogsBefore_56 (by decide) (fun c_35_4 => ?_) (fun c_35_4 => ?_)
        · have hf := (if_pos c_35_4).symm.trans hf
          obtain ⟨x6_35_5, e_35_6⟩ : ∃ z : Int32, z = x6_35 + 1 := ⟨_, rfl⟩
          have hf := lt_at e_35_6 hf
          refine lv_iinc (v := x6_35_5) (lv' := [(6, .int x6_35_5), (0, .ref (b 0)), (3, .ref (b (1 + 6 + 1 + 4 * ix x1))), (4, .int x4_35), (5, .int x5_35)]) C0.1 C0.2.1 dX9_frogsBefore_62 hl (k := 4) rfl (by rw [e_35_6]; rfl) (by decide) rfl (fun ls hl => ?_)
          refine lv_goto (tgt := 35) C0.1 C0.2.1 dX9_frogsBefore_65 (by decide) ?_
          exact ih35 x4_35 x5_35 x6_35_5 hf H locs ls hI (lv_sub hl [1, 2, 3, 4, 0] rfl)
        · have hf := (if_neg c_35_4).symm.trans hf
          obtain ⟨x5_35_7, e_35_8⟩ : ∃ z : Int32, z = x5_35 + 1 := ⟨_, rfl⟩
          have hf := lt_at e_35_8 hf
          refine lv_iinc (v := x5_35_7) (lv' := [(5, .int x5_35_7), (0, .ref (b 0)), (3, .ref (b (1 + 6 + 1 + 4 * ix x1))), (4, .int x4_35), (6, .int x6_35)]) C0.1 C0.2.1 dX9_frogsBefore_59 hl (k := 3) rfl (by rw [e_35_8]; rfl) (by decide) rfl (fun ls hl => ?_)
          obtain ⟨x6_35_9, e_35_10⟩ : ∃ z : Int32, z = x6_35 + 1 := ⟨_, rfl⟩
          have hf := lt_at e_35_10 hf
          refine lv_iinc (v := x6_35_9) (lv' := [(6, .int x6_35_9), (5, .int x5_35_7), (0, .ref (b 0)), (3, .ref (b (1 + 6 + 1 + 4 * ix x1))), (4, .int x4_35)]) C0.1 C0.2.1 dX9_frogsBefore_62 hl (k := 4) rfl (by rw [e_35_10]; rfl) (by decide) rfl (fun ls hl => ?_)
          refine lv_goto (tgt := 35) C0.1 C0.2.1 dX9_frogsBefore_65 (by decide) ?_
          exact ih35 x4_35 x5_35_7 x6_35_9 hf H locs ls hI (lv_sub hl [2, 3, 4, 1, 0] rfl)
  exact L35 n r_11 0 0 hf H locs ls hI (lv_sub hl [4, 3, 2, 1, 0] rfl)


set_option maxHeartbeats 4000000 in
set_option maxRecDepth 100000 in
theorem p_X9_frogsBefore (l : Launch) (g : GG) (X : va_W) (r : Nat → Nat) (b : Nat → Nat) (sz n : Nat) (M : Mem) (x1 : Int32) (x2 : Int32) {r0 : Int32} (hf : F_X9_frogsBefore n x1 x2 M = some (.inr r0)) : Met l yX9_frogsBefore (.code yX9_frogsBefore cX9_frogsBefore 7 (some .int) :: LWg) (rmD 10 0 0) (va_Pc [.ref (b 0), .int x1, .int x2] (PreP g X 372 (shI g r b) b sz M)) (Qi g X 372 (shI g r b) b sz r0 M) 0 0 (AA X b 372 sz) := by
  refine met_go (by decide +kernel) rfl (Nat.le_of_ble_eq_true rfl) ?_
  intro p e s m below meth c ls H locs C0 C1 hr hlocks hnm hsz hl hI
  subst hsz
  have hl : lv_has ls 7 [(0, .ref (b 0)), (1, .int x1), (2, .int x2)] := hl
  unfold F_X9_frogsBefore at hf
  refine lv_aload_n C0.1 C0.2.1 dX9_frogsBefore_0 rfl (lv_at hl 0 rfl) ?_
  refine r_get (C := RX9) (T := TX9) (N9 := 11) (ci := 10) C0 C1 hI iX9 rfl 0 0 (kdlt0 (rfl : kdI 0 = 0)) (by decide) ((shI_0 (rfl : kdI 0 = 0)) _) rfl rfl w_342 dX9_frogsBefore_1 ?_
  refine lv_iload_n C0.1 C0.2.1 dX9_frogsBefore_4 rfl (lv_at hl 1 rfl) ?_
  refine lv_iload_n C0.1 C0.2.1 dX9_frogsBefore_5 rfl (lv_at hl 2 rfl) ?_
  obtain ⟨r_2, h_1, hf⟩ := ob_some hf
  refine k_e C1 hI (q_VN C0 C1 hI 1 (c_X2_refusalToUnlist l g X r b H.size n M 1 (rfl : kdI 1 = 1) x1 x2 h_1) 51 rfl w_1334 w_55 w_72 w_1335 ⟨rfl, rfl⟩ hd_X2_refusalToUnlist ⟨Nat.le_of_ble_eq_true rfl, Nat.le_of_ble_eq_true rfl⟩ (kdlt1 (rfl : kdI 1 = 1)) ((shI_1 (rfl : kdI 1 = 1)) _) rfl rfl rfl hl.1 rfl (Nat.le_of_ble_eq_true rfl) dX9_frogsBefore_6 ⟨Nat.le_of_ble_eq_true rfl, Nat.le_of_ble_eq_true rfl⟩) (fun H locs hI => ?_)
  obtain ⟨u_5, h_4, hf⟩ := obx_p hf
  refine k_v C1 hI (q_S C0 C1 hI (p_X9_refuse l g X r b H.size n M r_2 h_4) w_423 w_424 w_71 w_425 ⟨rfl, rfl⟩ hd_X9_refuse ⟨Nat.le_of_ble_eq_true rfl, Nat.le_of_ble_eq_true rfl⟩ rfl hl.1 rfl (Nat.le_of_ble_eq_true rfl) dX9_frogsBefore_9 ⟨Nat.le_of_ble_eq_true rfl, Nat.le_of_ble_eq_true rfl⟩) (fun H locs hI => ?_)
  refine lv_aload_n C0.1 C0.2.1 dX9_frogsBefore_12 rfl (lv_at hl 0 rfl) ?_
  refine r_get (C := RX9) (T := TX9) (N9 := 11) (ci := 10) C0 C1 hI iX9 rfl 0 0 (kdlt0 (rfl : kdI 0 = 0)) (by decide) ((shI_0 (rfl : kdI 0 = 0)) _) rfl rfl w_342 dX9_frogsBefore_13 ?_
  refine r_getN (C := RX2) (T := TX2) (N9 := 12) (ci := 4) C0 C1 hI iX2 rfl 1 9 (kdlt1 (rfl : kdI 1 = 1)) (by decide) ((shI_1 (rfl : kdI 1 = 1)) _) rfl rfl 29 rfl dX9_frogsBefore_16 ?_
  refine lv_iload_n C0.1 C0.2.1 dX9_frogsBefore_19 rfl (lv_at hl 1 rfl) ?_
  obtain ⟨h_6, hf⟩ := chk_some hf
  refine r_aald (t0 := 1) C0 C1 hI (1 + 6) (kdlt4 (kd1_6 (rfl : kdI 1 = 1))) (shI_4 (kd1_6 (rfl : kdI 1 = 1))) rfl h_6 rfl dX9_frogsBefore_20 ?_
  refine lv_astore_n (lv' := [(3, .ref (b (1 + 6 + 1 + 4 * ix x1))), (0, .ref (b 0)), (1, .int x1), (2, .int x2)]) C0.1 C0.2.1 dX9_frogsBefore_21 rfl hl (by decide) rfl (fun ls hl => ?_)
  refine lv_aload_n C0.1 C0.2.1 dX9_frogsBefore_22 rfl (lv_at hl 0 rfl) ?_
  refine lv_iload_n C0.1 C0.2.1 dX9_frogsBefore_23 rfl (lv_at hl 3 rfl) ?_
  obtain ⟨r_8, h_7, hf⟩ := ob_some hf
  refine k_i C1 hI (q_VN C0 C1 hI (1 + 6 + 1 + 4 * ix x1) (c_X6_placeOf l g X r b H.size n M (1 + 6 + 1 + 4 * ix x1) (kd4_i (kd1_6 (rfl : kdI 1 = 1)) h_6) x2 h_7) 60 rfl w_860 w_36 w_73 w_861 ⟨rfl, rfl⟩ hd_X6_placeOf ⟨Nat.le_of_ble_eq_true rfl, Nat.le_of_ble_eq_true rfl⟩ (kdlt5 (kd4_i (kd1_6 (rfl : kdI 1 = 1)) h_6)) ((shI_5 (kd4_i (kd1_6 (rfl : kdI 1 = 1)) h_6)) _) rfl rfl rfl hl.1 rfl (Nat.le_of_ble_eq_true rfl) dX9_frogsBefore_24 ⟨Nat.le_of_ble_eq_true rfl, Nat.le_of_ble_eq_true rfl⟩) (fun H locs hI => ?_)
  refine lv_istore (lv' := [(4, .int r_8), (3, .ref (b (1 + 6 + 1 + 4 * ix x1))), (0, .ref (b 0)), (1, .int x1), (2, .int x2)]) C0.1 C0.2.1 dX9_frogsBefore_27 hl (by decide) rfl (fun ls hl => ?_)
  refine lv_iconst (v := 0) C0.1 C0.2.1 dX9_frogsBefore_29 (by decide) ?_
  refine lv_istore (lv' := [(5, .int 0), (4, .int r_8), (3, .ref (b (1 + 6 + 1 + 4 * ix x1))), (0, .ref (b 0)), (1, .int x1), (2, .int x2)]) C0.1 C0.2.1 dX9_frogsBefore_30 hl (by decide) rfl (fun ls hl => ?_)
  refine lv_iconst (v := 0) C0.1 C0.2.1 dX9_frogsBefore_32 (by decide) ?_
  refine lv_istore (lv' := [(6, .int 0), (5, .int 0), (4, .int r_8), (3, .ref (b (1 + 6 + 1 + 4 * ix x1))), (0, .ref (b 0)), (1, .int x1), (2, .int x2)]) C0.1 C0.2.1 dX9_frogsBefore_33 hl (by decide) rfl (fun ls hl => ?_)
  have L35 : ∀ (k35 : Nat) (x4_35 : Int32) (x5_35 : Int32) (x6_35 : Int32), F_X9_frogsBefore_L35 n x1 M k35 x4_35 x5_35 x6_35 = some (.inr r0) → ∀ (H : Heap) (locs : List Loc) (ls : Array Slot), PI g X 372 (shI g r b) b s M H locs → lv_has ls 7 [(0, .ref (b 0)), (3, .ref (b (1 + 6 + 1 + 4 * ix x1))), (4, .int x4_35), (5, .int x5_35), (6, .int x6_35)] → W p l e (rmD 10 0 0) s m ([.ref (b 0), .int x1, .int x2] : List Value).toArray below meth c H locs 0 0 (MQ below (Qi g X 372 (shI g r b) b s.heap.size r0 M) ([.ref (b 0), .int x1, .int x2] : List Value).toArray s 0 0 (AA X b 372 s.heap.size)) (F0 m 35 ls []) := by
    intro k35
    induction k35 with
    | zero => intro x4_35 x5_35 x6_35 hf; exact absurd (show (none : Option (RX Int32)) = some (.inr r0) from hf) (fun h => by cases h)
    | succ k35 ih35 =>
      intro x4_35 x5_35 x6_35 hf H locs ls hI hl
      unfold F_X9_frogsBefore_L35 at hf
      refine lv_iload C0.1 C0.2.1 dX9_frogsBefore_35 (lv_at hl 4 rfl) ?_
      refine lv_aload_n C0.1 C0.2.1 dX9_frogsBefore_37 rfl (lv_at hl 1 rfl) ?_
      refine r_getN (C := RX6) (T := TX6) (N9 := 12) (ci := 8) C0 C1 hI iX6 rfl (1 + 6 + 1 + 4 * ix x1) 2 (kdlt5 (kd4_i (kd1_6 (rfl : kdI 1 = 1)) h_6)) (by decide) ((shI_5 (kd4_i (kd1_6 (rfl : kdI 1 = 1)) h_6)) _) rfl rfl 3 rfl dX9_frogsBefore_38 ?_
      refine lv_icmp_ge (tgt := 68) C0.1 C0.2.1 dX9_frogsBefore_41 (by decide) (fun c_35_1 => ?_) (fun c_35_1 => ?_)
      · have hf := (if_pos c_35_1).symm.trans hf
        refine lv_iload C0.1 C0.2.1 dX9_frogsBefore_68 (lv_at hl 3 rfl) ?_
        exact ep_z C0 hI hr hlocks rfl hf dX9_frogsBefore_70
      · have hf := (if_neg c_35_1).symm.trans hf
        refine lv_aload_n C0.1 C0.2.1 dX9_frogsBefore_44 rfl (lv_at hl 0 rfl) ?_
        refine r_get (C := RX9) (T := TX9) (N9 := 11) (ci := 10) C0 C1 hI iX9 rfl 0 0 (kdlt0 (rfl : kdI 0 = 0)) (by decide) ((shI_0 (rfl : kdI 0 = 0)) _) rfl rfl w_342 dX9_frogsBefore_45 ?_
        refine lv_aload_n C0.1 C0.2.1 dX9_frogsBefore_48 rfl (lv_at hl 1 rfl) ?_
        refine lv_iload C0.1 C0.2.1 dX9_frogsBefore_49 (lv_at hl 4 rfl) ?_
        refine lv_iload C0.1 C0.2.1 dX9_frogsBefore_51 (lv_at hl 2 rfl) ?_
        obtain ⟨r_35_3, h_35_2, hf⟩ := ob_some hf
        refine k_i C1 hI (q_VN C0 C1 hI 1 (c_X2_isCalledBefore l g X r b H.size n M 1 (rfl : kdI 1 = 1) (1 + 6 + 1 + 4 * ix x1) (kd4_i (kd1_6 (rfl : kdI 1 = 1)) h_6) x6_35 x4_35 h_35_2) 61 rfl w_632 w_12 w_72 w_633 ⟨rfl, rfl⟩ hd_X2_isCalledBefore ⟨Nat.le_of_ble_eq_true rfl, Nat.le_of_ble_eq_true rfl⟩ (kdlt1 (rfl : kdI 1 = 1)) ((shI_1 (rfl : kdI 1 = 1)) _) rfl rfl rfl hl.1 rfl (Nat.le_of_ble_eq_true rfl) dX9_frogsBefore_53 ⟨Nat.le_of_ble_eq_true rfl, Nat.le_of_ble_eq_true rfl⟩) (fun H locs hI => ?_)
        refine lv_if_eq (tgt := 62) C0.1 C0.2.1 dX9_frogsBefore_56 (by decide) (fun c_35_4 => ?_) (fun c_35_4 => ?_)
        · have hf := (if_pos c_35_4).symm.trans hf
          obtain ⟨x6_35_5, e_35_6⟩ : ∃ z : Int32, z = x6_35 + 1 := ⟨_, rfl⟩
          have hf := lt_at e_35_6 hf
          refine lv_iinc (v := x6_35_5) (lv' := [(6, .int x6_35_5), (0, .ref (b 0)), (3, .ref (b (1 + 6 + 1 + 4 * ix x1))), (4, .int x4_35), (5, .int x5_35)]) C0.1 C0.2.1 dX9_frogsBefore_62 hl (k := 4) rfl (by rw [e_35_6]; rfl) (by decide) rfl (fun ls hl => ?_)
          refine lv_goto (tgt := 35) C0.1 C0.2.1 dX9_frogsBefore_65 (by decide) ?_
          exact ih35 x4_35 x5_35 x6_35_5 hf H locs ls hI (lv_sub hl [1, 2, 3, 4, 0] rfl)
        · have hf := (if_neg c_35_4).symm.trans hf
          obtain ⟨x5_35_7, e_35_8⟩ : ∃ z : Int32, z = x5_35 + 1 := ⟨_, rfl⟩
          have hf := lt_at e_35_8 hf
          refine lv_iinc (v := x5_35_7) (lv' := [(5, .int x5_35_7), (0, .ref (b 0)), (3, .ref (b (1 + 6 + 1 + 4 * ix x1))), (4, .int x4_35), (6, .int x6_35)]) C0.1 C0.2.1 dX9_frogsBefore_59 hl (k := 3) rfl (by rw [e_35_8]; rfl) (by decide) rfl (fun ls hl => ?_)
          obtain ⟨x6_35_9, e_35_10⟩ : ∃ z : Int32, z = x6_35 + 1 := ⟨_, rfl⟩
          have hf := lt_at e_35_10 hf
          refine lv_iinc (v := x6_35_9) (lv' := [(6, .int x6_35_9), (5, .int x5_35_7), (0, .ref (b 0)), (3, .ref (b (1 + 6 + 1 + 4 * ix x1))), (4, .int x4_35)]) C0.1 C0.2.1 dX9_frogsBefore_62 hl (k := 4) rfl (by rw [e_35_10]; rfl) (by decide) rfl (fun ls hl => ?_)
          refine lv_goto (tgt := 35) C0.1 C0.2.1 dX9_frogsBefore_65 (by decide) ?_
          exact ih35 x4_35 x5_35_7 x6_35_9 hf H locs ls hI (lv_sub hl [2, 3, 4, 1, 0] rfl)
  exact L35 n r_8 0 0 hf H locs ls hI (lv_sub hl [4, 3, 2, 1, 0] rfl)

def F_X9_speeches (n : Nat) (x1 : Int32) (M : Mem) : Option (RX Int32) :=
  obx (F_X9_requireFrog n x1 M) (fun u_3 => chk (inb x1 12) (some (.inr (M (1 + 4) (ix x1)))))
theorem hd_X9_speeches : yX9_speeches.cls ≠ "java/lang/invoke/MethodHandle" ∧ yX9_speeches.cls ≠ "java/lang/invoke/VarHandle" ∧ (parseMethodDescriptor yX9_speeches.desc).map (fun d => d.parameters.length) = some 1 := ⟨by decide +kernel, by decide +kernel, by decide +kernel⟩
set_option maxHeartbeats 4000000 in
set_option maxRecDepth 100000 in
theorem c_X9_speeches (l : Launch) (hl0 : l.stackTraces = false) (g : GG) (X : va_W) (r : Nat → Nat) (b : Nat → Nat) (sz n : Nat) (M : Mem) (x1 : Int32) {q0 : RX Int32} (hf : F_X9_speeches n x1 M = some q0) : vx_Met l yX9_speeches (.code yX9_speeches cX9_speeches 2 (some .int) :: LWg) (rmD 11 1 6) (va_Pc [.ref (b 0), .int x1] (PreP g X 372 (shI g r b) b sz M)) (QiX g X 372 (shI g r b) b sz q0 M) (XcX g X 372 (shI g r b) b sz q0 M) 1 6 (AA X b 372 sz) := by
  refine metx_go (by decide +kernel) rfl (Nat.le_of_ble_eq_true rfl) ?_
  intro p e s m below meth c ls H locs C0 C1 hr hlocks hno hsz hl hI
  subst hsz
  have hl : lv_has ls 2 [(0, .ref (b 0)), (1, .int x1)] := hl
  unfold F_X9_speeches at hf
  refine lv_aload_n C0.1 C0.2.1 dX9_speeches_0 rfl (lv_at hl 0 rfl) ?_
  refine lv_iload_n C0.1 C0.2.1 dX9_speeches_1 rfl (lv_at hl 1 rfl) ?_
  obtain ⟨q_4, h_2, h_5, h_6⟩ := obx_x hf
  refine kx_v C1 hI (qx_V C0 C1 hI 0 (c_X9_requireFrog l hl0 g X r b H.size n M x1 h_2) w_1522 w_1524 w_68 w_71 w_1525 ⟨rfl, rfl⟩ hd_X9_requireFrog ⟨Nat.le_of_ble_eq_true rfl, Nat.le_of_ble_eq_true rfl⟩ (kdlt0 (rfl : kdI 0 = 0)) ((shI_0 (rfl : kdI 0 = 0)) _) rfl rfl rfl hl.1 rfl (Nat.le_of_ble_eq_true rfl) dX9_speeches_2 ⟨Nat.le_of_ble_eq_true rfl, Nat.le_of_ble_eq_true rfl⟩) (fun k H locs ce q9 e1 hI g1 g2 g3 => x_out hno hlocks hI g1 g2 g3 (h_5 k e1) (Nat.le_of_ble_eq_true rfl) (Nat.le_of_ble_eq_true rfl)) (fun u_3 H locs e1 hI => ?_)
  have hf := h_6 u_3 e1
  refine lv_aload_n C0.1 C0.2.1 dX9_speeches_5 rfl (lv_at hl 0 rfl) ?_
  refine r_get (C := RX9) (T := TX9) (N9 := 11) (ci := 10) C0 C1 hI iX9 rfl 0 0 (kdlt0 (rfl : kdI 0 = 0)) (by decide) ((shI_0 (rfl : kdI 0 = 0)) _) rfl rfl w_342 dX9_speeches_6 ?_
  refine r_getN (C := RX2) (T := TX2) (N9 := 12) (ci := 4) C0 C1 hI iX2 rfl 1 4 (kdlt1 (rfl : kdI 1 = 1)) (by decide) ((shI_1 (rfl : kdI 1 = 1)) _) rfl rfl 25 rfl dX9_speeches_9 ?_
  refine lv_iload_n C0.1 C0.2.1 dX9_speeches_12 rfl (lv_at hl 1 rfl) ?_
  obtain ⟨h_7, hf⟩ := chk_some hf
  refine r_iald C0 C1 hI (1 + 4) (kdlt2 (kd1_4 (rfl : kdI 1 = 1))) (shI_2 (kd1_4 (rfl : kdI 1 = 1))) h_7 dX9_speeches_13 ?_
  exact ex_z C0 hI hr hlocks rfl hf dX9_speeches_14


set_option maxHeartbeats 4000000 in
set_option maxRecDepth 100000 in
theorem p_X9_speeches (l : Launch) (g : GG) (X : va_W) (r : Nat → Nat) (b : Nat → Nat) (sz n : Nat) (M : Mem) (x1 : Int32) {r0 : Int32} (hf : F_X9_speeches n x1 M = some (.inr r0)) : Met l yX9_speeches (.code yX9_speeches cX9_speeches 2 (some .int) :: LWg) (rmD 11 0 0) (va_Pc [.ref (b 0), .int x1] (PreP g X 372 (shI g r b) b sz M)) (Qi g X 372 (shI g r b) b sz r0 M) 0 0 (AA X b 372 sz) := by
  refine met_go (by decide +kernel) rfl (Nat.le_of_ble_eq_true rfl) ?_
  intro p e s m below meth c ls H locs C0 C1 hr hlocks hnm hsz hl hI
  subst hsz
  have hl : lv_has ls 2 [(0, .ref (b 0)), (1, .int x1)] := hl
  unfold F_X9_speeches at hf
  refine lv_aload_n C0.1 C0.2.1 dX9_speeches_0 rfl (lv_at hl 0 rfl) ?_
  refine lv_iload_n C0.1 C0.2.1 dX9_speeches_1 rfl (lv_at hl 1 rfl) ?_
  obtain ⟨u_3, h_2, hf⟩ := obx_p hf
  refine k_v C1 hI (q_V C0 C1 hI 0 (p_X9_requireFrog l g X r b H.size n M x1 h_2) w_1522 w_1524 w_68 w_71 w_1525 ⟨rfl, rfl⟩ hd_X9_requireFrog ⟨Nat.le_of_ble_eq_true rfl, Nat.le_of_ble_eq_true rfl⟩ (kdlt0 (rfl : kdI 0 = 0)) ((shI_0 (rfl : kdI 0 = 0)) _) rfl rfl rfl hl.1 rfl (Nat.le_of_ble_eq_true rfl) dX9_speeches_2 ⟨Nat.le_of_ble_eq_true rfl, Nat.le_of_ble_eq_true rfl⟩) (fun H locs hI => ?_)
  refine lv_aload_n C0.1 C0.2.1 dX9_speeches_5 rfl (lv_at hl 0 rfl) ?_
  refine r_get (C := RX9) (T := TX9) (N9 := 11) (ci := 10) C0 C1 hI iX9 rfl 0 0 (kdlt0 (rfl : kdI 0 = 0)) (by decide) ((shI_0 (rfl : kdI 0 = 0)) _) rfl rfl w_342 dX9_speeches_6 ?_
  refine r_getN (C := RX2) (T := TX2) (N9 := 12) (ci := 4) C0 C1 hI iX2 rfl 1 4 (kdlt1 (rfl : kdI 1 = 1)) (by decide) ((shI_1 (rfl : kdI 1 = 1)) _) rfl rfl 25 rfl dX9_speeches_9 ?_
  refine lv_iload_n C0.1 C0.2.1 dX9_speeches_12 rfl (lv_at hl 1 rfl) ?_
  obtain ⟨h_4, hf⟩ := chk_some hf
  refine r_iald C0 C1 hI (1 + 4) (kdlt2 (kd1_4 (rfl : kdI 1 = 1))) (shI_2 (kd1_4 (rfl : kdI 1 = 1))) h_4 dX9_speeches_13 ?_
  exact ep_z C0 hI hr hlocks rfl hf dX9_speeches_14

def F_X9_speechesOn (n : Nat) (x1 : Int32) (M : Mem) : Option (RX Int32) :=
  obx (F_X9_requireMotion n x1 M) (fun u_3 => chk (inb x1 6) (some (.inr (M (1 + 6 + 1 + 4 * ix x1) 11))))
theorem hd_X9_speechesOn : yX9_speechesOn.cls ≠ "java/lang/invoke/MethodHandle" ∧ yX9_speechesOn.cls ≠ "java/lang/invoke/VarHandle" ∧ (parseMethodDescriptor yX9_speechesOn.desc).map (fun d => d.parameters.length) = some 1 := ⟨by decide +kernel, by decide +kernel, by decide +kernel⟩
set_option maxHeartbeats 4000000 in
set_option maxRecDepth 100000 in
theorem c_X9_speechesOn (l : Launch) (hl0 : l.stackTraces = false) (g : GG) (X : va_W) (r : Nat → Nat) (b : Nat → Nat) (sz n : Nat) (M : Mem) (x1 : Int32) {q0 : RX Int32} (hf : F_X9_speechesOn n x1 M = some q0) : vx_Met l yX9_speechesOn (.code yX9_speechesOn cX9_speechesOn 2 (some .int) :: LWg) (rmD 11 1 6) (va_Pc [.ref (b 0), .int x1] (PreP g X 372 (shI g r b) b sz M)) (QiX g X 372 (shI g r b) b sz q0 M) (XcX g X 372 (shI g r b) b sz q0 M) 1 6 (AA X b 372 sz) := by
  refine metx_go (by decide +kernel) rfl (Nat.le_of_ble_eq_true rfl) ?_
  intro p e s m below meth c ls H locs C0 C1 hr hlocks hno hsz hl hI
  subst hsz
  have hl : lv_has ls 2 [(0, .ref (b 0)), (1, .int x1)] := hl
  unfold F_X9_speechesOn at hf
  refine lv_aload_n C0.1 C0.2.1 dX9_speechesOn_0 rfl (lv_at hl 0 rfl) ?_
  refine lv_iload_n C0.1 C0.2.1 dX9_speechesOn_1 rfl (lv_at hl 1 rfl) ?_
  obtain ⟨q_4, h_2, h_5, h_6⟩ := obx_x hf
  refine kx_v C1 hI (qx_V C0 C1 hI 0 (c_X9_requireMotion l hl0 g X r b H.size n M x1 h_2) w_411 w_413 w_2 w_71 w_414 ⟨rfl, rfl⟩ hd_X9_requireMotion ⟨Nat.le_of_ble_eq_true rfl, Nat.le_of_ble_eq_true rfl⟩ (kdlt0 (rfl : kdI 0 = 0)) ((shI_0 (rfl : kdI 0 = 0)) _) rfl rfl rfl hl.1 rfl (Nat.le_of_ble_eq_true rfl) dX9_speechesOn_2 ⟨Nat.le_of_ble_eq_true rfl, Nat.le_of_ble_eq_true rfl⟩) (fun k H locs ce q9 e1 hI g1 g2 g3 => x_out hno hlocks hI g1 g2 g3 (h_5 k e1) (Nat.le_of_ble_eq_true rfl) (Nat.le_of_ble_eq_true rfl)) (fun u_3 H locs e1 hI => ?_)
  have hf := h_6 u_3 e1
  refine lv_aload_n C0.1 C0.2.1 dX9_speechesOn_5 rfl (lv_at hl 0 rfl) ?_
  refine r_get (C := RX9) (T := TX9) (N9 := 11) (ci := 10) C0 C1 hI iX9 rfl 0 0 (kdlt0 (rfl : kdI 0 = 0)) (by decide) ((shI_0 (rfl : kdI 0 = 0)) _) rfl rfl w_342 dX9_speechesOn_6 ?_
  refine r_getN (C := RX2) (T := TX2) (N9 := 12) (ci := 4) C0 C1 hI iX2 rfl 1 9 (kdlt1 (rfl : kdI 1 = 1)) (by decide) ((shI_1 (rfl : kdI 1 = 1)) _) rfl rfl 29 rfl dX9_speechesOn_9 ?_
  refine lv_iload_n C0.1 C0.2.1 dX9_speechesOn_12 rfl (lv_at hl 1 rfl) ?_
  obtain ⟨h_7, hf⟩ := chk_some hf
  refine r_aald (t0 := 1) C0 C1 hI (1 + 6) (kdlt4 (kd1_6 (rfl : kdI 1 = 1))) (shI_4 (kd1_6 (rfl : kdI 1 = 1))) rfl h_7 rfl dX9_speechesOn_13 ?_
  refine r_getN (C := RX6) (T := TX6) (N9 := 12) (ci := 8) C0 C1 hI iX6 rfl (1 + 6 + 1 + 4 * ix x1) 11 (kdlt5 (kd4_i (kd1_6 (rfl : kdI 1 = 1)) h_7)) (by decide) ((shI_5 (kd4_i (kd1_6 (rfl : kdI 1 = 1)) h_7)) _) rfl rfl 19 rfl dX9_speechesOn_14 ?_
  exact ex_z C0 hI hr hlocks rfl hf dX9_speechesOn_17


set_option maxHeartbeats 4000000 in
set_option maxRecDepth 100000 in
theorem p_X9_speechesOn (l : Launch) (g : GG) (X : va_W) (r : Nat → Nat) (b : Nat → Nat) (sz n : Nat) (M : Mem) (x1 : Int32) {r0 : Int32} (hf : F_X9_speechesOn n x1 M = some (.inr r0)) : Met l yX9_speechesOn (.code yX9_speechesOn cX9_speechesOn 2 (some .int) :: LWg) (rmD 11 0 0) (va_Pc [.ref (b 0), .int x1] (PreP g X 372 (shI g r b) b sz M)) (Qi g X 372 (shI g r b) b sz r0 M) 0 0 (AA X b 372 sz) := by
  refine met_go (by decide +kernel) rfl (Nat.le_of_ble_eq_true rfl) ?_
  intro p e s m below meth c ls H locs C0 C1 hr hlocks hnm hsz hl hI
  subst hsz
  have hl : lv_has ls 2 [(0, .ref (b 0)), (1, .int x1)] := hl
  unfold F_X9_speechesOn at hf
  refine lv_aload_n C0.1 C0.2.1 dX9_speechesOn_0 rfl (lv_at hl 0 rfl) ?_
  refine lv_iload_n C0.1 C0.2.1 dX9_speechesOn_1 rfl (lv_at hl 1 rfl) ?_
  obtain ⟨u_3, h_2, hf⟩ := obx_p hf
  refine k_v C1 hI (q_V C0 C1 hI 0 (p_X9_requireMotion l g X r b H.size n M x1 h_2) w_411 w_413 w_2 w_71 w_414 ⟨rfl, rfl⟩ hd_X9_requireMotion ⟨Nat.le_of_ble_eq_true rfl, Nat.le_of_ble_eq_true rfl⟩ (kdlt0 (rfl : kdI 0 = 0)) ((shI_0 (rfl : kdI 0 = 0)) _) rfl rfl rfl hl.1 rfl (Nat.le_of_ble_eq_true rfl) dX9_speechesOn_2 ⟨Nat.le_of_ble_eq_true rfl, Nat.le_of_ble_eq_true rfl⟩) (fun H locs hI => ?_)
  refine lv_aload_n C0.1 C0.2.1 dX9_speechesOn_5 rfl (lv_at hl 0 rfl) ?_
  refine r_get (C := RX9) (T := TX9) (N9 := 11) (ci := 10) C0 C1 hI iX9 rfl 0 0 (kdlt0 (rfl : kdI 0 = 0)) (by decide) ((shI_0 (rfl : kdI 0 = 0)) _) rfl rfl w_342 dX9_speechesOn_6 ?_
  refine r_getN (C := RX2) (T := TX2) (N9 := 12) (ci := 4) C0 C1 hI iX2 rfl 1 9 (kdlt1 (rfl : kdI 1 = 1)) (by decide) ((shI_1 (rfl : kdI 1 = 1)) _) rfl rfl 29 rfl dX9_speechesOn_9 ?_
  refine lv_iload_n C0.1 C0.2.1 dX9_speechesOn_12 rfl (lv_at hl 1 rfl) ?_
  obtain ⟨h_4, hf⟩ := chk_some hf
  refine r_aald (t0 := 1) C0 C1 hI (1 + 6) (kdlt4 (kd1_6 (rfl : kdI 1 = 1))) (shI_4 (kd1_6 (rfl : kdI 1 = 1))) rfl h_4 rfl dX9_speechesOn_13 ?_
  refine r_getN (C := RX6) (T := TX6) (N9 := 12) (ci := 8) C0 C1 hI iX6 rfl (1 + 6 + 1 + 4 * ix x1) 11 (kdlt5 (kd4_i (kd1_6 (rfl : kdI 1 = 1)) h_4)) (by decide) ((shI_5 (kd4_i (kd1_6 (rfl : kdI 1 = 1)) h_4)) _) rfl rfl 19 rfl dX9_speechesOn_14 ?_
  exact ep_z C0 hI hr hlocks rfl hf dX9_speechesOn_17

def F_X9_frogAtRank_L2 (n : Nat) (M : Mem) : Nat → Int32 → Int32 → Option (RX Int32)
  | 0, _, _ => none
  | k2 + 1, x1_2, x2_2 =>
    (if (M 1 0) ≤ x2_2 then some (.inl 5) else ob (F_X2_countRankedBefore n 1 x2_2 M) (fun r_2_3 => (if r_2_3 = x1_2 then some (.inr x2_2) else lt' (x2_2 + 1) (fun x2_2_5 => F_X9_frogAtRank_L2 n M k2 x1_2 x2_2_5))))
def F_X9_frogAtRank (n : Nat) (x1 : Int32) (M : Mem) : Option (RX Int32) :=
  F_X9_frogAtRank_L2 n M n x1 0
theorem hd_X9_frogAtRank : yX9_frogAtRank.cls ≠ "java/lang/invoke/MethodHandle" ∧ yX9_frogAtRank.cls ≠ "java/lang/invoke/VarHandle" ∧ (parseMethodDescriptor yX9_frogAtRank.desc).map (fun d => d.parameters.length) = some 1 := ⟨by decide +kernel, by decide +kernel, by decide +kernel⟩
set_option maxHeartbeats 4000000 in
set_option maxRecDepth 100000 in
theorem c_X9_frogAtRank (l : Launch) (hl0 : l.stackTraces = false) (g : GG) (X : va_W) (r : Nat → Nat) (b : Nat → Nat) (sz n : Nat) (M : Mem) (x1 : Int32) {q0 : RX Int32} (hf : F_X9_frogAtRank n x1 M = some q0) : vx_Met l yX9_frogAtRank (.code yX9_frogAtRank cX9_frogAtRank 3 (some .int) :: LWg) (rmD 8 1 6) (va_Pc [.ref (b 0), .int x1] (PreP g X 372 (shI g r b) b sz M)) (QiX g X 372 (shI g r b) b sz q0 M) (XcX g X 372 (shI g r b) b sz q0 M) 1 6 (AA X b 372 sz) := by
  refine metx_go (by decide +kernel) rfl (Nat.le_of_ble_eq_true rfl) ?_
  intro p e s m below meth c ls H locs C0 C1 hr hlocks hno hsz hl hI
  subst hsz
  have hl : lv_has ls 3 [(0, .ref (b 0)), (1, .int x1)] := hl
  unfold F_X9_frogAtRank at hf
  refine lv_iconst (v := 0) C0.1 C0.2.1 dX9_frogAtRank_0 (by decide) ?_
  refine lv_istore_n (lv' := [(2, .int 0), (0, .ref (b 0)), (1, .int x1)]) C0.1 C0.2.1 dX9_frogAtRank_1 rfl hl (by decide) rfl (fun ls hl => ?_)
  have L2 : ∀ (k2 : Nat) (x1_2 : Int32) (x2_2 : Int32), F_X9_frogAtRank_L2 n M k2 x1_2 x2_2 = some q0 → ∀ (H : Heap) (locs : List Loc) (ls : Array Slot), PI g X 372 (shI g r b) b s M H locs → lv_has ls 3 [(0, .ref (b 0)), (1, .int x1_2), (2, .int x2_2)] → W p l e (rmD 8 1 6) s m ([.ref (b 0), .int x1] : List Value).toArray below meth c H locs 0 0 (vx_MQ below (QiX g X 372 (shI g r b) b s.heap.size q0 M) (XcX g X 372 (shI g r b) b s.heap.size q0 M) ([.ref (b 0), .int x1] : List Value).toArray s 1 6 (AA X b 372 s.heap.size)) (F0 m 2 ls []) := by
    intro k2
    induction k2 with
    | zero => intro x1_2 x2_2 hf; exact absurd (show (none : Option (RX Int32)) = some q0 from hf) (fun h => by cases h)
    | succ k2 ih2 =>
      intro x1_2 x2_2 hf H locs ls hI hl
      unfold F_X9_frogAtRank_L2 at hf
      refine lv_iload_n C0.1 C0.2.1 dX9_frogAtRank_2 rfl (lv_at hl 2 rfl) ?_
      refine lv_aload_n C0.1 C0.2.1 dX9_frogAtRank_3 rfl (lv_at hl 0 rfl) ?_
      refine r_get (C := RX9) (T := TX9) (N9 := 11) (ci := 10) C0 C1 hI iX9 rfl 0 0 (kdlt0 (rfl : kdI 0 = 0)) (by decide) ((shI_0 (rfl : kdI 0 = 0)) _) rfl rfl w_342 dX9_frogAtRank_4 ?_
      refine r_getN (C := RX2) (T := TX2) (N9 := 12) (ci := 4) C0 C1 hI iX2 rfl 1 0 (kdlt1 (rfl : kdI 1 = 1)) (by decide) ((shI_1 (rfl : kdI 1 = 1)) _) rfl rfl 21 rfl dX9_frogAtRank_7 ?_
      refine lv_icmp_ge (tgt := 33) C0.1 C0.2.1 dX9_frogAtRank_10 (by decide) (fun c_2_1 => ?_) (fun c_2_1 => ?_)
      · have hf := (if_pos c_2_1).symm.trans hf
        exact r_throwSN C0 C1 hI hl0 hl.1 hno hlocks (E := 5) (sk := 21) rfl (by decide +kernel) (by decide +kernel) nzY nz0 nz1 nz2 nz5 w_572 w_89 at_NSE ag_NSE dX9_frogAtRank_33 dX9_frogAtRank_36 dX9_frogAtRank_37 dX9_frogAtRank_39 dX9_frogAtRank_42 (Nat.le_of_ble_eq_true rfl) (Nat.le_of_ble_eq_true rfl) (Nat.le_of_ble_eq_true rfl) (Nat.le_of_ble_eq_true rfl) hf (Nat.le_of_ble_eq_true rfl) (Nat.le_of_ble_eq_true rfl)
      · have hf := (if_neg c_2_1).symm.trans hf
        refine lv_aload_n C0.1 C0.2.1 dX9_frogAtRank_13 rfl (lv_at hl 0 rfl) ?_
        refine r_get (C := RX9) (T := TX9) (N9 := 11) (ci := 10) C0 C1 hI iX9 rfl 0 0 (kdlt0 (rfl : kdI 0 = 0)) (by decide) ((shI_0 (rfl : kdI 0 = 0)) _) rfl rfl w_342 dX9_frogAtRank_14 ?_
        refine lv_iload_n C0.1 C0.2.1 dX9_frogAtRank_17 rfl (lv_at hl 2 rfl) ?_
        obtain ⟨r_2_3, h_2_2, hf⟩ := ob_some hf
        refine k_i C1 hI (q_VN C0 C1 hI 1 (c_X2_countRankedBefore l g X r b H.size n M 1 (rfl : kdI 1 = 1) x2_2 h_2_2) 36 rfl w_898 w_41 w_72 w_899 ⟨rfl, rfl⟩ hd_X2_countRankedBefore ⟨Nat.le_of_ble_eq_true rfl, Nat.le_of_ble_eq_true rfl⟩ (kdlt1 (rfl : kdI 1 = 1)) ((shI_1 (rfl : kdI 1 = 1)) _) rfl rfl rfl hl.1 rfl (Nat.le_of_ble_eq_true rfl) dX9_frogAtRank_18 ⟨Nat.le_of_ble_eq_true rfl, Nat.le_of_ble_eq_true rfl⟩) (fun H locs hI => ?_)
        refine lv_iload_n C0.1 C0.2.1 dX9_frogAtRank_21 rfl (lv_at hl 1 rfl) ?_
        refine lv_icmp_ne (tgt := 27) C0.1 C0.2.1 dX9_frogAtRank_22 (by decide) (fun c_2_4 => ?_) (fun c_2_4 => ?_)
        · have hf := (if_neg c_2_4).symm.trans hf
          obtain ⟨x2_2_5, e_2_6⟩ : ∃ z : Int32, z = x2_2 + 1 := ⟨_, rfl⟩
          have hf := lt_at e_2_6 hf
          refine lv_iinc (v := x2_2_5) (lv' := [(2, .int x2_2_5), (0, .ref (b 0)), (1, .int x1_2)]) C0.1 C0.2.1 dX9_frogAtRank_27 hl (k := 2) rfl (by rw [e_2_6]; rfl) (by decide) rfl (fun ls hl => ?_)
          refine lv_goto (tgt := 2) C0.1 C0.2.1 dX9_frogAtRank_30 (by decide) ?_
          exact ih2 x1_2 x2_2_5 hf H locs ls hI (lv_sub hl [1, 2, 0] rfl)
        · have hf := (if_pos c_2_4).symm.trans hf
          refine lv_iload_n C0.1 C0.2.1 dX9_frogAtRank_25 rfl (lv_at hl 2 rfl) ?_
          refine W.widen (k := 1) (n := 6) (Nat.le_of_ble_eq_true rfl) (Nat.le_of_ble_eq_true rfl) ?_
          exact ex_z C0 hI hr hlocks rfl hf dX9_frogAtRank_26
  exact L2 n x1 0 hf H locs ls hI (lv_sub hl [1, 2, 0] rfl)


set_option maxHeartbeats 4000000 in
set_option maxRecDepth 100000 in
theorem p_X9_frogAtRank (l : Launch) (g : GG) (X : va_W) (r : Nat → Nat) (b : Nat → Nat) (sz n : Nat) (M : Mem) (x1 : Int32) {r0 : Int32} (hf : F_X9_frogAtRank n x1 M = some (.inr r0)) : Met l yX9_frogAtRank (.code yX9_frogAtRank cX9_frogAtRank 3 (some .int) :: LWg) (rmD 8 0 0) (va_Pc [.ref (b 0), .int x1] (PreP g X 372 (shI g r b) b sz M)) (Qi g X 372 (shI g r b) b sz r0 M) 0 0 (AA X b 372 sz) := by
  refine met_go (by decide +kernel) rfl (Nat.le_of_ble_eq_true rfl) ?_
  intro p e s m below meth c ls H locs C0 C1 hr hlocks hnm hsz hl hI
  subst hsz
  have hl : lv_has ls 3 [(0, .ref (b 0)), (1, .int x1)] := hl
  unfold F_X9_frogAtRank at hf
  refine lv_iconst (v := 0) C0.1 C0.2.1 dX9_frogAtRank_0 (by decide) ?_
  refine lv_istore_n (lv' := [(2, .int 0), (0, .ref (b 0)), (1, .int x1)]) C0.1 C0.2.1 dX9_frogAtRank_1 rfl hl (by decide) rfl (fun ls hl => ?_)
  have L2 : ∀ (k2 : Nat) (x1_2 : Int32) (x2_2 : Int32), F_X9_frogAtRank_L2 n M k2 x1_2 x2_2 = some (.inr r0) → ∀ (H : Heap) (locs : List Loc) (ls : Array Slot), PI g X 372 (shI g r b) b s M H locs → lv_has ls 3 [(0, .ref (b 0)), (1, .int x1_2), (2, .int x2_2)] → W p l e (rmD 8 0 0) s m ([.ref (b 0), .int x1] : List Value).toArray below meth c H locs 0 0 (MQ below (Qi g X 372 (shI g r b) b s.heap.size r0 M) ([.ref (b 0), .int x1] : List Value).toArray s 0 0 (AA X b 372 s.heap.size)) (F0 m 2 ls []) := by
    intro k2
    induction k2 with
    | zero => intro x1_2 x2_2 hf; exact absurd (show (none : Option (RX Int32)) = some (.inr r0) from hf) (fun h => by cases h)
    | succ k2 ih2 =>
      intro x1_2 x2_2 hf H locs ls hI hl
      unfold F_X9_frogAtRank_L2 at hf
      refine lv_iload_n C0.1 C0.2.1 dX9_frogAtRank_2 rfl (lv_at hl 2 rfl) ?_
      refine lv_aload_n C0.1 C0.2.1 dX9_frogAtRank_3 rfl (lv_at hl 0 rfl) ?_
      refine r_get (C := RX9) (T := TX9) (N9 := 11) (ci := 10) C0 C1 hI iX9 rfl 0 0 (kdlt0 (rfl : kdI 0 = 0)) (by decide) ((shI_0 (rfl : kdI 0 = 0)) _) rfl rfl w_342 dX9_frogAtRank_4 ?_
      refine r_getN (C := RX2) (T := TX2) (N9 := 12) (ci := 4) C0 C1 hI iX2 rfl 1 0 (kdlt1 (rfl : kdI 1 = 1)) (by decide) ((shI_1 (rfl : kdI 1 = 1)) _) rfl rfl 21 rfl dX9_frogAtRank_7 ?_
      refine lv_icmp_ge (tgt := 33) C0.1 C0.2.1 dX9_frogAtRank_10 (by decide) (fun c_2_1 => ?_) (fun c_2_1 => ?_)
      · have hf := (if_pos c_2_1).symm.trans hf
        exact nomatch hf
      · have hf := (if_neg c_2_1).symm.trans hf
        refine lv_aload_n C0.1 C0.2.1 dX9_frogAtRank_13 rfl (lv_at hl 0 rfl) ?_
        refine r_get (C := RX9) (T := TX9) (N9 := 11) (ci := 10) C0 C1 hI iX9 rfl 0 0 (kdlt0 (rfl : kdI 0 = 0)) (by decide) ((shI_0 (rfl : kdI 0 = 0)) _) rfl rfl w_342 dX9_frogAtRank_14 ?_
        refine lv_iload_n C0.1 C0.2.1 dX9_frogAtRank_17 rfl (lv_at hl 2 rfl) ?_
        obtain ⟨r_2_3, h_2_2, hf⟩ := ob_some hf
        refine k_i C1 hI (q_VN C0 C1 hI 1 (c_X2_countRankedBefore l g X r b H.size n M 1 (rfl : kdI 1 = 1) x2_2 h_2_2) 36 rfl w_898 w_41 w_72 w_899 ⟨rfl, rfl⟩ hd_X2_countRankedBefore ⟨Nat.le_of_ble_eq_true rfl, Nat.le_of_ble_eq_true rfl⟩ (kdlt1 (rfl : kdI 1 = 1)) ((shI_1 (rfl : kdI 1 = 1)) _) rfl rfl rfl hl.1 rfl (Nat.le_of_ble_eq_true rfl) dX9_frogAtRank_18 ⟨Nat.le_of_ble_eq_true rfl, Nat.le_of_ble_eq_true rfl⟩) (fun H locs hI => ?_)
        refine lv_iload_n C0.1 C0.2.1 dX9_frogAtRank_21 rfl (lv_at hl 1 rfl) ?_
        refine lv_icmp_ne (tgt := 27) C0.1 C0.2.1 dX9_frogAtRank_22 (by decide) (fun c_2_4 => ?_) (fun c_2_4 => ?_)
        · have hf := (if_neg c_2_4).symm.trans hf
          obtain ⟨x2_2_5, e_2_6⟩ : ∃ z : Int32, z = x2_2 + 1 := ⟨_, rfl⟩
          have hf := lt_at e_2_6 hf
          refine lv_iinc (v := x2_2_5) (lv' := [(2, .int x2_2_5), (0, .ref (b 0)), (1, .int x1_2)]) C0.1 C0.2.1 dX9_frogAtRank_27 hl (k := 2) rfl (by rw [e_2_6]; rfl) (by decide) rfl (fun ls hl => ?_)
          refine lv_goto (tgt := 2) C0.1 C0.2.1 dX9_frogAtRank_30 (by decide) ?_
          exact ih2 x1_2 x2_2_5 hf H locs ls hI (lv_sub hl [1, 2, 0] rfl)
        · have hf := (if_pos c_2_4).symm.trans hf
          refine lv_iload_n C0.1 C0.2.1 dX9_frogAtRank_25 rfl (lv_at hl 2 rfl) ?_
          exact ep_z C0 hI hr hlocks rfl hf dX9_frogAtRank_26
  exact L2 n x1 0 hf H locs ls hI (lv_sub hl [1, 2, 0] rfl)

def F_X9_supportClosure (n : Nat) (x1 : Int32) (x2 : Int32) (M : Mem) : Option (RX Int32 × Mem) :=
  ob (F_X2_refusalToSupport n 1 x1 x2 M) (fun r_2 => obxr (F_X9_refuse n r_2 M) M (fun u_5 => ob (F_X5_push n 94 1 M) (fun M_10 => ob2 (F_X2_support n 1 x1 x2 M_10) (fun r_12 M_13 => chk (isB r_12) (some (.inr r_12, M_13))))))
theorem hd_X9_supportClosure : yX9_supportClosure.cls ≠ "java/lang/invoke/MethodHandle" ∧ yX9_supportClosure.cls ≠ "java/lang/invoke/VarHandle" ∧ (parseMethodDescriptor yX9_supportClosure.desc).map (fun d => d.parameters.length) = some 2 := ⟨by decide +kernel, by decide +kernel, by decide +kernel⟩
set_option maxHeartbeats 4000000 in
set_option maxRecDepth 100000 in
theorem c_X9_supportClosure (l : Launch) (hl0 : l.stackTraces = false) (g : GG) (X : va_W) (r : Nat → Nat) (b : Nat → Nat) (sz n : Nat) (M : Mem) (x1 : Int32) (x2 : Int32) {q0 : RX Int32} {M' : Mem} (hf : F_X9_supportClosure n x1 x2 M = some (q0, M')) : vx_Met l yX9_supportClosure (.code yX9_supportClosure cX9_supportClosure 3 (some .boolean) :: LWg) (rmD 10 1 6) (va_Pc [.ref (b 0), .int x1, .int x2] (PreP g X 372 (shI g r b) b sz M)) (QiX g X 372 (shI g r b) b sz q0 M') (XcX g X 372 (shI g r b) b sz q0 M') 1 6 (AA X b 372 sz) := by
  refine metx_go (by decide +kernel) rfl (Nat.le_of_ble_eq_true rfl) ?_
  intro p e s m below meth c ls H locs C0 C1 hr hlocks hno hsz hl hI
  subst hsz
  have hl : lv_has ls 3 [(0, .ref (b 0)), (1, .int x1), (2, .int x2)] := hl
  unfold F_X9_supportClosure at hf
  refine lv_aload_n C0.1 C0.2.1 dX9_supportClosure_0 rfl (lv_at hl 0 rfl) ?_
  refine r_get (C := RX9) (T := TX9) (N9 := 11) (ci := 10) C0 C1 hI iX9 rfl 0 0 (kdlt0 (rfl : kdI 0 = 0)) (by decide) ((shI_0 (rfl : kdI 0 = 0)) _) rfl rfl w_342 dX9_supportClosure_1 ?_
  refine lv_iload_n C0.1 C0.2.1 dX9_supportClosure_4 rfl (lv_at hl 1 rfl) ?_
  refine lv_iload_n C0.1 C0.2.1 dX9_supportClosure_5 rfl (lv_at hl 2 rfl) ?_
  obtain ⟨r_2, h_1, hf⟩ := ob_some hf
  refine k_e C1 hI (q_VN C0 C1 hI 1 (c_X2_refusalToSupport l g X r b H.size n M 1 (rfl : kdI 1 = 1) x1 x2 h_1) 53 rfl w_1341 w_56 w_72 w_1342 ⟨rfl, rfl⟩ hd_X2_refusalToSupport ⟨Nat.le_of_ble_eq_true rfl, Nat.le_of_ble_eq_true rfl⟩ (kdlt1 (rfl : kdI 1 = 1)) ((shI_1 (rfl : kdI 1 = 1)) _) rfl rfl rfl hl.1 rfl (Nat.le_of_ble_eq_true rfl) dX9_supportClosure_6 ⟨Nat.le_of_ble_eq_true rfl, Nat.le_of_ble_eq_true rfl⟩) (fun H locs hI => ?_)
  obtain ⟨q_6, h_4, h_7, h_8⟩ := obxr_x hf
  refine kx_v C1 hI (qx_S C0 C1 hI (c_X9_refuse l hl0 g X r b H.size n M r_2 h_4) w_423 w_424 w_71 w_425 ⟨rfl, rfl⟩ hd_X9_refuse ⟨Nat.le_of_ble_eq_true rfl, Nat.le_of_ble_eq_true rfl⟩ rfl hl.1 rfl (Nat.le_of_ble_eq_true rfl) dX9_supportClosure_9 ⟨Nat.le_of_ble_eq_true rfl, Nat.le_of_ble_eq_true rfl⟩) (fun k H locs ce q9 e1 hI g1 g2 g3 => x_outm hno hlocks hI g1 g2 g3 (h_7 k e1) (Nat.le_of_ble_eq_true rfl) (Nat.le_of_ble_eq_true rfl)) (fun u_5 H locs e1 hI => ?_)
  have hf := h_8 u_5 e1
  refine lv_aload_n C0.1 C0.2.1 dX9_supportClosure_12 rfl (lv_at hl 0 rfl) ?_
  refine r_get (C := RX9) (T := TX9) (N9 := 11) (ci := 10) C0 C1 hI iX9 rfl 0 4 (kdlt0 (rfl : kdI 0 = 0)) (by decide) ((shI_0 (rfl : kdI 0 = 0)) _) rfl rfl w_346 dX9_supportClosure_13 ?_
  refine lv_aload_n C0.1 C0.2.1 dX9_supportClosure_16 rfl (lv_at hl 0 rfl) ?_
  refine r_get (C := RX9) (T := TX9) (N9 := 11) (ci := 10) C0 C1 hI iX9 rfl 0 0 (kdlt0 (rfl : kdI 0 = 0)) (by decide) ((shI_0 (rfl : kdI 0 = 0)) _) rfl rfl w_342 dX9_supportClosure_17 ?_
  obtain ⟨M_10, h_9, hf⟩ := ob_some hf
  refine k_v C1 hI (q_VN C0 C1 hI 94 (c_X5_push l g X r b H.size n M 94 (rfl : kdI 94 = 6) 1 (rfl : kdI 1 = 1) h_9) 18 rfl w_723 w_17 w_74 w_724 ⟨rfl, rfl⟩ hd_X5_push ⟨Nat.le_of_ble_eq_true rfl, Nat.le_of_ble_eq_true rfl⟩ (kdlt6 (rfl : kdI 94 = 6)) ((shI_6 (rfl : kdI 94 = 6)) _) rfl rfl rfl hl.1 rfl (Nat.le_of_ble_eq_true rfl) dX9_supportClosure_20 ⟨Nat.le_of_ble_eq_true rfl, Nat.le_of_ble_eq_true rfl⟩) (fun H locs hI => ?_)
  refine lv_aload_n C0.1 C0.2.1 dX9_supportClosure_23 rfl (lv_at hl 0 rfl) ?_
  refine r_get (C := RX9) (T := TX9) (N9 := 11) (ci := 10) C0 C1 hI iX9 rfl 0 0 (kdlt0 (rfl : kdI 0 = 0)) (by decide) ((shI_0 (rfl : kdI 0 = 0)) _) rfl rfl w_342 dX9_supportClosure_24 ?_
  refine lv_iload_n C0.1 C0.2.1 dX9_supportClosure_27 rfl (lv_at hl 1 rfl) ?_
  refine lv_iload_n C0.1 C0.2.1 dX9_supportClosure_28 rfl (lv_at hl 2 rfl) ?_
  obtain ⟨r_12, M_13, h_11, hf⟩ := ob2_some hf
  refine k_i C1 hI (q_VN C0 C1 hI 1 (c_X2_support l g X r b H.size n M_10 1 (rfl : kdI 1 = 1) x1 x2 h_11) 54 rfl w_1375 w_61 w_72 w_1376 ⟨rfl, rfl⟩ hd_X2_support ⟨Nat.le_of_ble_eq_true rfl, Nat.le_of_ble_eq_true rfl⟩ (kdlt1 (rfl : kdI 1 = 1)) ((shI_1 (rfl : kdI 1 = 1)) _) rfl rfl rfl hl.1 rfl (Nat.le_of_ble_eq_true rfl) dX9_supportClosure_29 ⟨Nat.le_of_ble_eq_true rfl, Nat.le_of_ble_eq_true rfl⟩) (fun H locs hI => ?_)
  obtain ⟨h_14, hf⟩ := chk_some hf
  exact ex_zm C0 hI hr hlocks (isB_n h_14).1 hf dX9_supportClosure_32


set_option maxHeartbeats 4000000 in
set_option maxRecDepth 100000 in
theorem p_X9_supportClosure (l : Launch) (g : GG) (X : va_W) (r : Nat → Nat) (b : Nat → Nat) (sz n : Nat) (M : Mem) (x1 : Int32) (x2 : Int32) {r0 : Int32} {M' : Mem} (hf : F_X9_supportClosure n x1 x2 M = some (.inr r0, M')) : Met l yX9_supportClosure (.code yX9_supportClosure cX9_supportClosure 3 (some .boolean) :: LWg) (rmD 10 0 0) (va_Pc [.ref (b 0), .int x1, .int x2] (PreP g X 372 (shI g r b) b sz M)) (Qi g X 372 (shI g r b) b sz r0 M') 0 0 (AA X b 372 sz) := by
  refine met_go (by decide +kernel) rfl (Nat.le_of_ble_eq_true rfl) ?_
  intro p e s m below meth c ls H locs C0 C1 hr hlocks hnm hsz hl hI
  subst hsz
  have hl : lv_has ls 3 [(0, .ref (b 0)), (1, .int x1), (2, .int x2)] := hl
  unfold F_X9_supportClosure at hf
  refine lv_aload_n C0.1 C0.2.1 dX9_supportClosure_0 rfl (lv_at hl 0 rfl) ?_
  refine r_get (C := RX9) (T := TX9) (N9 := 11) (ci := 10) C0 C1 hI iX9 rfl 0 0 (kdlt0 (rfl : kdI 0 = 0)) (by decide) ((shI_0 (rfl : kdI 0 = 0)) _) rfl rfl w_342 dX9_supportClosure_1 ?_
  refine lv_iload_n C0.1 C0.2.1 dX9_supportClosure_4 rfl (lv_at hl 1 rfl) ?_
  refine lv_iload_n C0.1 C0.2.1 dX9_supportClosure_5 rfl (lv_at hl 2 rfl) ?_
  obtain ⟨r_2, h_1, hf⟩ := ob_some hf
  refine k_e C1 hI (q_VN C0 C1 hI 1 (c_X2_refusalToSupport l g X r b H.size n M 1 (rfl : kdI 1 = 1) x1 x2 h_1) 53 rfl w_1341 w_56 w_72 w_1342 ⟨rfl, rfl⟩ hd_X2_refusalToSupport ⟨Nat.le_of_ble_eq_true rfl, Nat.le_of_ble_eq_true rfl⟩ (kdlt1 (rfl : kdI 1 = 1)) ((shI_1 (rfl : kdI 1 = 1)) _) rfl rfl rfl hl.1 rfl (Nat.le_of_ble_eq_true rfl) dX9_supportClosure_6 ⟨Nat.le_of_ble_eq_true rfl, Nat.le_of_ble_eq_true rfl⟩) (fun H locs hI => ?_)
  obtain ⟨u_5, h_4, hf⟩ := obxr_p hf
  refine k_v C1 hI (q_S C0 C1 hI (p_X9_refuse l g X r b H.size n M r_2 h_4) w_423 w_424 w_71 w_425 ⟨rfl, rfl⟩ hd_X9_refuse ⟨Nat.le_of_ble_eq_true rfl, Nat.le_of_ble_eq_true rfl⟩ rfl hl.1 rfl (Nat.le_of_ble_eq_true rfl) dX9_supportClosure_9 ⟨Nat.le_of_ble_eq_true rfl, Nat.le_of_ble_eq_true rfl⟩) (fun H locs hI => ?_)
  refine lv_aload_n C0.1 C0.2.1 dX9_supportClosure_12 rfl (lv_at hl 0 rfl) ?_
  refine r_get (C := RX9) (T := TX9) (N9 := 11) (ci := 10) C0 C1 hI iX9 rfl 0 4 (kdlt0 (rfl : kdI 0 = 0)) (by decide) ((shI_0 (rfl : kdI 0 = 0)) _) rfl rfl w_346 dX9_supportClosure_13 ?_
  refine lv_aload_n C0.1 C0.2.1 dX9_supportClosure_16 rfl (lv_at hl 0 rfl) ?_
  refine r_get (C := RX9) (T := TX9) (N9 := 11) (ci := 10) C0 C1 hI iX9 rfl 0 0 (kdlt0 (rfl : kdI 0 = 0)) (by decide) ((shI_0 (rfl : kdI 0 = 0)) _) rfl rfl w_342 dX9_supportClosure_17 ?_
  obtain ⟨M_7, h_6, hf⟩ := ob_some hf
  refine k_v C1 hI (q_VN C0 C1 hI 94 (c_X5_push l g X r b H.size n M 94 (rfl : kdI 94 = 6) 1 (rfl : kdI 1 = 1) h_6) 18 rfl w_723 w_17 w_74 w_724 ⟨rfl, rfl⟩ hd_X5_push ⟨Nat.le_of_ble_eq_true rfl, Nat.le_of_ble_eq_true rfl⟩ (kdlt6 (rfl : kdI 94 = 6)) ((shI_6 (rfl : kdI 94 = 6)) _) rfl rfl rfl hl.1 rfl (Nat.le_of_ble_eq_true rfl) dX9_supportClosure_20 ⟨Nat.le_of_ble_eq_true rfl, Nat.le_of_ble_eq_true rfl⟩) (fun H locs hI => ?_)
  refine lv_aload_n C0.1 C0.2.1 dX9_supportClosure_23 rfl (lv_at hl 0 rfl) ?_
  refine r_get (C := RX9) (T := TX9) (N9 := 11) (ci := 10) C0 C1 hI iX9 rfl 0 0 (kdlt0 (rfl : kdI 0 = 0)) (by decide) ((shI_0 (rfl : kdI 0 = 0)) _) rfl rfl w_342 dX9_supportClosure_24 ?_
  refine lv_iload_n C0.1 C0.2.1 dX9_supportClosure_27 rfl (lv_at hl 1 rfl) ?_
  refine lv_iload_n C0.1 C0.2.1 dX9_supportClosure_28 rfl (lv_at hl 2 rfl) ?_
  obtain ⟨r_9, M_10, h_8, hf⟩ := ob2_some hf
  refine k_i C1 hI (q_VN C0 C1 hI 1 (c_X2_support l g X r b H.size n M_7 1 (rfl : kdI 1 = 1) x1 x2 h_8) 54 rfl w_1375 w_61 w_72 w_1376 ⟨rfl, rfl⟩ hd_X2_support ⟨Nat.le_of_ble_eq_true rfl, Nat.le_of_ble_eq_true rfl⟩ (kdlt1 (rfl : kdI 1 = 1)) ((shI_1 (rfl : kdI 1 = 1)) _) rfl rfl rfl hl.1 rfl (Nat.le_of_ble_eq_true rfl) dX9_supportClosure_29 ⟨Nat.le_of_ble_eq_true rfl, Nat.le_of_ble_eq_true rfl⟩) (fun H locs hI => ?_)
  obtain ⟨h_11, hf⟩ := chk_some hf
  exact ep_zm C0 hI hr hlocks (isB_n h_11).1 hf dX9_supportClosure_32

def F_X9_isListClosed (n : Nat) (x1 : Int32) (M : Mem) : Option (RX Int32) :=
  obx (F_X9_requireMotion n x1 M) (fun u_3 => chk (inb x1 6) (chk (isB (M (1 + 6 + 1 + 4 * ix x1) 3)) (some (.inr (M (1 + 6 + 1 + 4 * ix x1) 3)))))
theorem hd_X9_isListClosed : yX9_isListClosed.cls ≠ "java/lang/invoke/MethodHandle" ∧ yX9_isListClosed.cls ≠ "java/lang/invoke/VarHandle" ∧ (parseMethodDescriptor yX9_isListClosed.desc).map (fun d => d.parameters.length) = some 1 := ⟨by decide +kernel, by decide +kernel, by decide +kernel⟩
set_option maxHeartbeats 4000000 in
set_option maxRecDepth 100000 in
theorem c_X9_isListClosed (l : Launch) (hl0 : l.stackTraces = false) (g : GG) (X : va_W) (r : Nat → Nat) (b : Nat → Nat) (sz n : Nat) (M : Mem) (x1 : Int32) {q0 : RX Int32} (hf : F_X9_isListClosed n x1 M = some q0) : vx_Met l yX9_isListClosed (.code yX9_isListClosed cX9_isListClosed 2 (some .boolean) :: LWg) (rmD 11 1 6) (va_Pc [.ref (b 0), .int x1] (PreP g X 372 (shI g r b) b sz M)) (QiX g X 372 (shI g r b) b sz q0 M) (XcX g X 372 (shI g r b) b sz q0 M) 1 6 (AA X b 372 sz) := by
  refine metx_go (by decide +kernel) rfl (Nat.le_of_ble_eq_true rfl) ?_
  intro p e s m below meth c ls H locs C0 C1 hr hlocks hno hsz hl hI
  subst hsz
  have hl : lv_has ls 2 [(0, .ref (b 0)), (1, .int x1)] := hl
  unfold F_X9_isListClosed at hf
  refine lv_aload_n C0.1 C0.2.1 dX9_isListClosed_0 rfl (lv_at hl 0 rfl) ?_
  refine lv_iload_n C0.1 C0.2.1 dX9_isListClosed_1 rfl (lv_at hl 1 rfl) ?_
  obtain ⟨q_4, h_2, h_5, h_6⟩ := obx_x hf
  refine kx_v C1 hI (qx_V C0 C1 hI 0 (c_X9_requireMotion l hl0 g X r b H.size n M x1 h_2) w_411 w_413 w_2 w_71 w_414 ⟨rfl, rfl⟩ hd_X9_requireMotion ⟨Nat.le_of_ble_eq_true rfl, Nat.le_of_ble_eq_true rfl⟩ (kdlt0 (rfl : kdI 0 = 0)) ((shI_0 (rfl : kdI 0 = 0)) _) rfl rfl rfl hl.1 rfl (Nat.le_of_ble_eq_true rfl) dX9_isListClosed_2 ⟨Nat.le_of_ble_eq_true rfl, Nat.le_of_ble_eq_true rfl⟩) (fun k H locs ce q9 e1 hI g1 g2 g3 => x_out hno hlocks hI g1 g2 g3 (h_5 k e1) (Nat.le_of_ble_eq_true rfl) (Nat.le_of_ble_eq_true rfl)) (fun u_3 H locs e1 hI => ?_)
  have hf := h_6 u_3 e1
  refine lv_aload_n C0.1 C0.2.1 dX9_isListClosed_5 rfl (lv_at hl 0 rfl) ?_
  refine r_get (C := RX9) (T := TX9) (N9 := 11) (ci := 10) C0 C1 hI iX9 rfl 0 0 (kdlt0 (rfl : kdI 0 = 0)) (by decide) ((shI_0 (rfl : kdI 0 = 0)) _) rfl rfl w_342 dX9_isListClosed_6 ?_
  refine r_getN (C := RX2) (T := TX2) (N9 := 12) (ci := 4) C0 C1 hI iX2 rfl 1 9 (kdlt1 (rfl : kdI 1 = 1)) (by decide) ((shI_1 (rfl : kdI 1 = 1)) _) rfl rfl 29 rfl dX9_isListClosed_9 ?_
  refine lv_iload_n C0.1 C0.2.1 dX9_isListClosed_12 rfl (lv_at hl 1 rfl) ?_
  obtain ⟨h_7, hf⟩ := chk_some hf
  refine r_aald (t0 := 1) C0 C1 hI (1 + 6) (kdlt4 (kd1_6 (rfl : kdI 1 = 1))) (shI_4 (kd1_6 (rfl : kdI 1 = 1))) rfl h_7 rfl dX9_isListClosed_13 ?_
  refine r_getN (C := RX6) (T := TX6) (N9 := 12) (ci := 8) C0 C1 hI iX6 rfl (1 + 6 + 1 + 4 * ix x1) 3 (kdlt5 (kd4_i (kd1_6 (rfl : kdI 1 = 1)) h_7)) (by decide) ((shI_5 (kd4_i (kd1_6 (rfl : kdI 1 = 1)) h_7)) _) rfl rfl 6 rfl dX9_isListClosed_14 ?_
  obtain ⟨h_8, hf⟩ := chk_some hf
  exact ex_z C0 hI hr hlocks (isB_n h_8).1 hf dX9_isListClosed_17


set_option maxHeartbeats 4000000 in
set_option maxRecDepth 100000 in
theorem p_X9_isListClosed (l : Launch) (g : GG) (X : va_W) (r : Nat → Nat) (b : Nat → Nat) (sz n : Nat) (M : Mem) (x1 : Int32) {r0 : Int32} (hf : F_X9_isListClosed n x1 M = some (.inr r0)) : Met l yX9_isListClosed (.code yX9_isListClosed cX9_isListClosed 2 (some .boolean) :: LWg) (rmD 11 0 0) (va_Pc [.ref (b 0), .int x1] (PreP g X 372 (shI g r b) b sz M)) (Qi g X 372 (shI g r b) b sz r0 M) 0 0 (AA X b 372 sz) := by
  refine met_go (by decide +kernel) rfl (Nat.le_of_ble_eq_true rfl) ?_
  intro p e s m below meth c ls H locs C0 C1 hr hlocks hnm hsz hl hI
  subst hsz
  have hl : lv_has ls 2 [(0, .ref (b 0)), (1, .int x1)] := hl
  unfold F_X9_isListClosed at hf
  refine lv_aload_n C0.1 C0.2.1 dX9_isListClosed_0 rfl (lv_at hl 0 rfl) ?_
  refine lv_iload_n C0.1 C0.2.1 dX9_isListClosed_1 rfl (lv_at hl 1 rfl) ?_
  obtain ⟨u_3, h_2, hf⟩ := obx_p hf
  refine k_v C1 hI (q_V C0 C1 hI 0 (p_X9_requireMotion l g X r b H.size n M x1 h_2) w_411 w_413 w_2 w_71 w_414 ⟨rfl, rfl⟩ hd_X9_requireMotion ⟨Nat.le_of_ble_eq_true rfl, Nat.le_of_ble_eq_true rfl⟩ (kdlt0 (rfl : kdI 0 = 0)) ((shI_0 (rfl : kdI 0 = 0)) _) rfl rfl rfl hl.1 rfl (Nat.le_of_ble_eq_true rfl) dX9_isListClosed_2 ⟨Nat.le_of_ble_eq_true rfl, Nat.le_of_ble_eq_true rfl⟩) (fun H locs hI => ?_)
  refine lv_aload_n C0.1 C0.2.1 dX9_isListClosed_5 rfl (lv_at hl 0 rfl) ?_
  refine r_get (C := RX9) (T := TX9) (N9 := 11) (ci := 10) C0 C1 hI iX9 rfl 0 0 (kdlt0 (rfl : kdI 0 = 0)) (by decide) ((shI_0 (rfl : kdI 0 = 0)) _) rfl rfl w_342 dX9_isListClosed_6 ?_
  refine r_getN (C := RX2) (T := TX2) (N9 := 12) (ci := 4) C0 C1 hI iX2 rfl 1 9 (kdlt1 (rfl : kdI 1 = 1)) (by decide) ((shI_1 (rfl : kdI 1 = 1)) _) rfl rfl 29 rfl dX9_isListClosed_9 ?_
  refine lv_iload_n C0.1 C0.2.1 dX9_isListClosed_12 rfl (lv_at hl 1 rfl) ?_
  obtain ⟨h_4, hf⟩ := chk_some hf
  refine r_aald (t0 := 1) C0 C1 hI (1 + 6) (kdlt4 (kd1_6 (rfl : kdI 1 = 1))) (shI_4 (kd1_6 (rfl : kdI 1 = 1))) rfl h_4 rfl dX9_isListClosed_13 ?_
  refine r_getN (C := RX6) (T := TX6) (N9 := 12) (ci := 8) C0 C1 hI iX6 rfl (1 + 6 + 1 + 4 * ix x1) 3 (kdlt5 (kd4_i (kd1_6 (rfl : kdI 1 = 1)) h_4)) (by decide) ((shI_5 (kd4_i (kd1_6 (rfl : kdI 1 = 1)) h_4)) _) rfl rfl 6 rfl dX9_isListClosed_14 ?_
  obtain ⟨h_5, hf⟩ := chk_some hf
  exact ep_z C0 hI hr hlocks (isB_n h_5).1 hf dX9_isListClosed_17

def F_X9_closureWeight (n : Nat) (x1 : Int32) (M : Mem) : Option (RX Int32) :=
  obx (F_X9_requireMotion n x1 M) (fun u_3 => chk (inb x1 6) (ob (F_X2_weightOfSet n 1 (M (1 + 6 + 1 + 4 * ix x1) 4) M) (fun r_9 => some (.inr r_9))))
theorem hd_X9_closureWeight : yX9_closureWeight.cls ≠ "java/lang/invoke/MethodHandle" ∧ yX9_closureWeight.cls ≠ "java/lang/invoke/VarHandle" ∧ (parseMethodDescriptor yX9_closureWeight.desc).map (fun d => d.parameters.length) = some 1 := ⟨by decide +kernel, by decide +kernel, by decide +kernel⟩
set_option maxHeartbeats 4000000 in
set_option maxRecDepth 100000 in
theorem c_X9_closureWeight (l : Launch) (hl0 : l.stackTraces = false) (g : GG) (X : va_W) (r : Nat → Nat) (b : Nat → Nat) (sz n : Nat) (M : Mem) (x1 : Int32) {q0 : RX Int32} (hf : F_X9_closureWeight n x1 M = some q0) : vx_Met l yX9_closureWeight (.code yX9_closureWeight cX9_closureWeight 2 (some .int) :: LWg) (rmD 11 1 6) (va_Pc [.ref (b 0), .int x1] (PreP g X 372 (shI g r b) b sz M)) (QiX g X 372 (shI g r b) b sz q0 M) (XcX g X 372 (shI g r b) b sz q0 M) 1 6 (AA X b 372 sz) := by
  refine metx_go (by decide +kernel) rfl (Nat.le_of_ble_eq_true rfl) ?_
  intro p e s m below meth c ls H locs C0 C1 hr hlocks hno hsz hl hI
  subst hsz
  have hl : lv_has ls 2 [(0, .ref (b 0)), (1, .int x1)] := hl
  unfold F_X9_closureWeight at hf
  refine lv_aload_n C0.1 C0.2.1 dX9_closureWeight_0 rfl (lv_at hl 0 rfl) ?_
  refine lv_iload_n C0.1 C0.2.1 dX9_closureWeight_1 rfl (lv_at hl 1 rfl) ?_
  obtain ⟨q_4, h_2, h_5, h_6⟩ := obx_x hf
  refine kx_v C1 hI (qx_V C0 C1 hI 0 (c_X9_requireMotion l hl0 g X r b H.size n M x1 h_2) w_411 w_413 w_2 w_71 w_414 ⟨rfl, rfl⟩ hd_X9_requireMotion ⟨Nat.le_of_ble_eq_true rfl, Nat.le_of_ble_eq_true rfl⟩ (kdlt0 (rfl : kdI 0 = 0)) ((shI_0 (rfl : kdI 0 = 0)) _) rfl rfl rfl hl.1 rfl (Nat.le_of_ble_eq_true rfl) dX9_closureWeight_2 ⟨Nat.le_of_ble_eq_true rfl, Nat.le_of_ble_eq_true rfl⟩) (fun k H locs ce q9 e1 hI g1 g2 g3 => x_out hno hlocks hI g1 g2 g3 (h_5 k e1) (Nat.le_of_ble_eq_true rfl) (Nat.le_of_ble_eq_true rfl)) (fun u_3 H locs e1 hI => ?_)
  have hf := h_6 u_3 e1
  refine lv_aload_n C0.1 C0.2.1 dX9_closureWeight_5 rfl (lv_at hl 0 rfl) ?_
  refine r_get (C := RX9) (T := TX9) (N9 := 11) (ci := 10) C0 C1 hI iX9 rfl 0 0 (kdlt0 (rfl : kdI 0 = 0)) (by decide) ((shI_0 (rfl : kdI 0 = 0)) _) rfl rfl w_342 dX9_closureWeight_6 ?_
  refine lv_aload_n C0.1 C0.2.1 dX9_closureWeight_9 rfl (lv_at hl 0 rfl) ?_
  refine r_get (C := RX9) (T := TX9) (N9 := 11) (ci := 10) C0 C1 hI iX9 rfl 0 0 (kdlt0 (rfl : kdI 0 = 0)) (by decide) ((shI_0 (rfl : kdI 0 = 0)) _) rfl rfl w_342 dX9_closureWeight_10 ?_
  refine r_getN (C := RX2) (T := TX2) (N9 := 12) (ci := 4) C0 C1 hI iX2 rfl 1 9 (kdlt1 (rfl : kdI 1 = 1)) (by decide) ((shI_1 (rfl : kdI 1 = 1)) _) rfl rfl 29 rfl dX9_closureWeight_13 ?_
  refine lv_iload_n C0.1 C0.2.1 dX9_closureWeight_16 rfl (lv_at hl 1 rfl) ?_
  obtain ⟨h_7, hf⟩ := chk_some hf
  refine r_aald (t0 := 1) C0 C1 hI (1 + 6) (kdlt4 (kd1_6 (rfl : kdI 1 = 1))) (shI_4 (kd1_6 (rfl : kdI 1 = 1))) rfl h_7 rfl dX9_closureWeight_17 ?_
  refine r_getN (C := RX6) (T := TX6) (N9 := 12) (ci := 8) C0 C1 hI iX6 rfl (1 + 6 + 1 + 4 * ix x1) 4 (kdlt5 (kd4_i (kd1_6 (rfl : kdI 1 = 1)) h_7)) (by decide) ((shI_5 (kd4_i (kd1_6 (rfl : kdI 1 = 1)) h_7)) _) rfl rfl 7 rfl dX9_closureWeight_18 ?_
  obtain ⟨r_9, h_8, hf⟩ := ob_some hf
  refine k_i C1 hI (q_VN C0 C1 hI 1 (c_X2_weightOfSet l g X r b H.size n M 1 (rfl : kdI 1 = 1) (M (1 + 6 + 1 + 4 * ix x1) 4) h_8) 48 rfl w_1379 w_62 w_72 w_1380 ⟨rfl, rfl⟩ hd_X2_weightOfSet ⟨Nat.le_of_ble_eq_true rfl, Nat.le_of_ble_eq_true rfl⟩ (kdlt1 (rfl : kdI 1 = 1)) ((shI_1 (rfl : kdI 1 = 1)) _) rfl rfl rfl hl.1 rfl (Nat.le_of_ble_eq_true rfl) dX9_closureWeight_21 ⟨Nat.le_of_ble_eq_true rfl, Nat.le_of_ble_eq_true rfl⟩) (fun H locs hI => ?_)
  exact ex_z C0 hI hr hlocks rfl hf dX9_closureWeight_24


set_option maxHeartbeats 4000000 in
set_option maxRecDepth 100000 in
theorem p_X9_closureWeight (l : Launch) (g : GG) (X : va_W) (r : Nat → Nat) (b : Nat → Nat) (sz n : Nat) (M : Mem) (x1 : Int32) {r0 : Int32} (hf : F_X9_closureWeight n x1 M = some (.inr r0)) : Met l yX9_closureWeight (.code yX9_closureWeight cX9_closureWeight 2 (some .int) :: LWg) (rmD 11 0 0) (va_Pc [.ref (b 0), .int x1] (PreP g X 372 (shI g r b) b sz M)) (Qi g X 372 (shI g r b) b sz r0 M) 0 0 (AA X b 372 sz) := by
  refine met_go (by decide +kernel) rfl (Nat.le_of_ble_eq_true rfl) ?_
  intro p e s m below meth c ls H locs C0 C1 hr hlocks hnm hsz hl hI
  subst hsz
  have hl : lv_has ls 2 [(0, .ref (b 0)), (1, .int x1)] := hl
  unfold F_X9_closureWeight at hf
  refine lv_aload_n C0.1 C0.2.1 dX9_closureWeight_0 rfl (lv_at hl 0 rfl) ?_
  refine lv_iload_n C0.1 C0.2.1 dX9_closureWeight_1 rfl (lv_at hl 1 rfl) ?_
  obtain ⟨u_3, h_2, hf⟩ := obx_p hf
  refine k_v C1 hI (q_V C0 C1 hI 0 (p_X9_requireMotion l g X r b H.size n M x1 h_2) w_411 w_413 w_2 w_71 w_414 ⟨rfl, rfl⟩ hd_X9_requireMotion ⟨Nat.le_of_ble_eq_true rfl, Nat.le_of_ble_eq_true rfl⟩ (kdlt0 (rfl : kdI 0 = 0)) ((shI_0 (rfl : kdI 0 = 0)) _) rfl rfl rfl hl.1 rfl (Nat.le_of_ble_eq_true rfl) dX9_closureWeight_2 ⟨Nat.le_of_ble_eq_true rfl, Nat.le_of_ble_eq_true rfl⟩) (fun H locs hI => ?_)
  refine lv_aload_n C0.1 C0.2.1 dX9_closureWeight_5 rfl (lv_at hl 0 rfl) ?_
  refine r_get (C := RX9) (T := TX9) (N9 := 11) (ci := 10) C0 C1 hI iX9 rfl 0 0 (kdlt0 (rfl : kdI 0 = 0)) (by decide) ((shI_0 (rfl : kdI 0 = 0)) _) rfl rfl w_342 dX9_closureWeight_6 ?_
  refine lv_aload_n C0.1 C0.2.1 dX9_closureWeight_9 rfl (lv_at hl 0 rfl) ?_
  refine r_get (C := RX9) (T := TX9) (N9 := 11) (ci := 10) C0 C1 hI iX9 rfl 0 0 (kdlt0 (rfl : kdI 0 = 0)) (by decide) ((shI_0 (rfl : kdI 0 = 0)) _) rfl rfl w_342 dX9_closureWeight_10 ?_
  refine r_getN (C := RX2) (T := TX2) (N9 := 12) (ci := 4) C0 C1 hI iX2 rfl 1 9 (kdlt1 (rfl : kdI 1 = 1)) (by decide) ((shI_1 (rfl : kdI 1 = 1)) _) rfl rfl 29 rfl dX9_closureWeight_13 ?_
  refine lv_iload_n C0.1 C0.2.1 dX9_closureWeight_16 rfl (lv_at hl 1 rfl) ?_
  obtain ⟨h_4, hf⟩ := chk_some hf
  refine r_aald (t0 := 1) C0 C1 hI (1 + 6) (kdlt4 (kd1_6 (rfl : kdI 1 = 1))) (shI_4 (kd1_6 (rfl : kdI 1 = 1))) rfl h_4 rfl dX9_closureWeight_17 ?_
  refine r_getN (C := RX6) (T := TX6) (N9 := 12) (ci := 8) C0 C1 hI iX6 rfl (1 + 6 + 1 + 4 * ix x1) 4 (kdlt5 (kd4_i (kd1_6 (rfl : kdI 1 = 1)) h_4)) (by decide) ((shI_5 (kd4_i (kd1_6 (rfl : kdI 1 = 1)) h_4)) _) rfl rfl 7 rfl dX9_closureWeight_18 ?_
  obtain ⟨r_6, h_5, hf⟩ := ob_some hf
  refine k_i C1 hI (q_VN C0 C1 hI 1 (c_X2_weightOfSet l g X r b H.size n M 1 (rfl : kdI 1 = 1) (M (1 + 6 + 1 + 4 * ix x1) 4) h_5) 48 rfl w_1379 w_62 w_72 w_1380 ⟨rfl, rfl⟩ hd_X2_weightOfSet ⟨Nat.le_of_ble_eq_true rfl, Nat.le_of_ble_eq_true rfl⟩ (kdlt1 (rfl : kdI 1 = 1)) ((shI_1 (rfl : kdI 1 = 1)) _) rfl rfl rfl hl.1 rfl (Nat.le_of_ble_eq_true rfl) dX9_closureWeight_21 ⟨Nat.le_of_ble_eq_true rfl, Nat.le_of_ble_eq_true rfl⟩) (fun H locs hI => ?_)
  exact ep_z C0 hI hr hlocks rfl hf dX9_closureWeight_24

def F_X9_entitledWeight (n : Nat) (x1 : Int32) (M : Mem) : Option (RX Int32) :=
  obx (F_X9_requireMotion n x1 M) (fun u_3 => ob (F_X2_entitledTo n 1 x1 M) (fun r_8 => ob (F_X2_weightOfSet n 1 r_8 M) (fun r_10 => some (.inr r_10))))
theorem hd_X9_entitledWeight : yX9_entitledWeight.cls ≠ "java/lang/invoke/MethodHandle" ∧ yX9_entitledWeight.cls ≠ "java/lang/invoke/VarHandle" ∧ (parseMethodDescriptor yX9_entitledWeight.desc).map (fun d => d.parameters.length) = some 1 := ⟨by decide +kernel, by decide +kernel, by decide +kernel⟩
set_option maxHeartbeats 4000000 in
set_option maxRecDepth 100000 in
theorem c_X9_entitledWeight (l : Launch) (hl0 : l.stackTraces = false) (g : GG) (X : va_W) (r : Nat → Nat) (b : Nat → Nat) (sz n : Nat) (M : Mem) (x1 : Int32) {q0 : RX Int32} (hf : F_X9_entitledWeight n x1 M = some q0) : vx_Met l yX9_entitledWeight (.code yX9_entitledWeight cX9_entitledWeight 2 (some .int) :: LWg) (rmD 11 1 6) (va_Pc [.ref (b 0), .int x1] (PreP g X 372 (shI g r b) b sz M)) (QiX g X 372 (shI g r b) b sz q0 M) (XcX g X 372 (shI g r b) b sz q0 M) 1 6 (AA X b 372 sz) := by
  refine metx_go (by decide +kernel) rfl (Nat.le_of_ble_eq_true rfl) ?_
  intro p e s m below meth c ls H locs C0 C1 hr hlocks hno hsz hl hI
  subst hsz
  have hl : lv_has ls 2 [(0, .ref (b 0)), (1, .int x1)] := hl
  unfold F_X9_entitledWeight at hf
  refine lv_aload_n C0.1 C0.2.1 dX9_entitledWeight_0 rfl (lv_at hl 0 rfl) ?_
  refine lv_iload_n C0.1 C0.2.1 dX9_entitledWeight_1 rfl (lv_at hl 1 rfl) ?_
  obtain ⟨q_4, h_2, h_5, h_6⟩ := obx_x hf
  refine kx_v C1 hI (qx_V C0 C1 hI 0 (c_X9_requireMotion l hl0 g X r b H.size n M x1 h_2) w_411 w_413 w_2 w_71 w_414 ⟨rfl, rfl⟩ hd_X9_requireMotion ⟨Nat.le_of_ble_eq_true rfl, Nat.le_of_ble_eq_true rfl⟩ (kdlt0 (rfl : kdI 0 = 0)) ((shI_0 (rfl : kdI 0 = 0)) _) rfl rfl rfl hl.1 rfl (Nat.le_of_ble_eq_true rfl) dX9_entitledWeight_2 ⟨Nat.le_of_ble_eq_true rfl, Nat.le_of_ble_eq_true rfl⟩) (fun k H locs ce q9 e1 hI g1 g2 g3 => x_out hno hlocks hI g1 g2 g3 (h_5 k e1) (Nat.le_of_ble_eq_true rfl) (Nat.le_of_ble_eq_true rfl)) (fun u_3 H locs e1 hI => ?_)
  have hf := h_6 u_3 e1
  refine lv_aload_n C0.1 C0.2.1 dX9_entitledWeight_5 rfl (lv_at hl 0 rfl) ?_
  refine r_get (C := RX9) (T := TX9) (N9 := 11) (ci := 10) C0 C1 hI iX9 rfl 0 0 (kdlt0 (rfl : kdI 0 = 0)) (by decide) ((shI_0 (rfl : kdI 0 = 0)) _) rfl rfl w_342 dX9_entitledWeight_6 ?_
  refine lv_aload_n C0.1 C0.2.1 dX9_entitledWeight_9 rfl (lv_at hl 0 rfl) ?_
  refine r_get (C := RX9) (T := TX9) (N9 := 11) (ci := 10) C0 C1 hI iX9 rfl 0 0 (kdlt0 (rfl : kdI 0 = 0)) (by decide) ((shI_0 (rfl : kdI 0 = 0)) _) rfl rfl w_342 dX9_entitledWeight_10 ?_
  refine lv_iload_n C0.1 C0.2.1 dX9_entitledWeight_13 rfl (lv_at hl 1 rfl) ?_
  obtain ⟨r_8, h_7, hf⟩ := ob_some hf
  refine k_i C1 hI (q_VN C0 C1 hI 1 (c_X2_entitledTo l g X r b H.size n M 1 (rfl : kdI 1 = 1) x1 h_7) 64 rfl w_1383 w_63 w_72 w_1384 ⟨rfl, rfl⟩ hd_X2_entitledTo ⟨Nat.le_of_ble_eq_true rfl, Nat.le_of_ble_eq_true rfl⟩ (kdlt1 (rfl : kdI 1 = 1)) ((shI_1 (rfl : kdI 1 = 1)) _) rfl rfl rfl hl.1 rfl (Nat.le_of_ble_eq_true rfl) dX9_entitledWeight_14 ⟨Nat.le_of_ble_eq_true rfl, Nat.le_of_ble_eq_true rfl⟩) (fun H locs hI => ?_)
  obtain ⟨r_10, h_9, hf⟩ := ob_some hf
  refine k_i C1 hI (q_VN C0 C1 hI 1 (c_X2_weightOfSet l g X r b H.size n M 1 (rfl : kdI 1 = 1) r_8 h_9) 48 rfl w_1379 w_62 w_72 w_1380 ⟨rfl, rfl⟩ hd_X2_weightOfSet ⟨Nat.le_of_ble_eq_true rfl, Nat.le_of_ble_eq_true rfl⟩ (kdlt1 (rfl : kdI 1 = 1)) ((shI_1 (rfl : kdI 1 = 1)) _) rfl rfl rfl hl.1 rfl (Nat.le_of_ble_eq_true rfl) dX9_entitledWeight_17 ⟨Nat.le_of_ble_eq_true rfl, Nat.le_of_ble_eq_true rfl⟩) (fun H locs hI => ?_)
  exact ex_z C0 hI hr hlocks rfl hf dX9_entitledWeight_20


set_option maxHeartbeats 4000000 in
set_option maxRecDepth 100000 in
theorem p_X9_entitledWeight (l : Launch) (g : GG) (X : va_W) (r : Nat → Nat) (b : Nat → Nat) (sz n : Nat) (M : Mem) (x1 : Int32) {r0 : Int32} (hf : F_X9_entitledWeight n x1 M = some (.inr r0)) : Met l yX9_entitledWeight (.code yX9_entitledWeight cX9_entitledWeight 2 (some .int) :: LWg) (rmD 11 0 0) (va_Pc [.ref (b 0), .int x1] (PreP g X 372 (shI g r b) b sz M)) (Qi g X 372 (shI g r b) b sz r0 M) 0 0 (AA X b 372 sz) := by
  refine met_go (by decide +kernel) rfl (Nat.le_of_ble_eq_true rfl) ?_
  intro p e s m below meth c ls H locs C0 C1 hr hlocks hnm hsz hl hI
  subst hsz
  have hl : lv_has ls 2 [(0, .ref (b 0)), (1, .int x1)] := hl
  unfold F_X9_entitledWeight at hf
  refine lv_aload_n C0.1 C0.2.1 dX9_entitledWeight_0 rfl (lv_at hl 0 rfl) ?_
  refine lv_iload_n C0.1 C0.2.1 dX9_entitledWeight_1 rfl (lv_at hl 1 rfl) ?_
  obtain ⟨u_3, h_2, hf⟩ := obx_p hf
  refine k_v C1 hI (q_V C0 C1 hI 0 (p_X9_requireMotion l g X r b H.size n M x1 h_2) w_411 w_413 w_2 w_71 w_414 ⟨rfl, rfl⟩ hd_X9_requireMotion ⟨Nat.le_of_ble_eq_true rfl, Nat.le_of_ble_eq_true rfl⟩ (kdlt0 (rfl : kdI 0 = 0)) ((shI_0 (rfl : kdI 0 = 0)) _) rfl rfl rfl hl.1 rfl (Nat.le_of_ble_eq_true rfl) dX9_entitledWeight_2 ⟨Nat.le_of_ble_eq_true rfl, Nat.le_of_ble_eq_true rfl⟩) (fun H locs hI => ?_)
  refine lv_aload_n C0.1 C0.2.1 dX9_entitledWeight_5 rfl (lv_at hl 0 rfl) ?_
  refine r_get (C := RX9) (T := TX9) (N9 := 11) (ci := 10) C0 C1 hI iX9 rfl 0 0 (kdlt0 (rfl : kdI 0 = 0)) (by decide) ((shI_0 (rfl : kdI 0 = 0)) _) rfl rfl w_342 dX9_entitledWeight_6 ?_
  refine lv_aload_n C0.1 C0.2.1 dX9_entitledWeight_9 rfl (lv_at hl 0 rfl) ?_
  refine r_get (C := RX9) (T := TX9) (N9 := 11) (ci := 10) C0 C1 hI iX9 rfl 0 0 (kdlt0 (rfl : kdI 0 = 0)) (by decide) ((shI_0 (rfl : kdI 0 = 0)) _) rfl rfl w_342 dX9_entitledWeight_10 ?_
  refine lv_iload_n C0.1 C0.2.1 dX9_entitledWeight_13 rfl (lv_at hl 1 rfl) ?_
  obtain ⟨r_5, h_4, hf⟩ := ob_some hf
  refine k_i C1 hI (q_VN C0 C1 hI 1 (c_X2_entitledTo l g X r b H.size n M 1 (rfl : kdI 1 = 1) x1 h_4) 64 rfl w_1383 w_63 w_72 w_1384 ⟨rfl, rfl⟩ hd_X2_entitledTo ⟨Nat.le_of_ble_eq_true rfl, Nat.le_of_ble_eq_true rfl⟩ (kdlt1 (rfl : kdI 1 = 1)) ((shI_1 (rfl : kdI 1 = 1)) _) rfl rfl rfl hl.1 rfl (Nat.le_of_ble_eq_true rfl) dX9_entitledWeight_14 ⟨Nat.le_of_ble_eq_true rfl, Nat.le_of_ble_eq_true rfl⟩) (fun H locs hI => ?_)
  obtain ⟨r_7, h_6, hf⟩ := ob_some hf
  refine k_i C1 hI (q_VN C0 C1 hI 1 (c_X2_weightOfSet l g X r b H.size n M 1 (rfl : kdI 1 = 1) r_5 h_6) 48 rfl w_1379 w_62 w_72 w_1380 ⟨rfl, rfl⟩ hd_X2_weightOfSet ⟨Nat.le_of_ble_eq_true rfl, Nat.le_of_ble_eq_true rfl⟩ (kdlt1 (rfl : kdI 1 = 1)) ((shI_1 (rfl : kdI 1 = 1)) _) rfl rfl rfl hl.1 rfl (Nat.le_of_ble_eq_true rfl) dX9_entitledWeight_17 ⟨Nat.le_of_ble_eq_true rfl, Nat.le_of_ble_eq_true rfl⟩) (fun H locs hI => ?_)
  exact ep_z C0 hI hr hlocks rfl hf dX9_entitledWeight_20

def F_X9_croak (n : Nat) (x1 : Int32) (x2 : Int32) (x3 : Int32) (x4 : Int32) (M : Mem) : Option (RX Int32 × Mem) :=
  ob (F_X2_refusalToHear n 1 x1 x2 x3 M) (fun r_2 => obxr (F_X9_refuse n r_2 M) M (fun u_5 => ob (F_X5_push n 94 1 M) (fun M_10 => ob2 (F_X2_hear n 1 x1 x2 x3 x4 M_10) (fun r_12 M_13 => some (.inr r_12, M_13)))))
theorem hd_X9_croak : yX9_croak.cls ≠ "java/lang/invoke/MethodHandle" ∧ yX9_croak.cls ≠ "java/lang/invoke/VarHandle" ∧ (parseMethodDescriptor yX9_croak.desc).map (fun d => d.parameters.length) = some 4 := ⟨by decide +kernel, by decide +kernel, by decide +kernel⟩
set_option maxHeartbeats 4000000 in
set_option maxRecDepth 100000 in
theorem c_X9_croak (l : Launch) (hl0 : l.stackTraces = false) (g : GG) (X : va_W) (r : Nat → Nat) (b : Nat → Nat) (sz n : Nat) (M : Mem) (x1 : Int32) (x2 : Int32) (x3 : Int32) (x4 : Int32) {q0 : RX Int32} {M' : Mem} (hf : F_X9_croak n x1 x2 x3 x4 M = some (q0, M')) : vx_Met l yX9_croak (.code yX9_croak cX9_croak 5 (some .int) :: LWg) (rmD 10 1 6) (va_Pc [.ref (b 0), .int x1, .int x2, .int x3, .int x4] (PreP g X 372 (shI g r b) b sz M)) (QiX g X 372 (shI g r b) b sz q0 M') (XcX g X 372 (shI g r b) b sz q0 M') 1 6 (AA X b 372 sz) := by
  refine metx_go (by decide +kernel) rfl (Nat.le_of_ble_eq_true rfl) ?_
  intro p e s m below meth c ls H locs C0 C1 hr hlocks hno hsz hl hI
  subst hsz
  have hl : lv_has ls 5 [(0, .ref (b 0)), (1, .int x1), (2, .int x2), (3, .int x3), (4, .int x4)] := hl
  unfold F_X9_croak at hf
  refine lv_aload_n C0.1 C0.2.1 dX9_croak_0 rfl (lv_at hl 0 rfl) ?_
  refine r_get (C := RX9) (T := TX9) (N9 := 11) (ci := 10) C0 C1 hI iX9 rfl 0 0 (kdlt0 (rfl : kdI 0 = 0)) (by decide) ((shI_0 (rfl : kdI 0 = 0)) _) rfl rfl w_342 dX9_croak_1 ?_
  refine lv_iload_n C0.1 C0.2.1 dX9_croak_4 rfl (lv_at hl 1 rfl) ?_
  refine lv_iload_n C0.1 C0.2.1 dX9_croak_5 rfl (lv_at hl 2 rfl) ?_
  refine lv_iload_n C0.1 C0.2.1 dX9_croak_6 rfl (lv_at hl 3 rfl) ?_
  obtain ⟨r_2, h_1, hf⟩ := ob_some hf
  refine k_e C1 hI (q_VN C0 C1 hI 1 (c_X2_refusalToHear l g X r b H.size n M 1 (rfl : kdI 1 = 1) x1 x2 x3 h_1) 55 rfl w_1347 w_57 w_72 w_1348 ⟨rfl, rfl⟩ hd_X2_refusalToHear ⟨Nat.le_of_ble_eq_true rfl, Nat.le_of_ble_eq_true rfl⟩ (kdlt1 (rfl : kdI 1 = 1)) ((shI_1 (rfl : kdI 1 = 1)) _) rfl rfl rfl hl.1 rfl (Nat.le_of_ble_eq_true rfl) dX9_croak_7 ⟨Nat.le_of_ble_eq_true rfl, Nat.le_of_ble_eq_true rfl⟩) (fun H locs hI => ?_)
  obtain ⟨q_6, h_4, h_7, h_8⟩ := obxr_x hf
  refine kx_v C1 hI (qx_S C0 C1 hI (c_X9_refuse l hl0 g X r b H.size n M r_2 h_4) w_423 w_424 w_71 w_425 ⟨rfl, rfl⟩ hd_X9_refuse ⟨Nat.le_of_ble_eq_true rfl, Nat.le_of_ble_eq_true rfl⟩ rfl hl.1 rfl (Nat.le_of_ble_eq_true rfl) dX9_croak_10 ⟨Nat.le_of_ble_eq_true rfl, Nat.le_of_ble_eq_true rfl⟩) (fun k H locs ce q9 e1 hI g1 g2 g3 => x_outm hno hlocks hI g1 g2 g3 (h_7 k e1) (Nat.le_of_ble_eq_true rfl) (Nat.le_of_ble_eq_true rfl)) (fun u_5 H locs e1 hI => ?_)
  have hf := h_8 u_5 e1
  refine lv_aload_n C0.1 C0.2.1 dX9_croak_13 rfl (lv_at hl 0 rfl) ?_
  refine r_get (C := RX9) (T := TX9) (N9 := 11) (ci := 10) C0 C1 hI iX9 rfl 0 4 (kdlt0 (rfl : kdI 0 = 0)) (by decide) ((shI_0 (rfl : kdI 0 = 0)) _) rfl rfl w_346 dX9_croak_14 ?_
  refine lv_aload_n C0.1 C0.2.1 dX9_croak_17 rfl (lv_at hl 0 rfl) ?_
  refine r_get (C := RX9) (T := TX9) (N9 := 11) (ci := 10) C0 C1 hI iX9 rfl 0 0 (kdlt0 (rfl : kdI 0 = 0)) (by decide) ((shI_0 (rfl : kdI 0 = 0)) _) rfl rfl w_342 dX9_croak_18 ?_
  obtain ⟨M_10, h_9, hf⟩ := ob_some hf
  refine k_v C1 hI (q_VN C0 C1 hI 94 (c_X5_push l g X r b H.size n M 94 (rfl : kdI 94 = 6) 1 (rfl : kdI 1 = 1) h_9) 18 rfl w_723 w_17 w_74 w_724 ⟨rfl, rfl⟩ hd_X5_push ⟨Nat.le_of_ble_eq_true rfl, Nat.le_of_ble_eq_true rfl⟩ (kdlt6 (rfl : kdI 94 = 6)) ((shI_6 (rfl : kdI 94 = 6)) _) rfl rfl rfl hl.1 rfl (Nat.le_of_ble_eq_true rfl) dX9_croak_21 ⟨Nat.le_of_ble_eq_true rfl, Nat.le_of_ble_eq_true rfl⟩) (fun H locs hI => ?_)
  refine lv_aload_n C0.1 C0.2.1 dX9_croak_24 rfl (lv_at hl 0 rfl) ?_
  refine r_get (C := RX9) (T := TX9) (N9 := 11) (ci := 10) C0 C1 hI iX9 rfl 0 0 (kdlt0 (rfl : kdI 0 = 0)) (by decide) ((shI_0 (rfl : kdI 0 = 0)) _) rfl rfl w_342 dX9_croak_25 ?_
  refine lv_iload_n C0.1 C0.2.1 dX9_croak_28 rfl (lv_at hl 1 rfl) ?_
  refine lv_iload_n C0.1 C0.2.1 dX9_croak_29 rfl (lv_at hl 2 rfl) ?_
  refine lv_iload_n C0.1 C0.2.1 dX9_croak_30 rfl (lv_at hl 3 rfl) ?_
  refine lv_iload C0.1 C0.2.1 dX9_croak_31 (lv_at hl 4 rfl) ?_
  obtain ⟨r_12, M_13, h_11, hf⟩ := ob2_some hf
  refine k_i C1 hI (q_VN C0 C1 hI 1 (c_X2_hear l g X r b H.size n M_10 1 (rfl : kdI 1 = 1) x1 x2 x3 x4 h_11) 56 rfl w_1387 w_64 w_72 w_1388 ⟨rfl, rfl⟩ hd_X2_hear ⟨Nat.le_of_ble_eq_true rfl, Nat.le_of_ble_eq_true rfl⟩ (kdlt1 (rfl : kdI 1 = 1)) ((shI_1 (rfl : kdI 1 = 1)) _) rfl rfl rfl hl.1 rfl (Nat.le_of_ble_eq_true rfl) dX9_croak_33 ⟨Nat.le_of_ble_eq_true rfl, Nat.le_of_ble_eq_true rfl⟩) (fun H locs hI => ?_)
  exact ex_zm C0 hI hr hlocks rfl hf dX9_croak_36


set_option maxHeartbeats 4000000 in
set_option maxRecDepth 100000 in
theorem p_X9_croak (l : Launch) (g : GG) (X : va_W) (r : Nat → Nat) (b : Nat → Nat) (sz n : Nat) (M : Mem) (x1 : Int32) (x2 : Int32) (x3 : Int32) (x4 : Int32) {r0 : Int32} {M' : Mem} (hf : F_X9_croak n x1 x2 x3 x4 M = some (.inr r0, M')) : Met l yX9_croak (.code yX9_croak cX9_croak 5 (some .int) :: LWg) (rmD 10 0 0) (va_Pc [.ref (b 0), .int x1, .int x2, .int x3, .int x4] (PreP g X 372 (shI g r b) b sz M)) (Qi g X 372 (shI g r b) b sz r0 M') 0 0 (AA X b 372 sz) := by
  refine met_go (by decide +kernel) rfl (Nat.le_of_ble_eq_true rfl) ?_
  intro p e s m below meth c ls H locs C0 C1 hr hlocks hnm hsz hl hI
  subst hsz
  have hl : lv_has ls 5 [(0, .ref (b 0)), (1, .int x1), (2, .int x2), (3, .int x3), (4, .int x4)] := hl
  unfold F_X9_croak at hf
  refine lv_aload_n C0.1 C0.2.1 dX9_croak_0 rfl (lv_at hl 0 rfl) ?_
  refine r_get (C := RX9) (T := TX9) (N9 := 11) (ci := 10) C0 C1 hI iX9 rfl 0 0 (kdlt0 (rfl : kdI 0 = 0)) (by decide) ((shI_0 (rfl : kdI 0 = 0)) _) rfl rfl w_342 dX9_croak_1 ?_
  refine lv_iload_n C0.1 C0.2.1 dX9_croak_4 rfl (lv_at hl 1 rfl) ?_
  refine lv_iload_n C0.1 C0.2.1 dX9_croak_5 rfl (lv_at hl 2 rfl) ?_
  refine lv_iload_n C0.1 C0.2.1 dX9_croak_6 rfl (lv_at hl 3 rfl) ?_
  obtain ⟨r_2, h_1, hf⟩ := ob_some hf
  refine k_e C1 hI (q_VN C0 C1 hI 1 (c_X2_refusalToHear l g X r b H.size n M 1 (rfl : kdI 1 = 1) x1 x2 x3 h_1) 55 rfl w_1347 w_57 w_72 w_1348 ⟨rfl, rfl⟩ hd_X2_refusalToHear ⟨Nat.le_of_ble_eq_true rfl, Nat.le_of_ble_eq_true rfl⟩ (kdlt1 (rfl : kdI 1 = 1)) ((shI_1 (rfl : kdI 1 = 1)) _) rfl rfl rfl hl.1 rfl (Nat.le_of_ble_eq_true rfl) dX9_croak_7 ⟨Nat.le_of_ble_eq_true rfl, Nat.le_of_ble_eq_true rfl⟩) (fun H locs hI => ?_)
  obtain ⟨u_5, h_4, hf⟩ := obxr_p hf
  refine k_v C1 hI (q_S C0 C1 hI (p_X9_refuse l g X r b H.size n M r_2 h_4) w_423 w_424 w_71 w_425 ⟨rfl, rfl⟩ hd_X9_refuse ⟨Nat.le_of_ble_eq_true rfl, Nat.le_of_ble_eq_true rfl⟩ rfl hl.1 rfl (Nat.le_of_ble_eq_true rfl) dX9_croak_10 ⟨Nat.le_of_ble_eq_true rfl, Nat.le_of_ble_eq_true rfl⟩) (fun H locs hI => ?_)
  refine lv_aload_n C0.1 C0.2.1 dX9_croak_13 rfl (lv_at hl 0 rfl) ?_
  refine r_get (C := RX9) (T := TX9) (N9 := 11) (ci := 10) C0 C1 hI iX9 rfl 0 4 (kdlt0 (rfl : kdI 0 = 0)) (by decide) ((shI_0 (rfl : kdI 0 = 0)) _) rfl rfl w_346 dX9_croak_14 ?_
  refine lv_aload_n C0.1 C0.2.1 dX9_croak_17 rfl (lv_at hl 0 rfl) ?_
  refine r_get (C := RX9) (T := TX9) (N9 := 11) (ci := 10) C0 C1 hI iX9 rfl 0 0 (kdlt0 (rfl : kdI 0 = 0)) (by decide) ((shI_0 (rfl : kdI 0 = 0)) _) rfl rfl w_342 dX9_croak_18 ?_
  obtain ⟨M_7, h_6, hf⟩ := ob_some hf
  refine k_v C1 hI (q_VN C0 C1 hI 94 (c_X5_push l g X r b H.size n M 94 (rfl : kdI 94 = 6) 1 (rfl : kdI 1 = 1) h_6) 18 rfl w_723 w_17 w_74 w_724 ⟨rfl, rfl⟩ hd_X5_push ⟨Nat.le_of_ble_eq_true rfl, Nat.le_of_ble_eq_true rfl⟩ (kdlt6 (rfl : kdI 94 = 6)) ((shI_6 (rfl : kdI 94 = 6)) _) rfl rfl rfl hl.1 rfl (Nat.le_of_ble_eq_true rfl) dX9_croak_21 ⟨Nat.le_of_ble_eq_true rfl, Nat.le_of_ble_eq_true rfl⟩) (fun H locs hI => ?_)
  refine lv_aload_n C0.1 C0.2.1 dX9_croak_24 rfl (lv_at hl 0 rfl) ?_
  refine r_get (C := RX9) (T := TX9) (N9 := 11) (ci := 10) C0 C1 hI iX9 rfl 0 0 (kdlt0 (rfl : kdI 0 = 0)) (by decide) ((shI_0 (rfl : kdI 0 = 0)) _) rfl rfl w_342 dX9_croak_25 ?_
  refine lv_iload_n C0.1 C0.2.1 dX9_croak_28 rfl (lv_at hl 1 rfl) ?_
  refine lv_iload_n C0.1 C0.2.1 dX9_croak_29 rfl (lv_at hl 2 rfl) ?_
  refine lv_iload_n C0.1 C0.2.1 dX9_croak_30 rfl (lv_at hl 3 rfl) ?_
  refine lv_iload C0.1 C0.2.1 dX9_croak_31 (lv_at hl 4 rfl) ?_
  obtain ⟨r_9, M_10, h_8, hf⟩ := ob2_some hf
  refine k_i C1 hI (q_VN C0 C1 hI 1 (c_X2_hear l g X r b H.size n M_7 1 (rfl : kdI 1 = 1) x1 x2 x3 x4 h_8) 56 rfl w_1387 w_64 w_72 w_1388 ⟨rfl, rfl⟩ hd_X2_hear ⟨Nat.le_of_ble_eq_true rfl, Nat.le_of_ble_eq_true rfl⟩ (kdlt1 (rfl : kdI 1 = 1)) ((shI_1 (rfl : kdI 1 = 1)) _) rfl rfl rfl hl.1 rfl (Nat.le_of_ble_eq_true rfl) dX9_croak_33 ⟨Nat.le_of_ble_eq_true rfl, Nat.le_of_ble_eq_true rfl⟩) (fun H locs hI => ?_)
  exact ep_zm C0 hI hr hlocks rfl hf dX9_croak_36

def F_X9_decide (n : Nat) (x1 : Int32) (M : Mem) : Option (RX Int32 × Mem) :=
  ob (F_X2_refusalToSettle n 1 x1 M) (fun r_2 => obxr (F_X9_refuse n r_2 M) M (fun u_5 => ob (F_X5_push n 94 1 M) (fun M_10 => ob2 (F_X2_settle n 1 x1 M_10) (fun r_12 M_13 => chk (isB r_12) (some (.inr r_12, M_13))))))
theorem hd_X9_decide : yX9_decide.cls ≠ "java/lang/invoke/MethodHandle" ∧ yX9_decide.cls ≠ "java/lang/invoke/VarHandle" ∧ (parseMethodDescriptor yX9_decide.desc).map (fun d => d.parameters.length) = some 1 := ⟨by decide +kernel, by decide +kernel, by decide +kernel⟩
set_option maxHeartbeats 4000000 in
set_option maxRecDepth 100000 in
theorem c_X9_decide (l : Launch) (hl0 : l.stackTraces = false) (g : GG) (X : va_W) (r : Nat → Nat) (b : Nat → Nat) (sz n : Nat) (M : Mem) (x1 : Int32) {q0 : RX Int32} {M' : Mem} (hf : F_X9_decide n x1 M = some (q0, M')) : vx_Met l yX9_decide (.code yX9_decide cX9_decide 2 (some .boolean) :: LWg) (rmD 10 1 6) (va_Pc [.ref (b 0), .int x1] (PreP g X 372 (shI g r b) b sz M)) (QiX g X 372 (shI g r b) b sz q0 M') (XcX g X 372 (shI g r b) b sz q0 M') 1 6 (AA X b 372 sz) := by
  refine metx_go (by decide +kernel) rfl (Nat.le_of_ble_eq_true rfl) ?_
  intro p e s m below meth c ls H locs C0 C1 hr hlocks hno hsz hl hI
  subst hsz
  have hl : lv_has ls 2 [(0, .ref (b 0)), (1, .int x1)] := hl
  unfold F_X9_decide at hf
  refine lv_aload_n C0.1 C0.2.1 dX9_decide_0 rfl (lv_at hl 0 rfl) ?_
  refine r_get (C := RX9) (T := TX9) (N9 := 11) (ci := 10) C0 C1 hI iX9 rfl 0 0 (kdlt0 (rfl : kdI 0 = 0)) (by decide) ((shI_0 (rfl : kdI 0 = 0)) _) rfl rfl w_342 dX9_decide_1 ?_
  refine lv_iload_n C0.1 C0.2.1 dX9_decide_4 rfl (lv_at hl 1 rfl) ?_
  obtain ⟨r_2, h_1, hf⟩ := ob_some hf
  refine k_e C1 hI (q_VN C0 C1 hI 1 (c_X2_refusalToSettle l g X r b H.size n M 1 (rfl : kdI 1 = 1) x1 h_1) 37 rfl w_914 w_43 w_72 w_915 ⟨rfl, rfl⟩ hd_X2_refusalToSettle ⟨Nat.le_of_ble_eq_true rfl, Nat.le_of_ble_eq_true rfl⟩ (kdlt1 (rfl : kdI 1 = 1)) ((shI_1 (rfl : kdI 1 = 1)) _) rfl rfl rfl hl.1 rfl (Nat.le_of_ble_eq_true rfl) dX9_decide_5 ⟨Nat.le_of_ble_eq_true rfl, Nat.le_of_ble_eq_true rfl⟩) (fun H locs hI => ?_)
  obtain ⟨q_6, h_4, h_7, h_8⟩ := obxr_x hf
  refine kx_v C1 hI (qx_S C0 C1 hI (c_X9_refuse l hl0 g X r b H.size n M r_2 h_4) w_423 w_424 w_71 w_425 ⟨rfl, rfl⟩ hd_X9_refuse ⟨Nat.le_of_ble_eq_true rfl, Nat.le_of_ble_eq_true rfl⟩ rfl hl.1 rfl (Nat.le_of_ble_eq_true rfl) dX9_decide_8 ⟨Nat.le_of_ble_eq_true rfl, Nat.le_of_ble_eq_true rfl⟩) (fun k H locs ce q9 e1 hI g1 g2 g3 => x_outm hno hlocks hI g1 g2 g3 (h_7 k e1) (Nat.le_of_ble_eq_true rfl) (Nat.le_of_ble_eq_true rfl)) (fun u_5 H locs e1 hI => ?_)
  have hf := h_8 u_5 e1
  refine lv_aload_n C0.1 C0.2.1 dX9_decide_11 rfl (lv_at hl 0 rfl) ?_
  refine r_get (C := RX9) (T := TX9) (N9 := 11) (ci := 10) C0 C1 hI iX9 rfl 0 4 (kdlt0 (rfl : kdI 0 = 0)) (by decide) ((shI_0 (rfl : kdI 0 = 0)) _) rfl rfl w_346 dX9_decide_12 ?_
  refine lv_aload_n C0.1 C0.2.1 dX9_decide_15 rfl (lv_at hl 0 rfl) ?_
  refine r_get (C := RX9) (T := TX9) (N9 := 11) (ci := 10) C0 C1 hI iX9 rfl 0 0 (kdlt0 (rfl : kdI 0 = 0)) (by decide) ((shI_0 (rfl : kdI 0 = 0)) _) rfl rfl w_342 dX9_decide_16 ?_
  obtain ⟨M_10, h_9, hf⟩ := ob_some hf
  refine k_v C1 hI (q_VN C0 C1 hI 94 (c_X5_push l g X r b H.size n M 94 (rfl : kdI 94 = 6) 1 (rfl : kdI 1 = 1) h_9) 18 rfl w_723 w_17 w_74 w_724 ⟨rfl, rfl⟩ hd_X5_push ⟨Nat.le_of_ble_eq_true rfl, Nat.le_of_ble_eq_true rfl⟩ (kdlt6 (rfl : kdI 94 = 6)) ((shI_6 (rfl : kdI 94 = 6)) _) rfl rfl rfl hl.1 rfl (Nat.le_of_ble_eq_true rfl) dX9_decide_19 ⟨Nat.le_of_ble_eq_true rfl, Nat.le_of_ble_eq_true rfl⟩) (fun H locs hI => ?_)
  refine lv_aload_n C0.1 C0.2.1 dX9_decide_22 rfl (lv_at hl 0 rfl) ?_
  refine r_get (C := RX9) (T := TX9) (N9 := 11) (ci := 10) C0 C1 hI iX9 rfl 0 0 (kdlt0 (rfl : kdI 0 = 0)) (by decide) ((shI_0 (rfl : kdI 0 = 0)) _) rfl rfl w_342 dX9_decide_23 ?_
  refine lv_iload_n C0.1 C0.2.1 dX9_decide_26 rfl (lv_at hl 1 rfl) ?_
  obtain ⟨r_12, M_13, h_11, hf⟩ := ob2_some hf
  refine k_i C1 hI (q_VN C0 C1 hI 1 (c_X2_settle l g X r b H.size n M_10 1 (rfl : kdI 1 = 1) x1 h_11) 38 rfl w_922 w_44 w_72 w_923 ⟨rfl, rfl⟩ hd_X2_settle ⟨Nat.le_of_ble_eq_true rfl, Nat.le_of_ble_eq_true rfl⟩ (kdlt1 (rfl : kdI 1 = 1)) ((shI_1 (rfl : kdI 1 = 1)) _) rfl rfl rfl hl.1 rfl (Nat.le_of_ble_eq_true rfl) dX9_decide_27 ⟨Nat.le_of_ble_eq_true rfl, Nat.le_of_ble_eq_true rfl⟩) (fun H locs hI => ?_)
  obtain ⟨h_14, hf⟩ := chk_some hf
  exact ex_zm C0 hI hr hlocks (isB_n h_14).1 hf dX9_decide_30


set_option maxHeartbeats 4000000 in
set_option maxRecDepth 100000 in
theorem p_X9_decide (l : Launch) (g : GG) (X : va_W) (r : Nat → Nat) (b : Nat → Nat) (sz n : Nat) (M : Mem) (x1 : Int32) {r0 : Int32} {M' : Mem} (hf : F_X9_decide n x1 M = some (.inr r0, M')) : Met l yX9_decide (.code yX9_decide cX9_decide 2 (some .boolean) :: LWg) (rmD 10 0 0) (va_Pc [.ref (b 0), .int x1] (PreP g X 372 (shI g r b) b sz M)) (Qi g X 372 (shI g r b) b sz r0 M') 0 0 (AA X b 372 sz) := by
  refine met_go (by decide +kernel) rfl (Nat.le_of_ble_eq_true rfl) ?_
  intro p e s m below meth c ls H locs C0 C1 hr hlocks hnm hsz hl hI
  subst hsz
  have hl : lv_has ls 2 [(0, .ref (b 0)), (1, .int x1)] := hl
  unfold F_X9_decide at hf
  refine lv_aload_n C0.1 C0.2.1 dX9_decide_0 rfl (lv_at hl 0 rfl) ?_
  refine r_get (C := RX9) (T := TX9) (N9 := 11) (ci := 10) C0 C1 hI iX9 rfl 0 0 (kdlt0 (rfl : kdI 0 = 0)) (by decide) ((shI_0 (rfl : kdI 0 = 0)) _) rfl rfl w_342 dX9_decide_1 ?_
  refine lv_iload_n C0.1 C0.2.1 dX9_decide_4 rfl (lv_at hl 1 rfl) ?_
  obtain ⟨r_2, h_1, hf⟩ := ob_some hf
  refine k_e C1 hI (q_VN C0 C1 hI 1 (c_X2_refusalToSettle l g X r b H.size n M 1 (rfl : kdI 1 = 1) x1 h_1) 37 rfl w_914 w_43 w_72 w_915 ⟨rfl, rfl⟩ hd_X2_refusalToSettle ⟨Nat.le_of_ble_eq_true rfl, Nat.le_of_ble_eq_true rfl⟩ (kdlt1 (rfl : kdI 1 = 1)) ((shI_1 (rfl : kdI 1 = 1)) _) rfl rfl rfl hl.1 rfl (Nat.le_of_ble_eq_true rfl) dX9_decide_5 ⟨Nat.le_of_ble_eq_true rfl, Nat.le_of_ble_eq_true rfl⟩) (fun H locs hI => ?_)
  obtain ⟨u_5, h_4, hf⟩ := obxr_p hf
  refine k_v C1 hI (q_S C0 C1 hI (p_X9_refuse l g X r b H.size n M r_2 h_4) w_423 w_424 w_71 w_425 ⟨rfl, rfl⟩ hd_X9_refuse ⟨Nat.le_of_ble_eq_true rfl, Nat.le_of_ble_eq_true rfl⟩ rfl hl.1 rfl (Nat.le_of_ble_eq_true rfl) dX9_decide_8 ⟨Nat.le_of_ble_eq_true rfl, Nat.le_of_ble_eq_true rfl⟩) (fun H locs hI => ?_)
  refine lv_aload_n C0.1 C0.2.1 dX9_decide_11 rfl (lv_at hl 0 rfl) ?_
  refine r_get (C := RX9) (T := TX9) (N9 := 11) (ci := 10) C0 C1 hI iX9 rfl 0 4 (kdlt0 (rfl : kdI 0 = 0)) (by decide) ((shI_0 (rfl : kdI 0 = 0)) _) rfl rfl w_346 dX9_decide_12 ?_
  refine lv_aload_n C0.1 C0.2.1 dX9_decide_15 rfl (lv_at hl 0 rfl) ?_
  refine r_get (C := RX9) (T := TX9) (N9 := 11) (ci := 10) C0 C1 hI iX9 rfl 0 0 (kdlt0 (rfl : kdI 0 = 0)) (by decide) ((shI_0 (rfl : kdI 0 = 0)) _) rfl rfl w_342 dX9_decide_16 ?_
  obtain ⟨M_7, h_6, hf⟩ := ob_some hf
  refine k_v C1 hI (q_VN C0 C1 hI 94 (c_X5_push l g X r b H.size n M 94 (rfl : kdI 94 = 6) 1 (rfl : kdI 1 = 1) h_6) 18 rfl w_723 w_17 w_74 w_724 ⟨rfl, rfl⟩ hd_X5_push ⟨Nat.le_of_ble_eq_true rfl, Nat.le_of_ble_eq_true rfl⟩ (kdlt6 (rfl : kdI 94 = 6)) ((shI_6 (rfl : kdI 94 = 6)) _) rfl rfl rfl hl.1 rfl (Nat.le_of_ble_eq_true rfl) dX9_decide_19 ⟨Nat.le_of_ble_eq_true rfl, Nat.le_of_ble_eq_true rfl⟩) (fun H locs hI => ?_)
  refine lv_aload_n C0.1 C0.2.1 dX9_decide_22 rfl (lv_at hl 0 rfl) ?_
  refine r_get (C := RX9) (T := TX9) (N9 := 11) (ci := 10) C0 C1 hI iX9 rfl 0 0 (kdlt0 (rfl : kdI 0 = 0)) (by decide) ((shI_0 (rfl : kdI 0 = 0)) _) rfl rfl w_342 dX9_decide_23 ?_
  refine lv_iload_n C0.1 C0.2.1 dX9_decide_26 rfl (lv_at hl 1 rfl) ?_
  obtain ⟨r_9, M_10, h_8, hf⟩ := ob2_some hf
  refine k_i C1 hI (q_VN C0 C1 hI 1 (c_X2_settle l g X r b H.size n M_7 1 (rfl : kdI 1 = 1) x1 h_8) 38 rfl w_922 w_44 w_72 w_923 ⟨rfl, rfl⟩ hd_X2_settle ⟨Nat.le_of_ble_eq_true rfl, Nat.le_of_ble_eq_true rfl⟩ (kdlt1 (rfl : kdI 1 = 1)) ((shI_1 (rfl : kdI 1 = 1)) _) rfl rfl rfl hl.1 rfl (Nat.le_of_ble_eq_true rfl) dX9_decide_27 ⟨Nat.le_of_ble_eq_true rfl, Nat.le_of_ble_eq_true rfl⟩) (fun H locs hI => ?_)
  obtain ⟨h_11, hf⟩ := chk_some hf
  exact ep_zm C0 hI hr hlocks (isB_n h_11).1 hf dX9_decide_30

def F_X9_isDecided (n : Nat) (x1 : Int32) (M : Mem) : Option (RX Int32) :=
  obx (F_X9_requireMotion n x1 M) (fun u_3 => chk (inb x1 6) (chk (isB (M (1 + 6 + 1 + 4 * ix x1) 9)) (some (.inr (M (1 + 6 + 1 + 4 * ix x1) 9)))))
theorem hd_X9_isDecided : yX9_isDecided.cls ≠ "java/lang/invoke/MethodHandle" ∧ yX9_isDecided.cls ≠ "java/lang/invoke/VarHandle" ∧ (parseMethodDescriptor yX9_isDecided.desc).map (fun d => d.parameters.length) = some 1 := ⟨by decide +kernel, by decide +kernel, by decide +kernel⟩
set_option maxHeartbeats 4000000 in
set_option maxRecDepth 100000 in
theorem c_X9_isDecided (l : Launch) (hl0 : l.stackTraces = false) (g : GG) (X : va_W) (r : Nat → Nat) (b : Nat → Nat) (sz n : Nat) (M : Mem) (x1 : Int32) {q0 : RX Int32} (hf : F_X9_isDecided n x1 M = some q0) : vx_Met l yX9_isDecided (.code yX9_isDecided cX9_isDecided 2 (some .boolean) :: LWg) (rmD 11 1 6) (va_Pc [.ref (b 0), .int x1] (PreP g X 372 (shI g r b) b sz M)) (QiX g X 372 (shI g r b) b sz q0 M) (XcX g X 372 (shI g r b) b sz q0 M) 1 6 (AA X b 372 sz) := by
  refine metx_go (by decide +kernel) rfl (Nat.le_of_ble_eq_true rfl) ?_
  intro p e s m below meth c ls H locs C0 C1 hr hlocks hno hsz hl hI
  subst hsz
  have hl : lv_has ls 2 [(0, .ref (b 0)), (1, .int x1)] := hl
  unfold F_X9_isDecided at hf
  refine lv_aload_n C0.1 C0.2.1 dX9_isDecided_0 rfl (lv_at hl 0 rfl) ?_
  refine lv_iload_n C0.1 C0.2.1 dX9_isDecided_1 rfl (lv_at hl 1 rfl) ?_
  obtain ⟨q_4, h_2, h_5, h_6⟩ := obx_x hf
  refine kx_v C1 hI (qx_V C0 C1 hI 0 (c_X9_requireMotion l hl0 g X r b H.size n M x1 h_2) w_411 w_413 w_2 w_71 w_414 ⟨rfl, rfl⟩ hd_X9_requireMotion ⟨Nat.le_of_ble_eq_true rfl, Nat.le_of_ble_eq_true rfl⟩ (kdlt0 (rfl : kdI 0 = 0)) ((shI_0 (rfl : kdI 0 = 0)) _) rfl rfl rfl hl.1 rfl (Nat.le_of_ble_eq_true rfl) dX9_isDecided_2 ⟨Nat.le_of_ble_eq_true rfl, Nat.le_of_ble_eq_true rfl⟩) (fun k H locs ce q9 e1 hI g1 g2 g3 => x_out hno hlocks hI g1 g2 g3 (h_5 k e1) (Nat.le_of_ble_eq_true rfl) (Nat.le_of_ble_eq_true rfl)) (fun u_3 H locs e1 hI => ?_)
  have hf := h_6 u_3 e1
  refine lv_aload_n C0.1 C0.2.1 dX9_isDecided_5 rfl (lv_at hl 0 rfl) ?_
  refine r_get (C := RX9) (T := TX9) (N9 := 11) (ci := 10) C0 C1 hI iX9 rfl 0 0 (kdlt0 (rfl : kdI 0 = 0)) (by decide) ((shI_0 (rfl : kdI 0 = 0)) _) rfl rfl w_342 dX9_isDecided_6 ?_
  refine r_getN (C := RX2) (T := TX2) (N9 := 12) (ci := 4) C0 C1 hI iX2 rfl 1 9 (kdlt1 (rfl : kdI 1 = 1)) (by decide) ((shI_1 (rfl : kdI 1 = 1)) _) rfl rfl 29 rfl dX9_isDecided_9 ?_
  refine lv_iload_n C0.1 C0.2.1 dX9_isDecided_12 rfl (lv_at hl 1 rfl) ?_
  obtain ⟨h_7, hf⟩ := chk_some hf
  refine r_aald (t0 := 1) C0 C1 hI (1 + 6) (kdlt4 (kd1_6 (rfl : kdI 1 = 1))) (shI_4 (kd1_6 (rfl : kdI 1 = 1))) rfl h_7 rfl dX9_isDecided_13 ?_
  refine r_getN (C := RX6) (T := TX6) (N9 := 12) (ci := 8) C0 C1 hI iX6 rfl (1 + 6 + 1 + 4 * ix x1) 9 (kdlt5 (kd4_i (kd1_6 (rfl : kdI 1 = 1)) h_7)) (by decide) ((shI_5 (kd4_i (kd1_6 (rfl : kdI 1 = 1)) h_7)) _) rfl rfl 16 rfl dX9_isDecided_14 ?_
  obtain ⟨h_8, hf⟩ := chk_some hf
  exact ex_z C0 hI hr hlocks (isB_n h_8).1 hf dX9_isDecided_17


set_option maxHeartbeats 4000000 in
set_option maxRecDepth 100000 in
theorem p_X9_isDecided (l : Launch) (g : GG) (X : va_W) (r : Nat → Nat) (b : Nat → Nat) (sz n : Nat) (M : Mem) (x1 : Int32) {r0 : Int32} (hf : F_X9_isDecided n x1 M = some (.inr r0)) : Met l yX9_isDecided (.code yX9_isDecided cX9_isDecided 2 (some .boolean) :: LWg) (rmD 11 0 0) (va_Pc [.ref (b 0), .int x1] (PreP g X 372 (shI g r b) b sz M)) (Qi g X 372 (shI g r b) b sz r0 M) 0 0 (AA X b 372 sz) := by
  refine met_go (by decide +kernel) rfl (Nat.le_of_ble_eq_true rfl) ?_
  intro p e s m below meth c ls H locs C0 C1 hr hlocks hnm hsz hl hI
  subst hsz
  have hl : lv_has ls 2 [(0, .ref (b 0)), (1, .int x1)] := hl
  unfold F_X9_isDecided at hf
  refine lv_aload_n C0.1 C0.2.1 dX9_isDecided_0 rfl (lv_at hl 0 rfl) ?_
  refine lv_iload_n C0.1 C0.2.1 dX9_isDecided_1 rfl (lv_at hl 1 rfl) ?_
  obtain ⟨u_3, h_2, hf⟩ := obx_p hf
  refine k_v C1 hI (q_V C0 C1 hI 0 (p_X9_requireMotion l g X r b H.size n M x1 h_2) w_411 w_413 w_2 w_71 w_414 ⟨rfl, rfl⟩ hd_X9_requireMotion ⟨Nat.le_of_ble_eq_true rfl, Nat.le_of_ble_eq_true rfl⟩ (kdlt0 (rfl : kdI 0 = 0)) ((shI_0 (rfl : kdI 0 = 0)) _) rfl rfl rfl hl.1 rfl (Nat.le_of_ble_eq_true rfl) dX9_isDecided_2 ⟨Nat.le_of_ble_eq_true rfl, Nat.le_of_ble_eq_true rfl⟩) (fun H locs hI => ?_)
  refine lv_aload_n C0.1 C0.2.1 dX9_isDecided_5 rfl (lv_at hl 0 rfl) ?_
  refine r_get (C := RX9) (T := TX9) (N9 := 11) (ci := 10) C0 C1 hI iX9 rfl 0 0 (kdlt0 (rfl : kdI 0 = 0)) (by decide) ((shI_0 (rfl : kdI 0 = 0)) _) rfl rfl w_342 dX9_isDecided_6 ?_
  refine r_getN (C := RX2) (T := TX2) (N9 := 12) (ci := 4) C0 C1 hI iX2 rfl 1 9 (kdlt1 (rfl : kdI 1 = 1)) (by decide) ((shI_1 (rfl : kdI 1 = 1)) _) rfl rfl 29 rfl dX9_isDecided_9 ?_
  refine lv_iload_n C0.1 C0.2.1 dX9_isDecided_12 rfl (lv_at hl 1 rfl) ?_
  obtain ⟨h_4, hf⟩ := chk_some hf
  refine r_aald (t0 := 1) C0 C1 hI (1 + 6) (kdlt4 (kd1_6 (rfl : kdI 1 = 1))) (shI_4 (kd1_6 (rfl : kdI 1 = 1))) rfl h_4 rfl dX9_isDecided_13 ?_
  refine r_getN (C := RX6) (T := TX6) (N9 := 12) (ci := 8) C0 C1 hI iX6 rfl (1 + 6 + 1 + 4 * ix x1) 9 (kdlt5 (kd4_i (kd1_6 (rfl : kdI 1 = 1)) h_4)) (by decide) ((shI_5 (kd4_i (kd1_6 (rfl : kdI 1 = 1)) h_4)) _) rfl rfl 16 rfl dX9_isDecided_14 ?_
  obtain ⟨h_5, hf⟩ := chk_some hf
  exact ep_z C0 hI hr hlocks (isB_n h_5).1 hf dX9_isDecided_17

def F_X9_isAdopted (n : Nat) (x1 : Int32) (M : Mem) : Option (RX Int32) :=
  obx (F_X9_requireMotion n x1 M) (fun u_3 => chk (inb x1 6) (chk (isB (M (1 + 6 + 1 + 4 * ix x1) 10)) (some (.inr (M (1 + 6 + 1 + 4 * ix x1) 10)))))
theorem hd_X9_isAdopted : yX9_isAdopted.cls ≠ "java/lang/invoke/MethodHandle" ∧ yX9_isAdopted.cls ≠ "java/lang/invoke/VarHandle" ∧ (parseMethodDescriptor yX9_isAdopted.desc).map (fun d => d.parameters.length) = some 1 := ⟨by decide +kernel, by decide +kernel, by decide +kernel⟩
set_option maxHeartbeats 4000000 in
set_option maxRecDepth 100000 in
theorem c_X9_isAdopted (l : Launch) (hl0 : l.stackTraces = false) (g : GG) (X : va_W) (r : Nat → Nat) (b : Nat → Nat) (sz n : Nat) (M : Mem) (x1 : Int32) {q0 : RX Int32} (hf : F_X9_isAdopted n x1 M = some q0) : vx_Met l yX9_isAdopted (.code yX9_isAdopted cX9_isAdopted 2 (some .boolean) :: LWg) (rmD 11 1 6) (va_Pc [.ref (b 0), .int x1] (PreP g X 372 (shI g r b) b sz M)) (QiX g X 372 (shI g r b) b sz q0 M) (XcX g X 372 (shI g r b) b sz q0 M) 1 6 (AA X b 372 sz) := by
  refine metx_go (by decide +kernel) rfl (Nat.le_of_ble_eq_true rfl) ?_
  intro p e s m below meth c ls H locs C0 C1 hr hlocks hno hsz hl hI
  subst hsz
  have hl : lv_has ls 2 [(0, .ref (b 0)), (1, .int x1)] := hl
  unfold F_X9_isAdopted at hf
  refine lv_aload_n C0.1 C0.2.1 dX9_isAdopted_0 rfl (lv_at hl 0 rfl) ?_
  refine lv_iload_n C0.1 C0.2.1 dX9_isAdopted_1 rfl (lv_at hl 1 rfl) ?_
  obtain ⟨q_4, h_2, h_5, h_6⟩ := obx_x hf
  refine kx_v C1 hI (qx_V C0 C1 hI 0 (c_X9_requireMotion l hl0 g X r b H.size n M x1 h_2) w_411 w_413 w_2 w_71 w_414 ⟨rfl, rfl⟩ hd_X9_requireMotion ⟨Nat.le_of_ble_eq_true rfl, Nat.le_of_ble_eq_true rfl⟩ (kdlt0 (rfl : kdI 0 = 0)) ((shI_0 (rfl : kdI 0 = 0)) _) rfl rfl rfl hl.1 rfl (Nat.le_of_ble_eq_true rfl) dX9_isAdopted_2 ⟨Nat.le_of_ble_eq_true rfl, Nat.le_of_ble_eq_true rfl⟩) (fun k H locs ce q9 e1 hI g1 g2 g3 => x_out hno hlocks hI g1 g2 g3 (h_5 k e1) (Nat.le_of_ble_eq_true rfl) (Nat.le_of_ble_eq_true rfl)) (fun u_3 H locs e1 hI => ?_)
  have hf := h_6 u_3 e1
  refine lv_aload_n C0.1 C0.2.1 dX9_isAdopted_5 rfl (lv_at hl 0 rfl) ?_
  refine r_get (C := RX9) (T := TX9) (N9 := 11) (ci := 10) C0 C1 hI iX9 rfl 0 0 (kdlt0 (rfl : kdI 0 = 0)) (by decide) ((shI_0 (rfl : kdI 0 = 0)) _) rfl rfl w_342 dX9_isAdopted_6 ?_
  refine r_getN (C := RX2) (T := TX2) (N9 := 12) (ci := 4) C0 C1 hI iX2 rfl 1 9 (kdlt1 (rfl : kdI 1 = 1)) (by decide) ((shI_1 (rfl : kdI 1 = 1)) _) rfl rfl 29 rfl dX9_isAdopted_9 ?_
  refine lv_iload_n C0.1 C0.2.1 dX9_isAdopted_12 rfl (lv_at hl 1 rfl) ?_
  obtain ⟨h_7, hf⟩ := chk_some hf
  refine r_aald (t0 := 1) C0 C1 hI (1 + 6) (kdlt4 (kd1_6 (rfl : kdI 1 = 1))) (shI_4 (kd1_6 (rfl : kdI 1 = 1))) rfl h_7 rfl dX9_isAdopted_13 ?_
  refine r_getN (C := RX6) (T := TX6) (N9 := 12) (ci := 8) C0 C1 hI iX6 rfl (1 + 6 + 1 + 4 * ix x1) 10 (kdlt5 (kd4_i (kd1_6 (rfl : kdI 1 = 1)) h_7)) (by decide) ((shI_5 (kd4_i (kd1_6 (rfl : kdI 1 = 1)) h_7)) _) rfl rfl 17 rfl dX9_isAdopted_14 ?_
  obtain ⟨h_8, hf⟩ := chk_some hf
  exact ex_z C0 hI hr hlocks (isB_n h_8).1 hf dX9_isAdopted_17


set_option maxHeartbeats 4000000 in
set_option maxRecDepth 100000 in
theorem p_X9_isAdopted (l : Launch) (g : GG) (X : va_W) (r : Nat → Nat) (b : Nat → Nat) (sz n : Nat) (M : Mem) (x1 : Int32) {r0 : Int32} (hf : F_X9_isAdopted n x1 M = some (.inr r0)) : Met l yX9_isAdopted (.code yX9_isAdopted cX9_isAdopted 2 (some .boolean) :: LWg) (rmD 11 0 0) (va_Pc [.ref (b 0), .int x1] (PreP g X 372 (shI g r b) b sz M)) (Qi g X 372 (shI g r b) b sz r0 M) 0 0 (AA X b 372 sz) := by
  refine met_go (by decide +kernel) rfl (Nat.le_of_ble_eq_true rfl) ?_
  intro p e s m below meth c ls H locs C0 C1 hr hlocks hnm hsz hl hI
  subst hsz
  have hl : lv_has ls 2 [(0, .ref (b 0)), (1, .int x1)] := hl
  unfold F_X9_isAdopted at hf
  refine lv_aload_n C0.1 C0.2.1 dX9_isAdopted_0 rfl (lv_at hl 0 rfl) ?_
  refine lv_iload_n C0.1 C0.2.1 dX9_isAdopted_1 rfl (lv_at hl 1 rfl) ?_
  obtain ⟨u_3, h_2, hf⟩ := obx_p hf
  refine k_v C1 hI (q_V C0 C1 hI 0 (p_X9_requireMotion l g X r b H.size n M x1 h_2) w_411 w_413 w_2 w_71 w_414 ⟨rfl, rfl⟩ hd_X9_requireMotion ⟨Nat.le_of_ble_eq_true rfl, Nat.le_of_ble_eq_true rfl⟩ (kdlt0 (rfl : kdI 0 = 0)) ((shI_0 (rfl : kdI 0 = 0)) _) rfl rfl rfl hl.1 rfl (Nat.le_of_ble_eq_true rfl) dX9_isAdopted_2 ⟨Nat.le_of_ble_eq_true rfl, Nat.le_of_ble_eq_true rfl⟩) (fun H locs hI => ?_)
  refine lv_aload_n C0.1 C0.2.1 dX9_isAdopted_5 rfl (lv_at hl 0 rfl) ?_
  refine r_get (C := RX9) (T := TX9) (N9 := 11) (ci := 10) C0 C1 hI iX9 rfl 0 0 (kdlt0 (rfl : kdI 0 = 0)) (by decide) ((shI_0 (rfl : kdI 0 = 0)) _) rfl rfl w_342 dX9_isAdopted_6 ?_
  refine r_getN (C := RX2) (T := TX2) (N9 := 12) (ci := 4) C0 C1 hI iX2 rfl 1 9 (kdlt1 (rfl : kdI 1 = 1)) (by decide) ((shI_1 (rfl : kdI 1 = 1)) _) rfl rfl 29 rfl dX9_isAdopted_9 ?_
  refine lv_iload_n C0.1 C0.2.1 dX9_isAdopted_12 rfl (lv_at hl 1 rfl) ?_
  obtain ⟨h_4, hf⟩ := chk_some hf
  refine r_aald (t0 := 1) C0 C1 hI (1 + 6) (kdlt4 (kd1_6 (rfl : kdI 1 = 1))) (shI_4 (kd1_6 (rfl : kdI 1 = 1))) rfl h_4 rfl dX9_isAdopted_13 ?_
  refine r_getN (C := RX6) (T := TX6) (N9 := 12) (ci := 8) C0 C1 hI iX6 rfl (1 + 6 + 1 + 4 * ix x1) 10 (kdlt5 (kd4_i (kd1_6 (rfl : kdI 1 = 1)) h_4)) (by decide) ((shI_5 (kd4_i (kd1_6 (rfl : kdI 1 = 1)) h_4)) _) rfl rfl 17 rfl dX9_isAdopted_14 ?_
  obtain ⟨h_5, hf⟩ := chk_some hf
  exact ep_z C0 hI hr hlocks (isB_n h_5).1 hf dX9_isAdopted_17

def F_X9_croaksFor (n : Nat) (x1 : Int32) (M : Mem) : Option (RX Int32) :=
  obx (F_X9_requireMotion n x1 M) (fun u_3 => chk (inb x1 6) (ob (F_X6_sumOfSide n (1 + 6 + 1 + 4 * ix x1) 1 M) (fun r_9 => some (.inr r_9))))
theorem hd_X9_croaksFor : yX9_croaksFor.cls ≠ "java/lang/invoke/MethodHandle" ∧ yX9_croaksFor.cls ≠ "java/lang/invoke/VarHandle" ∧ (parseMethodDescriptor yX9_croaksFor.desc).map (fun d => d.parameters.length) = some 1 := ⟨by decide +kernel, by decide +kernel, by decide +kernel⟩
set_option maxHeartbeats 4000000 in
set_option maxRecDepth 100000 in
theorem c_X9_croaksFor (l : Launch) (hl0 : l.stackTraces = false) (g : GG) (X : va_W) (r : Nat → Nat) (b : Nat → Nat) (sz n : Nat) (M : Mem) (x1 : Int32) {q0 : RX Int32} (hf : F_X9_croaksFor n x1 M = some q0) : vx_Met l yX9_croaksFor (.code yX9_croaksFor cX9_croaksFor 2 (some .int) :: LWg) (rmD 11 1 6) (va_Pc [.ref (b 0), .int x1] (PreP g X 372 (shI g r b) b sz M)) (QiX g X 372 (shI g r b) b sz q0 M) (XcX g X 372 (shI g r b) b sz q0 M) 1 6 (AA X b 372 sz) := by
  refine metx_go (by decide +kernel) rfl (Nat.le_of_ble_eq_true rfl) ?_
  intro p e s m below meth c ls H locs C0 C1 hr hlocks hno hsz hl hI
  subst hsz
  have hl : lv_has ls 2 [(0, .ref (b 0)), (1, .int x1)] := hl
  unfold F_X9_croaksFor at hf
  refine lv_aload_n C0.1 C0.2.1 dX9_croaksFor_0 rfl (lv_at hl 0 rfl) ?_
  refine lv_iload_n C0.1 C0.2.1 dX9_croaksFor_1 rfl (lv_at hl 1 rfl) ?_
  obtain ⟨q_4, h_2, h_5, h_6⟩ := obx_x hf
  refine kx_v C1 hI (qx_V C0 C1 hI 0 (c_X9_requireMotion l hl0 g X r b H.size n M x1 h_2) w_411 w_413 w_2 w_71 w_414 ⟨rfl, rfl⟩ hd_X9_requireMotion ⟨Nat.le_of_ble_eq_true rfl, Nat.le_of_ble_eq_true rfl⟩ (kdlt0 (rfl : kdI 0 = 0)) ((shI_0 (rfl : kdI 0 = 0)) _) rfl rfl rfl hl.1 rfl (Nat.le_of_ble_eq_true rfl) dX9_croaksFor_2 ⟨Nat.le_of_ble_eq_true rfl, Nat.le_of_ble_eq_true rfl⟩) (fun k H locs ce q9 e1 hI g1 g2 g3 => x_out hno hlocks hI g1 g2 g3 (h_5 k e1) (Nat.le_of_ble_eq_true rfl) (Nat.le_of_ble_eq_true rfl)) (fun u_3 H locs e1 hI => ?_)
  have hf := h_6 u_3 e1
  refine lv_aload_n C0.1 C0.2.1 dX9_croaksFor_5 rfl (lv_at hl 0 rfl) ?_
  refine r_get (C := RX9) (T := TX9) (N9 := 11) (ci := 10) C0 C1 hI iX9 rfl 0 0 (kdlt0 (rfl : kdI 0 = 0)) (by decide) ((shI_0 (rfl : kdI 0 = 0)) _) rfl rfl w_342 dX9_croaksFor_6 ?_
  refine r_getN (C := RX2) (T := TX2) (N9 := 12) (ci := 4) C0 C1 hI iX2 rfl 1 9 (kdlt1 (rfl : kdI 1 = 1)) (by decide) ((shI_1 (rfl : kdI 1 = 1)) _) rfl rfl 29 rfl dX9_croaksFor_9 ?_
  refine lv_iload_n C0.1 C0.2.1 dX9_croaksFor_12 rfl (lv_at hl 1 rfl) ?_
  obtain ⟨h_7, hf⟩ := chk_some hf
  refine r_aald (t0 := 1) C0 C1 hI (1 + 6) (kdlt4 (kd1_6 (rfl : kdI 1 = 1))) (shI_4 (kd1_6 (rfl : kdI 1 = 1))) rfl h_7 rfl dX9_croaksFor_13 ?_
  refine lv_iconst (v := 1) C0.1 C0.2.1 dX9_croaksFor_14 (by decide) ?_
  obtain ⟨r_9, h_8, hf⟩ := ob_some hf
  refine k_i C1 hI (q_VN C0 C1 hI (1 + 6 + 1 + 4 * ix x1) (c_X6_sumOfSide l g X r b H.size n M (1 + 6 + 1 + 4 * ix x1) (kd4_i (kd1_6 (rfl : kdI 1 = 1)) h_7) 1 h_8) 14 rfl w_640 w_13 w_73 w_641 ⟨rfl, rfl⟩ hd_X6_sumOfSide ⟨Nat.le_of_ble_eq_true rfl, Nat.le_of_ble_eq_true rfl⟩ (kdlt5 (kd4_i (kd1_6 (rfl : kdI 1 = 1)) h_7)) ((shI_5 (kd4_i (kd1_6 (rfl : kdI 1 = 1)) h_7)) _) rfl rfl rfl hl.1 rfl (Nat.le_of_ble_eq_true rfl) dX9_croaksFor_15 ⟨Nat.le_of_ble_eq_true rfl, Nat.le_of_ble_eq_true rfl⟩) (fun H locs hI => ?_)
  exact ex_z C0 hI hr hlocks rfl hf dX9_croaksFor_18


set_option maxHeartbeats 4000000 in
set_option maxRecDepth 100000 in
theorem p_X9_croaksFor (l : Launch) (g : GG) (X : va_W) (r : Nat → Nat) (b : Nat → Nat) (sz n : Nat) (M : Mem) (x1 : Int32) {r0 : Int32} (hf : F_X9_croaksFor n x1 M = some (.inr r0)) : Met l yX9_croaksFor (.code yX9_croaksFor cX9_croaksFor 2 (some .int) :: LWg) (rmD 11 0 0) (va_Pc [.ref (b 0), .int x1] (PreP g X 372 (shI g r b) b sz M)) (Qi g X 372 (shI g r b) b sz r0 M) 0 0 (AA X b 372 sz) := by
  refine met_go (by decide +kernel) rfl (Nat.le_of_ble_eq_true rfl) ?_
  intro p e s m below meth c ls H locs C0 C1 hr hlocks hnm hsz hl hI
  subst hsz
  have hl : lv_has ls 2 [(0, .ref (b 0)), (1, .int x1)] := hl
  unfold F_X9_croaksFor at hf
  refine lv_aload_n C0.1 C0.2.1 dX9_croaksFor_0 rfl (lv_at hl 0 rfl) ?_
  refine lv_iload_n C0.1 C0.2.1 dX9_croaksFor_1 rfl (lv_at hl 1 rfl) ?_
  obtain ⟨u_3, h_2, hf⟩ := obx_p hf
  refine k_v C1 hI (q_V C0 C1 hI 0 (p_X9_requireMotion l g X r b H.size n M x1 h_2) w_411 w_413 w_2 w_71 w_414 ⟨rfl, rfl⟩ hd_X9_requireMotion ⟨Nat.le_of_ble_eq_true rfl, Nat.le_of_ble_eq_true rfl⟩ (kdlt0 (rfl : kdI 0 = 0)) ((shI_0 (rfl : kdI 0 = 0)) _) rfl rfl rfl hl.1 rfl (Nat.le_of_ble_eq_true rfl) dX9_croaksFor_2 ⟨Nat.le_of_ble_eq_true rfl, Nat.le_of_ble_eq_true rfl⟩) (fun H locs hI => ?_)
  refine lv_aload_n C0.1 C0.2.1 dX9_croaksFor_5 rfl (lv_at hl 0 rfl) ?_
  refine r_get (C := RX9) (T := TX9) (N9 := 11) (ci := 10) C0 C1 hI iX9 rfl 0 0 (kdlt0 (rfl : kdI 0 = 0)) (by decide) ((shI_0 (rfl : kdI 0 = 0)) _) rfl rfl w_342 dX9_croaksFor_6 ?_
  refine r_getN (C := RX2) (T := TX2) (N9 := 12) (ci := 4) C0 C1 hI iX2 rfl 1 9 (kdlt1 (rfl : kdI 1 = 1)) (by decide) ((shI_1 (rfl : kdI 1 = 1)) _) rfl rfl 29 rfl dX9_croaksFor_9 ?_
  refine lv_iload_n C0.1 C0.2.1 dX9_croaksFor_12 rfl (lv_at hl 1 rfl) ?_
  obtain ⟨h_4, hf⟩ := chk_some hf
  refine r_aald (t0 := 1) C0 C1 hI (1 + 6) (kdlt4 (kd1_6 (rfl : kdI 1 = 1))) (shI_4 (kd1_6 (rfl : kdI 1 = 1))) rfl h_4 rfl dX9_croaksFor_13 ?_
  refine lv_iconst (v := 1) C0.1 C0.2.1 dX9_croaksFor_14 (by decide) ?_
  obtain ⟨r_6, h_5, hf⟩ := ob_some hf
  refine k_i C1 hI (q_VN C0 C1 hI (1 + 6 + 1 + 4 * ix x1) (c_X6_sumOfSide l g X r b H.size n M (1 + 6 + 1 + 4 * ix x1) (kd4_i (kd1_6 (rfl : kdI 1 = 1)) h_4) 1 h_5) 14 rfl w_640 w_13 w_73 w_641 ⟨rfl, rfl⟩ hd_X6_sumOfSide ⟨Nat.le_of_ble_eq_true rfl, Nat.le_of_ble_eq_true rfl⟩ (kdlt5 (kd4_i (kd1_6 (rfl : kdI 1 = 1)) h_4)) ((shI_5 (kd4_i (kd1_6 (rfl : kdI 1 = 1)) h_4)) _) rfl rfl rfl hl.1 rfl (Nat.le_of_ble_eq_true rfl) dX9_croaksFor_15 ⟨Nat.le_of_ble_eq_true rfl, Nat.le_of_ble_eq_true rfl⟩) (fun H locs hI => ?_)
  exact ep_z C0 hI hr hlocks rfl hf dX9_croaksFor_18

def F_X9_croaksForByPonds_L9 (n : Nat) (M : Mem) : Nat → Int32 → Int32 → Int32 → Option (RX Int32)
  | 0, _, _, _ => none
  | k9 + 1, x1_9, x2_9, x3_9 =>
    (if 4 ≤ x3_9 then some (.inr x2_9) else ob (F_X2_sumForFromPond n 1 x1_9 x3_9 M) (fun r_9_3 => lt' (x2_9 + r_9_3) (fun x2_9_4 => lt' (x3_9 + 1) (fun x3_9_6 => F_X9_croaksForByPonds_L9 n M k9 x1_9 x2_9_4 x3_9_6))))
def F_X9_croaksForByPonds (n : Nat) (x1 : Int32) (M : Mem) : Option (RX Int32) :=
  obx (F_X9_requireMotion n x1 M) (fun u_3 => F_X9_croaksForByPonds_L9 n M n x1 0 0)
theorem hd_X9_croaksForByPonds : yX9_croaksForByPonds.cls ≠ "java/lang/invoke/MethodHandle" ∧ yX9_croaksForByPonds.cls ≠ "java/lang/invoke/VarHandle" ∧ (parseMethodDescriptor yX9_croaksForByPonds.desc).map (fun d => d.parameters.length) = some 1 := ⟨by decide +kernel, by decide +kernel, by decide +kernel⟩
set_option maxHeartbeats 4000000 in
set_option maxRecDepth 100000 in
theorem c_X9_croaksForByPonds (l : Launch) (hl0 : l.stackTraces = false) (g : GG) (X : va_W) (r : Nat → Nat) (b : Nat → Nat) (sz n : Nat) (M : Mem) (x1 : Int32) {q0 : RX Int32} (hf : F_X9_croaksForByPonds n x1 M = some q0) : vx_Met l yX9_croaksForByPonds (.code yX9_croaksForByPonds cX9_croaksForByPonds 4 (some .int) :: LWg) (rmD 11 1 6) (va_Pc [.ref (b 0), .int x1] (PreP g X 372 (shI g r b) b sz M)) (QiX g X 372 (shI g r b) b sz q0 M) (XcX g X 372 (shI g r b) b sz q0 M) 1 6 (AA X b 372 sz) := by
  refine metx_go (by decide +kernel) rfl (Nat.le_of_ble_eq_true rfl) ?_
  intro p e s m below meth c ls H locs C0 C1 hr hlocks hno hsz hl hI
  subst hsz
  have hl : lv_has ls 4 [(0, .ref (b 0)), (1, .int x1)] := hl
  unfold F_X9_croaksForByPonds at hf
  refine lv_aload_n C0.1 C0.2.1 dX9_croaksForByPonds_0 rfl (lv_at hl 0 rfl) ?_
  refine lv_iload_n C0.1 C0.2.1 dX9_croaksForByPonds_1 rfl (lv_at hl 1 rfl) ?_
  obtain ⟨q_4, h_2, h_5, h_6⟩ := obx_x hf
  refine kx_v C1 hI (qx_V C0 C1 hI 0 (c_X9_requireMotion l hl0 g X r b H.size n M x1 h_2) w_411 w_413 w_2 w_71 w_414 ⟨rfl, rfl⟩ hd_X9_requireMotion ⟨Nat.le_of_ble_eq_true rfl, Nat.le_of_ble_eq_true rfl⟩ (kdlt0 (rfl : kdI 0 = 0)) ((shI_0 (rfl : kdI 0 = 0)) _) rfl rfl rfl hl.1 rfl (Nat.le_of_ble_eq_true rfl) dX9_croaksForByPonds_2 ⟨Nat.le_of_ble_eq_true rfl, Nat.le_of_ble_eq_true rfl⟩) (fun k H locs ce q9 e1 hI g1 g2 g3 => x_out hno hlocks hI g1 g2 g3 (h_5 k e1) (Nat.le_of_ble_eq_true rfl) (Nat.le_of_ble_eq_true rfl)) (fun u_3 H locs e1 hI => ?_)
  have hf := h_6 u_3 e1
  refine lv_iconst (v := 0) C0.1 C0.2.1 dX9_croaksForByPonds_5 (by decide) ?_
  refine lv_istore_n (lv' := [(2, .int 0), (0, .ref (b 0)), (1, .int x1)]) C0.1 C0.2.1 dX9_croaksForByPonds_6 rfl hl (by decide) rfl (fun ls hl => ?_)
  refine lv_iconst (v := 0) C0.1 C0.2.1 dX9_croaksForByPonds_7 (by decide) ?_
  refine lv_istore_n (lv' := [(3, .int 0), (2, .int 0), (0, .ref (b 0)), (1, .int x1)]) C0.1 C0.2.1 dX9_croaksForByPonds_8 rfl hl (by decide) rfl (fun ls hl => ?_)
  have L9 : ∀ (k9 : Nat) (x1_9 : Int32) (x2_9 : Int32) (x3_9 : Int32), F_X9_croaksForByPonds_L9 n M k9 x1_9 x2_9 x3_9 = some q0 → ∀ (H : Heap) (locs : List Loc) (ls : Array Slot), PI g X 372 (shI g r b) b s M H locs → lv_has ls 4 [(0, .ref (b 0)), (1, .int x1_9), (2, .int x2_9), (3, .int x3_9)] → W p l e (rmD 11 1 6) s m ([.ref (b 0), .int x1] : List Value).toArray below meth c H locs 1 6 (vx_MQ below (QiX g X 372 (shI g r b) b s.heap.size q0 M) (XcX g X 372 (shI g r b) b s.heap.size q0 M) ([.ref (b 0), .int x1] : List Value).toArray s 1 6 (AA X b 372 s.heap.size)) (F0 m 9 ls []) := by
    intro k9
    induction k9 with
    | zero => intro x1_9 x2_9 x3_9 hf; exact absurd (show (none : Option (RX Int32)) = some q0 from hf) (fun h => by cases h)
    | succ k9 ih9 =>
      intro x1_9 x2_9 x3_9 hf H locs ls hI hl
      unfold F_X9_croaksForByPonds_L9 at hf
      refine lv_iload_n C0.1 C0.2.1 dX9_croaksForByPonds_9 rfl (lv_at hl 3 rfl) ?_
      refine lv_iconst (v := 4) C0.1 C0.2.1 dX9_croaksForByPonds_10 (by decide) ?_
      refine lv_icmp_ge (tgt := 32) C0.1 C0.2.1 dX9_croaksForByPonds_11 (by decide) (fun c_9_1 => ?_) (fun c_9_1 => ?_)
      · have hf := (if_pos c_9_1).symm.trans hf
        refine lv_iload_n C0.1 C0.2.1 dX9_croaksForByPonds_32 rfl (lv_at hl 2 rfl) ?_
        exact ex_z C0 hI hr hlocks rfl hf dX9_croaksForByPonds_33
      · have hf := (if_neg c_9_1).symm.trans hf
        refine lv_iload_n C0.1 C0.2.1 dX9_croaksForByPonds_14 rfl (lv_at hl 2 rfl) ?_
        refine lv_aload_n C0.1 C0.2.1 dX9_croaksForByPonds_15 rfl (lv_at hl 0 rfl) ?_
        refine r_get (C := RX9) (T := TX9) (N9 := 11) (ci := 10) C0 C1 hI iX9 rfl 0 0 (kdlt0 (rfl : kdI 0 = 0)) (by decide) ((shI_0 (rfl : kdI 0 = 0)) _) rfl rfl w_342 dX9_croaksForByPonds_16 ?_
        refine lv_iload_n C0.1 C0.2.1 dX9_croaksForByPonds_19 rfl (lv_at hl 1 rfl) ?_
        refine lv_iload_n C0.1 C0.2.1 dX9_croaksForByPonds_20 rfl (lv_at hl 3 rfl) ?_
        obtain ⟨r_9_3, h_9_2, hf⟩ := ob_some hf
        refine k_i C1 hI (q_VN C0 C1 hI 1 (c_X2_sumForFromPond l g X r b H.size n M 1 (rfl : kdI 1 = 1) x1_9 x3_9 h_9_2) 15 rfl w_652 w_15 w_72 w_653 ⟨rfl, rfl⟩ hd_X2_sumForFromPond ⟨Nat.le_of_ble_eq_true rfl, Nat.le_of_ble_eq_true rfl⟩ (kdlt1 (rfl : kdI 1 = 1)) ((shI_1 (rfl : kdI 1 = 1)) _) rfl rfl rfl hl.1 rfl (Nat.le_of_ble_eq_true rfl) dX9_croaksForByPonds_21 ⟨Nat.le_of_ble_eq_true rfl, Nat.le_of_ble_eq_true rfl⟩) (fun H locs hI => ?_)
        refine lv_iadd C0.1 C0.2.1 dX9_croaksForByPonds_24 ?_
        refine lv_topi (fun x2_9_4 e_9_5 => ?_)
        have hf := lt_at e_9_5 hf
        refine lv_istore_n (lv' := [(2, .int x2_9_4), (0, .ref (b 0)), (1, .int x1_9), (3, .int x3_9)]) C0.1 C0.2.1 dX9_croaksForByPonds_25 rfl hl (by decide) rfl (fun ls hl => ?_)
        obtain ⟨x3_9_6, e_9_7⟩ : ∃ z : Int32, z = x3_9 + 1 := ⟨_, rfl⟩
        have hf := lt_at e_9_7 hf
        refine lv_iinc (v := x3_9_6) (lv' := [(3, .int x3_9_6), (2, .int x2_9_4), (0, .ref (b 0)), (1, .int x1_9)]) C0.1 C0.2.1 dX9_croaksForByPonds_26 hl (k := 3) rfl (by rw [e_9_7]; rfl) (by decide) rfl (fun ls hl => ?_)
        refine lv_goto (tgt := 9) C0.1 C0.2.1 dX9_croaksForByPonds_29 (by decide) ?_
        exact ih9 x1_9 x2_9_4 x3_9_6 hf H locs ls hI (lv_sub hl [2, 3, 1, 0] rfl)
  exact L9 n x1 0 0 hf H locs ls hI (lv_sub hl [2, 3, 1, 0] rfl)


set_option maxHeartbeats 4000000 in
set_option maxRecDepth 100000 in
theorem p_X9_croaksForByPonds (l : Launch) (g : GG) (X : va_W) (r : Nat → Nat) (b : Nat → Nat) (sz n : Nat) (M : Mem) (x1 : Int32) {r0 : Int32} (hf : F_X9_croaksForByPonds n x1 M = some (.inr r0)) : Met l yX9_croaksForByPonds (.code yX9_croaksForByPonds cX9_croaksForByPonds 4 (some .int) :: LWg) (rmD 11 0 0) (va_Pc [.ref (b 0), .int x1] (PreP g X 372 (shI g r b) b sz M)) (Qi g X 372 (shI g r b) b sz r0 M) 0 0 (AA X b 372 sz) := by
  refine met_go (by decide +kernel) rfl (Nat.le_of_ble_eq_true rfl) ?_
  intro p e s m below meth c ls H locs C0 C1 hr hlocks hnm hsz hl hI
  subst hsz
  have hl : lv_has ls 4 [(0, .ref (b 0)), (1, .int x1)] := hl
  unfold F_X9_croaksForByPonds at hf
  refine lv_aload_n C0.1 C0.2.1 dX9_croaksForByPonds_0 rfl (lv_at hl 0 rfl) ?_
  refine lv_iload_n C0.1 C0.2.1 dX9_croaksForByPonds_1 rfl (lv_at hl 1 rfl) ?_
  obtain ⟨u_3, h_2, hf⟩ := obx_p hf
  refine k_v C1 hI (q_V C0 C1 hI 0 (p_X9_requireMotion l g X r b H.size n M x1 h_2) w_411 w_413 w_2 w_71 w_414 ⟨rfl, rfl⟩ hd_X9_requireMotion ⟨Nat.le_of_ble_eq_true rfl, Nat.le_of_ble_eq_true rfl⟩ (kdlt0 (rfl : kdI 0 = 0)) ((shI_0 (rfl : kdI 0 = 0)) _) rfl rfl rfl hl.1 rfl (Nat.le_of_ble_eq_true rfl) dX9_croaksForByPonds_2 ⟨Nat.le_of_ble_eq_true rfl, Nat.le_of_ble_eq_true rfl⟩) (fun H locs hI => ?_)
  refine lv_iconst (v := 0) C0.1 C0.2.1 dX9_croaksForByPonds_5 (by decide) ?_
  refine lv_istore_n (lv' := [(2, .int 0), (0, .ref (b 0)), (1, .int x1)]) C0.1 C0.2.1 dX9_croaksForByPonds_6 rfl hl (by decide) rfl (fun ls hl => ?_)
  refine lv_iconst (v := 0) C0.1 C0.2.1 dX9_croaksForByPonds_7 (by decide) ?_
  refine lv_istore_n (lv' := [(3, .int 0), (2, .int 0), (0, .ref (b 0)), (1, .int x1)]) C0.1 C0.2.1 dX9_croaksForByPonds_8 rfl hl (by decide) rfl (fun ls hl => ?_)
  have L9 : ∀ (k9 : Nat) (x1_9 : Int32) (x2_9 : Int32) (x3_9 : Int32), F_X9_croaksForByPonds_L9 n M k9 x1_9 x2_9 x3_9 = some (.inr r0) → ∀ (H : Heap) (locs : List Loc) (ls : Array Slot), PI g X 372 (shI g r b) b s M H locs → lv_has ls 4 [(0, .ref (b 0)), (1, .int x1_9), (2, .int x2_9), (3, .int x3_9)] → W p l e (rmD 11 0 0) s m ([.ref (b 0), .int x1] : List Value).toArray below meth c H locs 0 0 (MQ below (Qi g X 372 (shI g r b) b s.heap.size r0 M) ([.ref (b 0), .int x1] : List Value).toArray s 0 0 (AA X b 372 s.heap.size)) (F0 m 9 ls []) := by
    intro k9
    induction k9 with
    | zero => intro x1_9 x2_9 x3_9 hf; exact absurd (show (none : Option (RX Int32)) = some (.inr r0) from hf) (fun h => by cases h)
    | succ k9 ih9 =>
      intro x1_9 x2_9 x3_9 hf H locs ls hI hl
      unfold F_X9_croaksForByPonds_L9 at hf
      refine lv_iload_n C0.1 C0.2.1 dX9_croaksForByPonds_9 rfl (lv_at hl 3 rfl) ?_
      refine lv_iconst (v := 4) C0.1 C0.2.1 dX9_croaksForByPonds_10 (by decide) ?_
      refine lv_icmp_ge (tgt := 32) C0.1 C0.2.1 dX9_croaksForByPonds_11 (by decide) (fun c_9_1 => ?_) (fun c_9_1 => ?_)
      · have hf := (if_pos c_9_1).symm.trans hf
        refine lv_iload_n C0.1 C0.2.1 dX9_croaksForByPonds_32 rfl (lv_at hl 2 rfl) ?_
        exact ep_z C0 hI hr hlocks rfl hf dX9_croaksForByPonds_33
      · have hf := (if_neg c_9_1).symm.trans hf
        refine lv_iload_n C0.1 C0.2.1 dX9_croaksForByPonds_14 rfl (lv_at hl 2 rfl) ?_
        refine lv_aload_n C0.1 C0.2.1 dX9_croaksForByPonds_15 rfl (lv_at hl 0 rfl) ?_
        refine r_get (C := RX9) (T := TX9) (N9 := 11) (ci := 10) C0 C1 hI iX9 rfl 0 0 (kdlt0 (rfl : kdI 0 = 0)) (by decide) ((shI_0 (rfl : kdI 0 = 0)) _) rfl rfl w_342 dX9_croaksForByPonds_16 ?_
        refine lv_iload_n C0.1 C0.2.1 dX9_croaksForByPonds_19 rfl (lv_at hl 1 rfl) ?_
        refine lv_iload_n C0.1 C0.2.1 dX9_croaksForByPonds_20 rfl (lv_at hl 3 rfl) ?_
        obtain ⟨r_9_3, h_9_2, hf⟩ := ob_some hf
        refine k_i C1 hI (q_VN C0 C1 hI 1 (c_X2_sumForFromPond l g X r b H.size n M 1 (rfl : kdI 1 = 1) x1_9 x3_9 h_9_2) 15 rfl w_652 w_15 w_72 w_653 ⟨rfl, rfl⟩ hd_X2_sumForFromPond ⟨Nat.le_of_ble_eq_true rfl, Nat.le_of_ble_eq_true rfl⟩ (kdlt1 (rfl : kdI 1 = 1)) ((shI_1 (rfl : kdI 1 = 1)) _) rfl rfl rfl hl.1 rfl (Nat.le_of_ble_eq_true rfl) dX9_croaksForByPonds_21 ⟨Nat.le_of_ble_eq_true rfl, Nat.le_of_ble_eq_true rfl⟩) (fun H locs hI => ?_)
        refine lv_iadd C0.1 C0.2.1 dX9_croaksForByPonds_24 ?_
        refine lv_topi (fun x2_9_4 e_9_5 => ?_)
        have hf := lt_at e_9_5 hf
        refine lv_istore_n (lv' := [(2, .int x2_9_4), (0, .ref (b 0)), (1, .int x1_9), (3, .int x3_9)]) C0.1 C0.2.1 dX9_croaksForByPonds_25 rfl hl (by decide) rfl (fun ls hl => ?_)
        obtain ⟨x3_9_6, e_9_7⟩ : ∃ z : Int32, z = x3_9 + 1 := ⟨_, rfl⟩
        have hf := lt_at e_9_7 hf
        refine lv_iinc (v := x3_9_6) (lv' := [(3, .int x3_9_6), (2, .int x2_9_4), (0, .ref (b 0)), (1, .int x1_9)]) C0.1 C0.2.1 dX9_croaksForByPonds_26 hl (k := 3) rfl (by rw [e_9_7]; rfl) (by decide) rfl (fun ls hl => ?_)
        refine lv_goto (tgt := 9) C0.1 C0.2.1 dX9_croaksForByPonds_29 (by decide) ?_
        exact ih9 x1_9 x2_9_4 x3_9_6 hf H locs ls hI (lv_sub hl [2, 3, 1, 0] rfl)
  exact L9 n x1 0 0 hf H locs ls hI (lv_sub hl [2, 3, 1, 0] rfl)

def F_X9_croaksAgainst (n : Nat) (x1 : Int32) (M : Mem) : Option (RX Int32) :=
  obx (F_X9_requireMotion n x1 M) (fun u_3 => chk (inb x1 6) (ob (F_X6_sumOfSide n (1 + 6 + 1 + 4 * ix x1) 0 M) (fun r_9 => some (.inr r_9))))
theorem hd_X9_croaksAgainst : yX9_croaksAgainst.cls ≠ "java/lang/invoke/MethodHandle" ∧ yX9_croaksAgainst.cls ≠ "java/lang/invoke/VarHandle" ∧ (parseMethodDescriptor yX9_croaksAgainst.desc).map (fun d => d.parameters.length) = some 1 := ⟨by decide +kernel, by decide +kernel, by decide +kernel⟩
set_option maxHeartbeats 4000000 in
set_option maxRecDepth 100000 in
theorem c_X9_croaksAgainst (l : Launch) (hl0 : l.stackTraces = false) (g : GG) (X : va_W) (r : Nat → Nat) (b : Nat → Nat) (sz n : Nat) (M : Mem) (x1 : Int32) {q0 : RX Int32} (hf : F_X9_croaksAgainst n x1 M = some q0) : vx_Met l yX9_croaksAgainst (.code yX9_croaksAgainst cX9_croaksAgainst 2 (some .int) :: LWg) (rmD 11 1 6) (va_Pc [.ref (b 0), .int x1] (PreP g X 372 (shI g r b) b sz M)) (QiX g X 372 (shI g r b) b sz q0 M) (XcX g X 372 (shI g r b) b sz q0 M) 1 6 (AA X b 372 sz) := by
  refine metx_go (by decide +kernel) rfl (Nat.le_of_ble_eq_true rfl) ?_
  intro p e s m below meth c ls H locs C0 C1 hr hlocks hno hsz hl hI
  subst hsz
  have hl : lv_has ls 2 [(0, .ref (b 0)), (1, .int x1)] := hl
  unfold F_X9_croaksAgainst at hf
  refine lv_aload_n C0.1 C0.2.1 dX9_croaksAgainst_0 rfl (lv_at hl 0 rfl) ?_
  refine lv_iload_n C0.1 C0.2.1 dX9_croaksAgainst_1 rfl (lv_at hl 1 rfl) ?_
  obtain ⟨q_4, h_2, h_5, h_6⟩ := obx_x hf
  refine kx_v C1 hI (qx_V C0 C1 hI 0 (c_X9_requireMotion l hl0 g X r b H.size n M x1 h_2) w_411 w_413 w_2 w_71 w_414 ⟨rfl, rfl⟩ hd_X9_requireMotion ⟨Nat.le_of_ble_eq_true rfl, Nat.le_of_ble_eq_true rfl⟩ (kdlt0 (rfl : kdI 0 = 0)) ((shI_0 (rfl : kdI 0 = 0)) _) rfl rfl rfl hl.1 rfl (Nat.le_of_ble_eq_true rfl) dX9_croaksAgainst_2 ⟨Nat.le_of_ble_eq_true rfl, Nat.le_of_ble_eq_true rfl⟩) (fun k H locs ce q9 e1 hI g1 g2 g3 => x_out hno hlocks hI g1 g2 g3 (h_5 k e1) (Nat.le_of_ble_eq_true rfl) (Nat.le_of_ble_eq_true rfl)) (fun u_3 H locs e1 hI => ?_)
  have hf := h_6 u_3 e1
  refine lv_aload_n C0.1 C0.2.1 dX9_croaksAgainst_5 rfl (lv_at hl 0 rfl) ?_
  refine r_get (C := RX9) (T := TX9) (N9 := 11) (ci := 10) C0 C1 hI iX9 rfl 0 0 (kdlt0 (rfl : kdI 0 = 0)) (by decide) ((shI_0 (rfl : kdI 0 = 0)) _) rfl rfl w_342 dX9_croaksAgainst_6 ?_
  refine r_getN (C := RX2) (T := TX2) (N9 := 12) (ci := 4) C0 C1 hI iX2 rfl 1 9 (kdlt1 (rfl : kdI 1 = 1)) (by decide) ((shI_1 (rfl : kdI 1 = 1)) _) rfl rfl 29 rfl dX9_croaksAgainst_9 ?_
  refine lv_iload_n C0.1 C0.2.1 dX9_croaksAgainst_12 rfl (lv_at hl 1 rfl) ?_
  obtain ⟨h_7, hf⟩ := chk_some hf
  refine r_aald (t0 := 1) C0 C1 hI (1 + 6) (kdlt4 (kd1_6 (rfl : kdI 1 = 1))) (shI_4 (kd1_6 (rfl : kdI 1 = 1))) rfl h_7 rfl dX9_croaksAgainst_13 ?_
  refine lv_iconst (v := 0) C0.1 C0.2.1 dX9_croaksAgainst_14 (by decide) ?_
  obtain ⟨r_9, h_8, hf⟩ := ob_some hf
  refine k_i C1 hI (q_VN C0 C1 hI (1 + 6 + 1 + 4 * ix x1) (c_X6_sumOfSide l g X r b H.size n M (1 + 6 + 1 + 4 * ix x1) (kd4_i (kd1_6 (rfl : kdI 1 = 1)) h_7) 0 h_8) 14 rfl w_640 w_13 w_73 w_641 ⟨rfl, rfl⟩ hd_X6_sumOfSide ⟨Nat.le_of_ble_eq_true rfl, Nat.le_of_ble_eq_true rfl⟩ (kdlt5 (kd4_i (kd1_6 (rfl : kdI 1 = 1)) h_7)) ((shI_5 (kd4_i (kd1_6 (rfl : kdI 1 = 1)) h_7)) _) rfl rfl rfl hl.1 rfl (Nat.le_of_ble_eq_true rfl) dX9_croaksAgainst_15 ⟨Nat.le_of_ble_eq_true rfl, Nat.le_of_ble_eq_true rfl⟩) (fun H locs hI => ?_)
  exact ex_z C0 hI hr hlocks rfl hf dX9_croaksAgainst_18


set_option maxHeartbeats 4000000 in
set_option maxRecDepth 100000 in
theorem p_X9_croaksAgainst (l : Launch) (g : GG) (X : va_W) (r : Nat → Nat) (b : Nat → Nat) (sz n : Nat) (M : Mem) (x1 : Int32) {r0 : Int32} (hf : F_X9_croaksAgainst n x1 M = some (.inr r0)) : Met l yX9_croaksAgainst (.code yX9_croaksAgainst cX9_croaksAgainst 2 (some .int) :: LWg) (rmD 11 0 0) (va_Pc [.ref (b 0), .int x1] (PreP g X 372 (shI g r b) b sz M)) (Qi g X 372 (shI g r b) b sz r0 M) 0 0 (AA X b 372 sz) := by
  refine met_go (by decide +kernel) rfl (Nat.le_of_ble_eq_true rfl) ?_
  intro p e s m below meth c ls H locs C0 C1 hr hlocks hnm hsz hl hI
  subst hsz
  have hl : lv_has ls 2 [(0, .ref (b 0)), (1, .int x1)] := hl
  unfold F_X9_croaksAgainst at hf
  refine lv_aload_n C0.1 C0.2.1 dX9_croaksAgainst_0 rfl (lv_at hl 0 rfl) ?_
  refine lv_iload_n C0.1 C0.2.1 dX9_croaksAgainst_1 rfl (lv_at hl 1 rfl) ?_
  obtain ⟨u_3, h_2, hf⟩ := obx_p hf
  refine k_v C1 hI (q_V C0 C1 hI 0 (p_X9_requireMotion l g X r b H.size n M x1 h_2) w_411 w_413 w_2 w_71 w_414 ⟨rfl, rfl⟩ hd_X9_requireMotion ⟨Nat.le_of_ble_eq_true rfl, Nat.le_of_ble_eq_true rfl⟩ (kdlt0 (rfl : kdI 0 = 0)) ((shI_0 (rfl : kdI 0 = 0)) _) rfl rfl rfl hl.1 rfl (Nat.le_of_ble_eq_true rfl) dX9_croaksAgainst_2 ⟨Nat.le_of_ble_eq_true rfl, Nat.le_of_ble_eq_true rfl⟩) (fun H locs hI => ?_)
  refine lv_aload_n C0.1 C0.2.1 dX9_croaksAgainst_5 rfl (lv_at hl 0 rfl) ?_
  refine r_get (C := RX9) (T := TX9) (N9 := 11) (ci := 10) C0 C1 hI iX9 rfl 0 0 (kdlt0 (rfl : kdI 0 = 0)) (by decide) ((shI_0 (rfl : kdI 0 = 0)) _) rfl rfl w_342 dX9_croaksAgainst_6 ?_
  refine r_getN (C := RX2) (T := TX2) (N9 := 12) (ci := 4) C0 C1 hI iX2 rfl 1 9 (kdlt1 (rfl : kdI 1 = 1)) (by decide) ((shI_1 (rfl : kdI 1 = 1)) _) rfl rfl 29 rfl dX9_croaksAgainst_9 ?_
  refine lv_iload_n C0.1 C0.2.1 dX9_croaksAgainst_12 rfl (lv_at hl 1 rfl) ?_
  obtain ⟨h_4, hf⟩ := chk_some hf
  refine r_aald (t0 := 1) C0 C1 hI (1 + 6) (kdlt4 (kd1_6 (rfl : kdI 1 = 1))) (shI_4 (kd1_6 (rfl : kdI 1 = 1))) rfl h_4 rfl dX9_croaksAgainst_13 ?_
  refine lv_iconst (v := 0) C0.1 C0.2.1 dX9_croaksAgainst_14 (by decide) ?_
  obtain ⟨r_6, h_5, hf⟩ := ob_some hf
  refine k_i C1 hI (q_VN C0 C1 hI (1 + 6 + 1 + 4 * ix x1) (c_X6_sumOfSide l g X r b H.size n M (1 + 6 + 1 + 4 * ix x1) (kd4_i (kd1_6 (rfl : kdI 1 = 1)) h_4) 0 h_5) 14 rfl w_640 w_13 w_73 w_641 ⟨rfl, rfl⟩ hd_X6_sumOfSide ⟨Nat.le_of_ble_eq_true rfl, Nat.le_of_ble_eq_true rfl⟩ (kdlt5 (kd4_i (kd1_6 (rfl : kdI 1 = 1)) h_4)) ((shI_5 (kd4_i (kd1_6 (rfl : kdI 1 = 1)) h_4)) _) rfl rfl rfl hl.1 rfl (Nat.le_of_ble_eq_true rfl) dX9_croaksAgainst_15 ⟨Nat.le_of_ble_eq_true rfl, Nat.le_of_ble_eq_true rfl⟩) (fun H locs hI => ?_)
  exact ep_z C0 hI hr hlocks rfl hf dX9_croaksAgainst_18

def F_X9_strongestFrog_L38 (n : Nat) (x1 : Int32) (M : Mem) : Nat → Int32 → Int32 → Option (RX Int32)
  | 0, _, _ => none
  | k38 + 1, x3_38, x4_38 =>
    (if (M (1 + 6 + 1 + 4 * ix x1) 7) ≤ x4_38 then chk (inb x3_38 12) (some (.inr (M (1 + 6 + 1 + 4 * ix x1 + 2) (ix x3_38)))) else chk (inb x4_38 12) (chk (inb x3_38 12) ((if (M (1 + 6 + 1 + 4 * ix x1 + 3) (ix x4_38)) ≤ (M (1 + 6 + 1 + 4 * ix x1 + 3) (ix x3_38)) then lt' (x4_38 + 1) (fun x4_38_6 => F_X9_strongestFrog_L38 n x1 M k38 x3_38 x4_38_6) else lt' (x4_38 + 1) (fun x4_38_8 => F_X9_strongestFrog_L38 n x1 M k38 x4_38 x4_38_8)))))
def F_X9_strongestFrog (n : Nat) (x1 : Int32) (M : Mem) : Option (RX Int32) :=
  obx (F_X9_requireMotion n x1 M) (fun u_3 => chk (inb x1 6) ((if (M (1 + 6 + 1 + 4 * ix x1) 7) = 0 then some (.inl 5) else F_X9_strongestFrog_L38 n x1 M n 0 1)))
theorem hd_X9_strongestFrog : yX9_strongestFrog.cls ≠ "java/lang/invoke/MethodHandle" ∧ yX9_strongestFrog.cls ≠ "java/lang/invoke/VarHandle" ∧ (parseMethodDescriptor yX9_strongestFrog.desc).map (fun d => d.parameters.length) = some 1 := ⟨by decide +kernel, by decide +kernel, by decide +kernel⟩
set_option maxHeartbeats 4000000 in
set_option maxRecDepth 100000 in
theorem c_X9_strongestFrog (l : Launch) (hl0 : l.stackTraces = false) (g : GG) (X : va_W) (r : Nat → Nat) (b : Nat → Nat) (sz n : Nat) (M : Mem) (x1 : Int32) {q0 : RX Int32} (hf : F_X9_strongestFrog n x1 M = some q0) : vx_Met l yX9_strongestFrog (.code yX9_strongestFrog cX9_strongestFrog 5 (some .int) :: LWg) (rmD 11 2 12) (va_Pc [.ref (b 0), .int x1] (PreP g X 372 (shI g r b) b sz M)) (QiX g X 372 (shI g r b) b sz q0 M) (XcX g X 372 (shI g r b) b sz q0 M) 2 12 (AA X b 372 sz) := by
  refine metx_go (by decide +kernel) rfl (Nat.le_of_ble_eq_true rfl) ?_
  intro p e s m below meth c ls H locs C0 C1 hr hlocks hno hsz hl hI
  subst hsz
  have hl : lv_has ls 5 [(0, .ref (b 0)), (1, .int x1)] := hl
  unfold F_X9_strongestFrog at hf
  refine lv_aload_n C0.1 C0.2.1 dX9_strongestFrog_0 rfl (lv_at hl 0 rfl) ?_
  refine lv_iload_n C0.1 C0.2.1 dX9_strongestFrog_1 rfl (lv_at hl 1 rfl) ?_
  obtain ⟨q_4, h_2, h_5, h_6⟩ := obx_x hf
  refine kx_v C1 hI (qx_V C0 C1 hI 0 (c_X9_requireMotion l hl0 g X r b H.size n M x1 h_2) w_411 w_413 w_2 w_71 w_414 ⟨rfl, rfl⟩ hd_X9_requireMotion ⟨Nat.le_of_ble_eq_true rfl, Nat.le_of_ble_eq_true rfl⟩ (kdlt0 (rfl : kdI 0 = 0)) ((shI_0 (rfl : kdI 0 = 0)) _) rfl rfl rfl hl.1 rfl (Nat.le_of_ble_eq_true rfl) dX9_strongestFrog_2 ⟨Nat.le_of_ble_eq_true rfl, Nat.le_of_ble_eq_true rfl⟩) (fun k H locs ce q9 e1 hI g1 g2 g3 => x_out hno hlocks hI g1 g2 g3 (h_5 k e1) (Nat.le_of_ble_eq_true rfl) (Nat.le_of_ble_eq_true rfl)) (fun u_3 H locs e1 hI => ?_)
  have hf := h_6 u_3 e1
  refine lv_aload_n C0.1 C0.2.1 dX9_strongestFrog_5 rfl (lv_at hl 0 rfl) ?_
  refine r_get (C := RX9) (T := TX9) (N9 := 11) (ci := 10) C0 C1 hI iX9 rfl 0 0 (kdlt0 (rfl : kdI 0 = 0)) (by decide) ((shI_0 (rfl : kdI 0 = 0)) _) rfl rfl w_342 dX9_strongestFrog_6 ?_
  refine r_getN (C := RX2) (T := TX2) (N9 := 12) (ci := 4) C0 C1 hI iX2 rfl 1 9 (kdlt1 (rfl : kdI 1 = 1)) (by decide) ((shI_1 (rfl : kdI 1 = 1)) _) rfl rfl 29 rfl dX9_strongestFrog_9 ?_
  refine lv_iload_n C0.1 C0.2.1 dX9_strongestFrog_12 rfl (lv_at hl 1 rfl) ?_
  obtain ⟨h_7, hf⟩ := chk_some hf
  refine r_aald (t0 := 1) C0 C1 hI (1 + 6) (kdlt4 (kd1_6 (rfl : kdI 1 = 1))) (shI_4 (kd1_6 (rfl : kdI 1 = 1))) rfl h_7 rfl dX9_strongestFrog_13 ?_
  refine lv_astore_n (lv' := [(2, .ref (b (1 + 6 + 1 + 4 * ix x1))), (0, .ref (b 0)), (1, .int x1)]) C0.1 C0.2.1 dX9_strongestFrog_14 rfl hl (by decide) rfl (fun ls hl => ?_)
  refine lv_aload_n C0.1 C0.2.1 dX9_strongestFrog_15 rfl (lv_at hl 0 rfl) ?_
  refine r_getN (C := RX6) (T := TX6) (N9 := 12) (ci := 8) C0 C1 hI iX6 rfl (1 + 6 + 1 + 4 * ix x1) 7 (kdlt5 (kd4_i (kd1_6 (rfl : kdI 1 = 1)) h_7)) (by decide) ((shI_5 (kd4_i (kd1_6 (rfl : kdI 1 = 1)) h_7)) _) rfl rfl 14 rfl dX9_strongestFrog_16 ?_
  refine lv_if_ne (tgt := 33) C0.1 C0.2.1 dX9_strongestFrog_19 (by decide) (fun c_8 => ?_) (fun c_8 => ?_)
  · have hf := (if_neg c_8).symm.trans hf
    refine lv_iconst (v := 0) C0.1 C0.2.1 dX9_strongestFrog_33 (by decide) ?_
    refine lv_istore_n (lv' := [(3, .int 0), (2, .ref (b (1 + 6 + 1 + 4 * ix x1))), (0, .ref (b 0)), (1, .int x1)]) C0.1 C0.2.1 dX9_strongestFrog_34 rfl hl (by decide) rfl (fun ls hl => ?_)
    refine lv_iconst (v := 1) C0.1 C0.2.1 dX9_strongestFrog_35 (by decide) ?_
    refine lv_istore (lv' := [(4, .int 1), (3, .int 0), (2, .ref (b (1 + 6 + 1 + 4 * ix x1))), (0, .ref (b 0)), (1, .int x1)]) C0.1 C0.2.1 dX9_strongestFrog_36 hl (by decide) rfl (fun ls hl => ?_)
    have L38 : ∀ (k38 : Nat) (x3_38 : Int32) (x4_38 : Int32), F_X9_strongestFrog_L38 n x1 M k38 x3_38 x4_38 = some q0 → ∀ (H : Heap) (locs : List Loc) (ls : Array Slot), PI g X 372 (shI g r b) b s M H locs → lv_has ls 5 [(2, .ref (b (1 + 6 + 1 + 4 * ix x1))), (3, .int x3_38), (4, .int x4_38)] → W p l e (rmD 11 2 12) s m ([.ref (b 0), .int x1] : List Value).toArray below meth c H locs 1 6 (vx_MQ below (QiX g X 372 (shI g r b) b s.heap.size q0 M) (XcX g X 372 (shI g r b) b s.heap.size q0 M) ([.ref (b 0), .int x1] : List Value).toArray s 2 12 (AA X b 372 s.heap.size)) (F0 m 38 ls []) := by
      intro k38
      induction k38 with
      | zero => intro x3_38 x4_38 hf; exact absurd (show (none : Option (RX Int32)) = some q0 from hf) (fun h => by cases h)
      | succ k38 ih38 =>
        intro x3_38 x4_38 hf H locs ls hI hl
        unfold F_X9_strongestFrog_L38 at hf
        refine lv_iload C0.1 C0.2.1 dX9_strongestFrog_38 (lv_at hl 2 rfl) ?_
        refine lv_aload_n C0.1 C0.2.1 dX9_strongestFrog_40 rfl (lv_at hl 0 rfl) ?_
        refine r_getN (C := RX6) (T := TX6) (N9 := 12) (ci := 8) C0 C1 hI iX6 rfl (1 + 6 + 1 + 4 * ix x1) 7 (kdlt5 (kd4_i (kd1_6 (rfl : kdI 1 = 1)) h_7)) (by decide) ((shI_5 (kd4_i (kd1_6 (rfl : kdI 1 = 1)) h_7)) _) rfl rfl 14 rfl dX9_strongestFrog_41 ?_
        refine lv_icmp_ge (tgt := 72) C0.1 C0.2.1 dX9_strongestFrog_44 (by decide) (fun c_38_1 => ?_) (fun c_38_1 => ?_)
        · have hf := (if_pos c_38_1).symm.trans hf
          refine lv_aload_n C0.1 C0.2.1 dX9_strongestFrog_72 rfl (lv_at hl 0 rfl) ?_
          refine r_getN (C := RX6) (T := TX6) (N9 := 12) (ci := 8) C0 C1 hI iX6 rfl (1 + 6 + 1 + 4 * ix x1) 5 (kdlt5 (kd4_i (kd1_6 (rfl : kdI 1 = 1)) h_7)) (by decide) ((shI_5 (kd4_i (kd1_6 (rfl : kdI 1 = 1)) h_7)) _) rfl rfl 10 rfl dX9_strongestFrog_73 ?_
          refine lv_iload_n C0.1 C0.2.1 dX9_strongestFrog_76 rfl (lv_at hl 1 rfl) ?_
          obtain ⟨h_38_2, hf⟩ := chk_some hf
          refine r_iald C0 C1 hI (1 + 6 + 1 + 4 * ix x1 + 2) (kdlt2 (kd5_2 (kd4_i (kd1_6 (rfl : kdI 1 = 1)) h_7))) (shI_2 (kd5_2 (kd4_i (kd1_6 (rfl : kdI 1 = 1)) h_7))) h_38_2 dX9_strongestFrog_77 ?_
          refine W.widen (k := 2) (n := 12) (Nat.le_of_ble_eq_true rfl) (Nat.le_of_ble_eq_true rfl) ?_
          exact ex_z C0 hI hr hlocks rfl hf dX9_strongestFrog_78
        · have hf := (if_neg c_38_1).symm.trans hf
          refine lv_aload_n C0.1 C0.2.1 dX9_strongestFrog_47 rfl (lv_at hl 0 rfl) ?_
          refine r_getN (C := RX6) (T := TX6) (N9 := 12) (ci := 8) C0 C1 hI iX6 rfl (1 + 6 + 1 + 4 * ix x1) 6 (kdlt5 (kd4_i (kd1_6 (rfl : kdI 1 = 1)) h_7)) (by decide) ((shI_5 (kd4_i (kd1_6 (rfl : kdI 1 = 1)) h_7)) _) rfl rfl 12 rfl dX9_strongestFrog_48 ?_
          refine lv_iload C0.1 C0.2.1 dX9_strongestFrog_51 (lv_at hl 2 rfl) ?_
          obtain ⟨h_38_3, hf⟩ := chk_some hf
          refine r_iald C0 C1 hI (1 + 6 + 1 + 4 * ix x1 + 3) (kdlt2 (kd5_3 (kd4_i (kd1_6 (rfl : kdI 1 = 1)) h_7))) (shI_2 (kd5_3 (kd4_i (kd1_6 (rfl : kdI 1 = 1)) h_7))) h_38_3 dX9_strongestFrog_53 ?_
          refine lv_aload_n C0.1 C0.2.1 dX9_strongestFrog_54 rfl (lv_at hl 0 rfl) ?_
          refine r_getN (C := RX6) (T := TX6) (N9 := 12) (ci := 8) C0 C1 hI iX6 rfl (1 + 6 + 1 + 4 * ix x1) 6 (kdlt5 (kd4_i (kd1_6 (rfl : kdI 1 = 1)) h_7)) (by decide) ((shI_5 (kd4_i (kd1_6 (rfl : kdI 1 = 1)) h_7)) _) rfl rfl 12 rfl dX9_strongestFrog_55 ?_
          refine lv_iload_n C0.1 C0.2.1 dX9_strongestFrog_58 rfl (lv_at hl 1 rfl) ?_
          obtain ⟨h_38_4, hf⟩ := chk_some hf
          refine r_iald C0 C1 hI (1 + 6 + 1 + 4 * ix x1 + 3) (kdlt2 (kd5_3 (kd4_i (kd1_6 (rfl : kdI 1 = 1)) h_7))) (shI_2 (kd5_3 (kd4_i (kd1_6 (rfl : kdI 1 = 1)) h_7))) h_38_4 dX9_strongestFrog_59 ?_
          refine lv_icmp_le (tgt := 66) C0.1 C0.2.1 dX9_strongestFrog_60 (by decide) (fun c_38_5 => ?_) (fun c_38_5 => ?_)
          · have hf := (if_pos c_38_5).symm.trans hf
            obtain ⟨x4_38_6, e_38_7⟩ : ∃ z : Int32, z = x4_38 + 1 := ⟨_, rfl⟩
            have hf := lt_at e_38_7 hf
            refine lv_iinc (v := x4_38_6) (lv' := [(4, .int x4_38_6), (2, .ref (b (1 + 6 + 1 + 4 * ix x1))), (3, .int x3_38)]) C0.1 C0.2.1 dX9_strongestFrog_66 hl (k := 2) rfl (by rw [e_38_7]; rfl) (by decide) rfl (fun ls hl => ?_)
            refine lv_goto (tgt := 38) C0.1 C0.2.1 dX9_strongestFrog_69 (by decide) ?_
            exact ih38 x3_38 x4_38_6 hf H locs ls hI (lv_sub hl [1, 2, 0] rfl)
          · have hf := (if_neg c_38_5).symm.trans hf
            refine lv_iload C0.1 C0.2.1 dX9_strongestFrog_63 (lv_at hl 2 rfl) ?_
            refine lv_istore_n (lv' := [(3, .int x4_38), (2, .ref (b (1 + 6 + 1 + 4 * ix x1))), (4, .int x4_38)]) C0.1 C0.2.1 dX9_strongestFrog_65 rfl hl (by decide) rfl (fun ls hl => ?_)
            obtain ⟨x4_38_8, e_38_9⟩ : ∃ z : Int32, z = x4_38 + 1 := ⟨_, rfl⟩
            have hf := lt_at e_38_9 hf
            refine lv_iinc (v := x4_38_8) (lv' := [(4, .int x4_38_8), (3, .int x4_38), (2, .ref (b (1 + 6 + 1 + 4 * ix x1)))]) C0.1 C0.2.1 dX9_strongestFrog_66 hl (k := 2) rfl (by rw [e_38_9]; rfl) (by decide) rfl (fun ls hl => ?_)
            refine lv_goto (tgt := 38) C0.1 C0.2.1 dX9_strongestFrog_69 (by decide) ?_
            exact ih38 x4_38 x4_38_8 hf H locs ls hI (lv_sub hl [2, 1, 0] rfl)
    exact L38 n 0 1 hf H locs ls hI (lv_sub hl [2, 1, 0] rfl)
  · have hf := (if_pos c_8).symm.trans hf
    exact r_throwWN C0 C1 hI hl0 hl.1 hno hlocks (E := 5) (sk := 22) rfl (by decide +kernel) (by decide +kernel) nzY nz0 nz1 nz2 nz5 w_572 w_89 at_NSE ag_NSE dX9_strongestFrog_22 dX9_strongestFrog_25 dX9_strongestFrog_26 dX9_strongestFrog_29 dX9_strongestFrog_32 (Nat.le_of_ble_eq_true rfl) (Nat.le_of_ble_eq_true rfl) (Nat.le_of_ble_eq_true rfl) (Nat.le_of_ble_eq_true rfl) hf (Nat.le_of_ble_eq_true rfl) (Nat.le_of_ble_eq_true rfl)


set_option maxHeartbeats 4000000 in
set_option maxRecDepth 100000 in
theorem p_X9_strongestFrog (l : Launch) (g : GG) (X : va_W) (r : Nat → Nat) (b : Nat → Nat) (sz n : Nat) (M : Mem) (x1 : Int32) {r0 : Int32} (hf : F_X9_strongestFrog n x1 M = some (.inr r0)) : Met l yX9_strongestFrog (.code yX9_strongestFrog cX9_strongestFrog 5 (some .int) :: LWg) (rmD 11 0 0) (va_Pc [.ref (b 0), .int x1] (PreP g X 372 (shI g r b) b sz M)) (Qi g X 372 (shI g r b) b sz r0 M) 0 0 (AA X b 372 sz) := by
  refine met_go (by decide +kernel) rfl (Nat.le_of_ble_eq_true rfl) ?_
  intro p e s m below meth c ls H locs C0 C1 hr hlocks hnm hsz hl hI
  subst hsz
  have hl : lv_has ls 5 [(0, .ref (b 0)), (1, .int x1)] := hl
  unfold F_X9_strongestFrog at hf
  refine lv_aload_n C0.1 C0.2.1 dX9_strongestFrog_0 rfl (lv_at hl 0 rfl) ?_
  refine lv_iload_n C0.1 C0.2.1 dX9_strongestFrog_1 rfl (lv_at hl 1 rfl) ?_
  obtain ⟨u_3, h_2, hf⟩ := obx_p hf
  refine k_v C1 hI (q_V C0 C1 hI 0 (p_X9_requireMotion l g X r b H.size n M x1 h_2) w_411 w_413 w_2 w_71 w_414 ⟨rfl, rfl⟩ hd_X9_requireMotion ⟨Nat.le_of_ble_eq_true rfl, Nat.le_of_ble_eq_true rfl⟩ (kdlt0 (rfl : kdI 0 = 0)) ((shI_0 (rfl : kdI 0 = 0)) _) rfl rfl rfl hl.1 rfl (Nat.le_of_ble_eq_true rfl) dX9_strongestFrog_2 ⟨Nat.le_of_ble_eq_true rfl, Nat.le_of_ble_eq_true rfl⟩) (fun H locs hI => ?_)
  refine lv_aload_n C0.1 C0.2.1 dX9_strongestFrog_5 rfl (lv_at hl 0 rfl) ?_
  refine r_get (C := RX9) (T := TX9) (N9 := 11) (ci := 10) C0 C1 hI iX9 rfl 0 0 (kdlt0 (rfl : kdI 0 = 0)) (by decide) ((shI_0 (rfl : kdI 0 = 0)) _) rfl rfl w_342 dX9_strongestFrog_6 ?_
  refine r_getN (C := RX2) (T := TX2) (N9 := 12) (ci := 4) C0 C1 hI iX2 rfl 1 9 (kdlt1 (rfl : kdI 1 = 1)) (by decide) ((shI_1 (rfl : kdI 1 = 1)) _) rfl rfl 29 rfl dX9_strongestFrog_9 ?_
  refine lv_iload_n C0.1 C0.2.1 dX9_strongestFrog_12 rfl (lv_at hl 1 rfl) ?_
  obtain ⟨h_4, hf⟩ := chk_some hf
  refine r_aald (t0 := 1) C0 C1 hI (1 + 6) (kdlt4 (kd1_6 (rfl : kdI 1 = 1))) (shI_4 (kd1_6 (rfl : kdI 1 = 1))) rfl h_4 rfl dX9_strongestFrog_13 ?_
  refine lv_astore_n (lv' := [(2, .ref (b (1 + 6 + 1 + 4 * ix x1))), (0, .ref (b 0)), (1, .int x1)]) C0.1 C0.2.1 dX9_strongestFrog_14 rfl hl (by decide) rfl (fun ls hl => ?_)
  refine lv_aload_n C0.1 C0.2.1 dX9_strongestFrog_15 rfl (lv_at hl 0 rfl) ?_
  refine r_getN (C := RX6) (T := TX6) (N9 := 12) (ci := 8) C0 C1 hI iX6 rfl (1 + 6 + 1 + 4 * ix x1) 7 (kdlt5 (kd4_i (kd1_6 (rfl : kdI 1 = 1)) h_4)) (by decide) ((shI_5 (kd4_i (kd1_6 (rfl : kdI 1 = 1)) h_4)) _) rfl rfl 14 rfl dX9_strongestFrog_16 ?_
  refine lv_if_ne (tgt := 33) C0.1 C0.2.1 dX9_strongestFrog_19 (by decide) (fun c_5 => ?_) (fun c_5 => ?_)
  · have hf := (if_neg c_5).symm.trans hf
    refine lv_iconst (v := 0) C0.1 C0.2.1 dX9_strongestFrog_33 (by decide) ?_
    refine lv_istore_n (lv' := [(3, .int 0), (2, .ref (b (1 + 6 + 1 + 4 * ix x1))), (0, .ref (b 0)), (1, .int x1)]) C0.1 C0.2.1 dX9_strongestFrog_34 rfl hl (by decide) rfl (fun ls hl => ?_)
    refine lv_iconst (v := 1) C0.1 C0.2.1 dX9_strongestFrog_35 (by decide) ?_
    refine lv_istore (lv' := [(4, .int 1), (3, .int 0), (2, .ref (b (1 + 6 + 1 + 4 * ix x1))), (0, .ref (b 0)), (1, .int x1)]) C0.1 C0.2.1 dX9_strongestFrog_36 hl (by decide) rfl (fun ls hl => ?_)
    have L38 : ∀ (k38 : Nat) (x3_38 : Int32) (x4_38 : Int32), F_X9_strongestFrog_L38 n x1 M k38 x3_38 x4_38 = some (.inr r0) → ∀ (H : Heap) (locs : List Loc) (ls : Array Slot), PI g X 372 (shI g r b) b s M H locs → lv_has ls 5 [(2, .ref (b (1 + 6 + 1 + 4 * ix x1))), (3, .int x3_38), (4, .int x4_38)] → W p l e (rmD 11 0 0) s m ([.ref (b 0), .int x1] : List Value).toArray below meth c H locs 0 0 (MQ below (Qi g X 372 (shI g r b) b s.heap.size r0 M) ([.ref (b 0), .int x1] : List Value).toArray s 0 0 (AA X b 372 s.heap.size)) (F0 m 38 ls []) := by
      intro k38
      induction k38 with
      | zero => intro x3_38 x4_38 hf; exact absurd (show (none : Option (RX Int32)) = some (.inr r0) from hf) (fun h => by cases h)
      | succ k38 ih38 =>
        intro x3_38 x4_38 hf H locs ls hI hl
        unfold F_X9_strongestFrog_L38 at hf
        refine lv_iload C0.1 C0.2.1 dX9_strongestFrog_38 (lv_at hl 2 rfl) ?_
        refine lv_aload_n C0.1 C0.2.1 dX9_strongestFrog_40 rfl (lv_at hl 0 rfl) ?_
        refine r_getN (C := RX6) (T := TX6) (N9 := 12) (ci := 8) C0 C1 hI iX6 rfl (1 + 6 + 1 + 4 * ix x1) 7 (kdlt5 (kd4_i (kd1_6 (rfl : kdI 1 = 1)) h_4)) (by decide) ((shI_5 (kd4_i (kd1_6 (rfl : kdI 1 = 1)) h_4)) _) rfl rfl 14 rfl dX9_strongestFrog_41 ?_
        refine lv_icmp_ge (tgt := 72) C0.1 C0.2.1 dX9_strongestFrog_44 (by decide) (fun c_38_1 => ?_) (fun c_38_1 => ?_)
        · have hf := (if_pos c_38_1).symm.trans hf
          refine lv_aload_n C0.1 C0.2.1 dX9_strongestFrog_72 rfl (lv_at hl 0 rfl) ?_
          refine r_getN (C := RX6) (T := TX6) (N9 := 12) (ci := 8) C0 C1 hI iX6 rfl (1 + 6 + 1 + 4 * ix x1) 5 (kdlt5 (kd4_i (kd1_6 (rfl : kdI 1 = 1)) h_4)) (by decide) ((shI_5 (kd4_i (kd1_6 (rfl : kdI 1 = 1)) h_4)) _) rfl rfl 10 rfl dX9_strongestFrog_73 ?_
          refine lv_iload_n C0.1 C0.2.1 dX9_strongestFrog_76 rfl (lv_at hl 1 rfl) ?_
          obtain ⟨h_38_2, hf⟩ := chk_some hf
          refine r_iald C0 C1 hI (1 + 6 + 1 + 4 * ix x1 + 2) (kdlt2 (kd5_2 (kd4_i (kd1_6 (rfl : kdI 1 = 1)) h_4))) (shI_2 (kd5_2 (kd4_i (kd1_6 (rfl : kdI 1 = 1)) h_4))) h_38_2 dX9_strongestFrog_77 ?_
          exact ep_z C0 hI hr hlocks rfl hf dX9_strongestFrog_78
        · have hf := (if_neg c_38_1).symm.trans hf
          refine lv_aload_n C0.1 C0.2.1 dX9_strongestFrog_47 rfl (lv_at hl 0 rfl) ?_
          refine r_getN (C := RX6) (T := TX6) (N9 := 12) (ci := 8) C0 C1 hI iX6 rfl (1 + 6 + 1 + 4 * ix x1) 6 (kdlt5 (kd4_i (kd1_6 (rfl : kdI 1 = 1)) h_4)) (by decide) ((shI_5 (kd4_i (kd1_6 (rfl : kdI 1 = 1)) h_4)) _) rfl rfl 12 rfl dX9_strongestFrog_48 ?_
          refine lv_iload C0.1 C0.2.1 dX9_strongestFrog_51 (lv_at hl 2 rfl) ?_
          obtain ⟨h_38_3, hf⟩ := chk_some hf
          refine r_iald C0 C1 hI (1 + 6 + 1 + 4 * ix x1 + 3) (kdlt2 (kd5_3 (kd4_i (kd1_6 (rfl : kdI 1 = 1)) h_4))) (shI_2 (kd5_3 (kd4_i (kd1_6 (rfl : kdI 1 = 1)) h_4))) h_38_3 dX9_strongestFrog_53 ?_
          refine lv_aload_n C0.1 C0.2.1 dX9_strongestFrog_54 rfl (lv_at hl 0 rfl) ?_
          refine r_getN (C := RX6) (T := TX6) (N9 := 12) (ci := 8) C0 C1 hI iX6 rfl (1 + 6 + 1 + 4 * ix x1) 6 (kdlt5 (kd4_i (kd1_6 (rfl : kdI 1 = 1)) h_4)) (by decide) ((shI_5 (kd4_i (kd1_6 (rfl : kdI 1 = 1)) h_4)) _) rfl rfl 12 rfl dX9_strongestFrog_55 ?_
          refine lv_iload_n C0.1 C0.2.1 dX9_strongestFrog_58 rfl (lv_at hl 1 rfl) ?_
          obtain ⟨h_38_4, hf⟩ := chk_some hf
          refine r_iald C0 C1 hI (1 + 6 + 1 + 4 * ix x1 + 3) (kdlt2 (kd5_3 (kd4_i (kd1_6 (rfl : kdI 1 = 1)) h_4))) (shI_2 (kd5_3 (kd4_i (kd1_6 (rfl : kdI 1 = 1)) h_4))) h_38_4 dX9_strongestFrog_59 ?_
          refine lv_icmp_le (tgt := 66) C0.1 C0.2.1 dX9_strongestFrog_60 (by decide) (fun c_38_5 => ?_) (fun c_38_5 => ?_)
          · have hf := (if_pos c_38_5).symm.trans hf
            obtain ⟨x4_38_6, e_38_7⟩ : ∃ z : Int32, z = x4_38 + 1 := ⟨_, rfl⟩
            have hf := lt_at e_38_7 hf
            refine lv_iinc (v := x4_38_6) (lv' := [(4, .int x4_38_6), (2, .ref (b (1 + 6 + 1 + 4 * ix x1))), (3, .int x3_38)]) C0.1 C0.2.1 dX9_strongestFrog_66 hl (k := 2) rfl (by rw [e_38_7]; rfl) (by decide) rfl (fun ls hl => ?_)
            refine lv_goto (tgt := 38) C0.1 C0.2.1 dX9_strongestFrog_69 (by decide) ?_
            exact ih38 x3_38 x4_38_6 hf H locs ls hI (lv_sub hl [1, 2, 0] rfl)
          · have hf := (if_neg c_38_5).symm.trans hf
            refine lv_iload C0.1 C0.2.1 dX9_strongestFrog_63 (lv_at hl 2 rfl) ?_
            refine lv_istore_n (lv' := [(3, .int x4_38), (2, .ref (b (1 + 6 + 1 + 4 * ix x1))), (4, .int x4_38)]) C0.1 C0.2.1 dX9_strongestFrog_65 rfl hl (by decide) rfl (fun ls hl => ?_)
            obtain ⟨x4_38_8, e_38_9⟩ : ∃ z : Int32, z = x4_38 + 1 := ⟨_, rfl⟩
            have hf := lt_at e_38_9 hf
            refine lv_iinc (v := x4_38_8) (lv' := [(4, .int x4_38_8), (3, .int x4_38), (2, .ref (b (1 + 6 + 1 + 4 * ix x1)))]) C0.1 C0.2.1 dX9_strongestFrog_66 hl (k := 2) rfl (by rw [e_38_9]; rfl) (by decide) rfl (fun ls hl => ?_)
            refine lv_goto (tgt := 38) C0.1 C0.2.1 dX9_strongestFrog_69 (by decide) ?_
            exact ih38 x4_38 x4_38_8 hf H locs ls hI (lv_sub hl [2, 1, 0] rfl)
    exact L38 n 0 1 hf H locs ls hI (lv_sub hl [2, 1, 0] rfl)
  · have hf := (if_pos c_5).symm.trans hf
    exact nomatch hf

def F_X9_speechTotal (n : Nat) (M : Mem) : Option Int32 :=
  some (M 1 10)
theorem hd_X9_speechTotal : yX9_speechTotal.cls ≠ "java/lang/invoke/MethodHandle" ∧ yX9_speechTotal.cls ≠ "java/lang/invoke/VarHandle" ∧ (parseMethodDescriptor yX9_speechTotal.desc).map (fun d => d.parameters.length) = some 0 := ⟨by decide +kernel, by decide +kernel, by decide +kernel⟩
set_option maxHeartbeats 4000000 in
set_option maxRecDepth 100000 in
theorem c_X9_speechTotal (l : Launch) (g : GG) (X : va_W) (r : Nat → Nat) (b : Nat → Nat) (sz n : Nat) (M : Mem) {r0 : Int32} (hf : F_X9_speechTotal n M = some r0) : Met l yX9_speechTotal (.code yX9_speechTotal cX9_speechTotal 1 (some .int) :: LWg) (rmD 0 0 0) (va_Pc [.ref (b 0)] (PreP g X 372 (shI g r b) b sz M)) (Qi g X 372 (shI g r b) b sz r0 M) 0 0 (AA X b 372 sz) := by
  refine met_go (by decide +kernel) rfl (Nat.le_of_ble_eq_true rfl) ?_
  intro p e s m below meth c ls H locs C0 C1 hr hlocks hnm hsz hl hI
  subst hsz
  have hl : lv_has ls 1 [(0, .ref (b 0))] := hl
  unfold F_X9_speechTotal at hf
  refine lv_aload_n C0.1 C0.2.1 dX9_speechTotal_0 rfl (lv_at hl 0 rfl) ?_
  refine r_get (C := RX9) (T := TX9) (N9 := 11) (ci := 10) C0 C1 hI iX9 rfl 0 0 (kdlt0 (rfl : kdI 0 = 0)) (by decide) ((shI_0 (rfl : kdI 0 = 0)) _) rfl rfl w_342 dX9_speechTotal_1 ?_
  refine r_getN (C := RX2) (T := TX2) (N9 := 12) (ci := 4) C0 C1 hI iX2 rfl 1 10 (kdlt1 (rfl : kdI 1 = 1)) (by decide) ((shI_1 (rfl : kdI 1 = 1)) _) rfl rfl 30 rfl dX9_speechTotal_4 ?_
  exact ee_i C0 hI hr hlocks hf dX9_speechTotal_7

def F_X9_missedTotal (n : Nat) (M : Mem) : Option Int32 :=
  some (M 1 11)
theorem hd_X9_missedTotal : yX9_missedTotal.cls ≠ "java/lang/invoke/MethodHandle" ∧ yX9_missedTotal.cls ≠ "java/lang/invoke/VarHandle" ∧ (parseMethodDescriptor yX9_missedTotal.desc).map (fun d => d.parameters.length) = some 0 := ⟨by decide +kernel, by decide +kernel, by decide +kernel⟩
set_option maxHeartbeats 4000000 in
set_option maxRecDepth 100000 in
theorem c_X9_missedTotal (l : Launch) (g : GG) (X : va_W) (r : Nat → Nat) (b : Nat → Nat) (sz n : Nat) (M : Mem) {r0 : Int32} (hf : F_X9_missedTotal n M = some r0) : Met l yX9_missedTotal (.code yX9_missedTotal cX9_missedTotal 1 (some .int) :: LWg) (rmD 0 0 0) (va_Pc [.ref (b 0)] (PreP g X 372 (shI g r b) b sz M)) (Qi g X 372 (shI g r b) b sz r0 M) 0 0 (AA X b 372 sz) := by
  refine met_go (by decide +kernel) rfl (Nat.le_of_ble_eq_true rfl) ?_
  intro p e s m below meth c ls H locs C0 C1 hr hlocks hnm hsz hl hI
  subst hsz
  have hl : lv_has ls 1 [(0, .ref (b 0))] := hl
  unfold F_X9_missedTotal at hf
  refine lv_aload_n C0.1 C0.2.1 dX9_missedTotal_0 rfl (lv_at hl 0 rfl) ?_
  refine r_get (C := RX9) (T := TX9) (N9 := 11) (ci := 10) C0 C1 hI iX9 rfl 0 0 (kdlt0 (rfl : kdI 0 = 0)) (by decide) ((shI_0 (rfl : kdI 0 = 0)) _) rfl rfl w_342 dX9_missedTotal_1 ?_
  refine r_getN (C := RX2) (T := TX2) (N9 := 12) (ci := 4) C0 C1 hI iX2 rfl 1 11 (kdlt1 (rfl : kdI 1 = 1)) (by decide) ((shI_1 (rfl : kdI 1 = 1)) _) rfl rfl 31 rfl dX9_missedTotal_4 ?_
  exact ee_i C0 hI hr hlocks hf dX9_missedTotal_7

def F_X9_adoptedCount_L4 (n : Nat) (M : Mem) : Nat → Int32 → Int32 → Option Int32
  | 0, _, _ => none
  | k4 + 1, x1_4, x2_4 =>
    (if (M 1 8) ≤ x2_4 then some x1_4 else chk (inb x2_4 6) ((if (M (1 + 6 + 1 + 4 * ix x2_4) 10) = 0 then lt' (x2_4 + 1) (fun x2_4_4 => F_X9_adoptedCount_L4 n M k4 x1_4 x2_4_4) else lt' (x1_4 + 1) (fun x1_4_6 => lt' (x2_4 + 1) (fun x2_4_8 => F_X9_adoptedCount_L4 n M k4 x1_4_6 x2_4_8)))))
def F_X9_adoptedCount (n : Nat) (M : Mem) : Option Int32 :=
  F_X9_adoptedCount_L4 n M n 0 0
theorem hd_X9_adoptedCount : yX9_adoptedCount.cls ≠ "java/lang/invoke/MethodHandle" ∧ yX9_adoptedCount.cls ≠ "java/lang/invoke/VarHandle" ∧ (parseMethodDescriptor yX9_adoptedCount.desc).map (fun d => d.parameters.length) = some 0 := ⟨by decide +kernel, by decide +kernel, by decide +kernel⟩
set_option maxHeartbeats 4000000 in
set_option maxRecDepth 100000 in
theorem c_X9_adoptedCount (l : Launch) (g : GG) (X : va_W) (r : Nat → Nat) (b : Nat → Nat) (sz n : Nat) (M : Mem) {r0 : Int32} (hf : F_X9_adoptedCount n M = some r0) : Met l yX9_adoptedCount (.code yX9_adoptedCount cX9_adoptedCount 3 (some .int) :: LWg) (rmD 0 0 0) (va_Pc [.ref (b 0)] (PreP g X 372 (shI g r b) b sz M)) (Qi g X 372 (shI g r b) b sz r0 M) 0 0 (AA X b 372 sz) := by
  refine met_go (by decide +kernel) rfl (Nat.le_of_ble_eq_true rfl) ?_
  intro p e s m below meth c ls H locs C0 C1 hr hlocks hnm hsz hl hI
  subst hsz
  have hl : lv_has ls 3 [(0, .ref (b 0))] := hl
  unfold F_X9_adoptedCount at hf
  refine lv_iconst (v := 0) C0.1 C0.2.1 dX9_adoptedCount_0 (by decide) ?_
  refine lv_istore_n (lv' := [(1, .int 0), (0, .ref (b 0))]) C0.1 C0.2.1 dX9_adoptedCount_1 rfl hl (by decide) rfl (fun ls hl => ?_)
  refine lv_iconst (v := 0) C0.1 C0.2.1 dX9_adoptedCount_2 (by decide) ?_
  refine lv_istore_n (lv' := [(2, .int 0), (1, .int 0), (0, .ref (b 0))]) C0.1 C0.2.1 dX9_adoptedCount_3 rfl hl (by decide) rfl (fun ls hl => ?_)
  have L4 : ∀ (k4 : Nat) (x1_4 : Int32) (x2_4 : Int32), F_X9_adoptedCount_L4 n M k4 x1_4 x2_4 = some r0 → ∀ (H : Heap) (locs : List Loc) (ls : Array Slot), PI g X 372 (shI g r b) b s M H locs → lv_has ls 3 [(0, .ref (b 0)), (1, .int x1_4), (2, .int x2_4)] → W p l e (rmD 0 0 0) s m ([.ref (b 0)] : List Value).toArray below meth c H locs 0 0 (MQ below (Qi g X 372 (shI g r b) b s.heap.size r0 M) ([.ref (b 0)] : List Value).toArray s 0 0 (AA X b 372 s.heap.size)) (F0 m 4 ls []) := by
    intro k4
    induction k4 with
    | zero => intro x1_4 x2_4 hf; exact absurd (show (none : Option Int32) = some r0 from hf) (fun h => by cases h)
    | succ k4 ih4 =>
      intro x1_4 x2_4 hf H locs ls hI hl
      unfold F_X9_adoptedCount_L4 at hf
      refine lv_iload_n C0.1 C0.2.1 dX9_adoptedCount_4 rfl (lv_at hl 2 rfl) ?_
      refine lv_aload_n C0.1 C0.2.1 dX9_adoptedCount_5 rfl (lv_at hl 0 rfl) ?_
      refine r_get (C := RX9) (T := TX9) (N9 := 11) (ci := 10) C0 C1 hI iX9 rfl 0 0 (kdlt0 (rfl : kdI 0 = 0)) (by decide) ((shI_0 (rfl : kdI 0 = 0)) _) rfl rfl w_342 dX9_adoptedCount_6 ?_
      refine r_getN (C := RX2) (T := TX2) (N9 := 12) (ci := 4) C0 C1 hI iX2 rfl 1 8 (kdlt1 (rfl : kdI 1 = 1)) (by decide) ((shI_1 (rfl : kdI 1 = 1)) _) rfl rfl 28 rfl dX9_adoptedCount_9 ?_
      refine lv_icmp_ge (tgt := 39) C0.1 C0.2.1 dX9_adoptedCount_12 (by decide) (fun c_4_1 => ?_) (fun c_4_1 => ?_)
      · have hf := (if_pos c_4_1).symm.trans hf
        refine lv_iload_n C0.1 C0.2.1 dX9_adoptedCount_39 rfl (lv_at hl 1 rfl) ?_
        exact ee_i C0 hI hr hlocks hf dX9_adoptedCount_40
      · have hf := (if_neg c_4_1).symm.trans hf
        refine lv_aload_n C0.1 C0.2.1 dX9_adoptedCount_15 rfl (lv_at hl 0 rfl) ?_
        refine r_get (C := RX9) (T := TX9) (N9 := 11) (ci := 10) C0 C1 hI iX9 rfl 0 0 (kdlt0 (rfl : kdI 0 = 0)) (by decide) ((shI_0 (rfl : kdI 0 = 0)) _) rfl rfl w_342 dX9_adoptedCount_16 ?_
        refine r_getN (C := RX2) (T := TX2) (N9 := 12) (ci := 4) C0 C1 hI iX2 rfl 1 9 (kdlt1 (rfl : kdI 1 = 1)) (by decide) ((shI_1 (rfl : kdI 1 = 1)) _) rfl rfl 29 rfl dX9_adoptedCount_19 ?_
        refine lv_iload_n C0.1 C0.2.1 dX9_adoptedCount_22 rfl (lv_at hl 2 rfl) ?_
        obtain ⟨h_4_2, hf⟩ := chk_some hf
        refine r_aald (t0 := 1) C0 C1 hI (1 + 6) (kdlt4 (kd1_6 (rfl : kdI 1 = 1))) (shI_4 (kd1_6 (rfl : kdI 1 = 1))) rfl h_4_2 rfl dX9_adoptedCount_23 ?_
        refine r_getN (C := RX6) (T := TX6) (N9 := 12) (ci := 8) C0 C1 hI iX6 rfl (1 + 6 + 1 + 4 * ix x2_4) 10 (kdlt5 (kd4_i (kd1_6 (rfl : kdI 1 = 1)) h_4_2)) (by decide) ((shI_5 (kd4_i (kd1_6 (rfl : kdI 1 = 1)) h_4_2)) _) rfl rfl 17 rfl dX9_adoptedCount_24 ?_
        refine lv_if_eq (tgt := 33) C0.1 C0.2.1 dX9_adoptedCount_27 (by decide) (fun c_4_3 => ?_) (fun c_4_3 => ?_)
        · have hf := (if_pos c_4_3).symm.trans hf
          obtain ⟨x2_4_4, e_4_5⟩ : ∃ z : Int32, z = x2_4 + 1 := ⟨_, rfl⟩
          have hf := lt_at e_4_5 hf
          refine lv_iinc (v := x2_4_4) (lv' := [(2, .int x2_4_4), (0, .ref (b 0)), (1, .int x1_4)]) C0.1 C0.2.1 dX9_adoptedCount_33 hl (k := 2) rfl (by rw [e_4_5]; rfl) (by decide) rfl (fun ls hl => ?_)
          refine lv_goto (tgt := 4) C0.1 C0.2.1 dX9_adoptedCount_36 (by decide) ?_
          exact ih4 x1_4 x2_4_4 hf H locs ls hI (lv_sub hl [1, 2, 0] rfl)
        · have hf := (if_neg c_4_3).symm.trans hf
          obtain ⟨x1_4_6, e_4_7⟩ : ∃ z : Int32, z = x1_4 + 1 := ⟨_, rfl⟩
          have hf := lt_at e_4_7 hf
          refine lv_iinc (v := x1_4_6) (lv' := [(1, .int x1_4_6), (0, .ref (b 0)), (2, .int x2_4)]) C0.1 C0.2.1 dX9_adoptedCount_30 hl (k := 1) rfl (by rw [e_4_7]; rfl) (by decide) rfl (fun ls hl => ?_)
          obtain ⟨x2_4_8, e_4_9⟩ : ∃ z : Int32, z = x2_4 + 1 := ⟨_, rfl⟩
          have hf := lt_at e_4_9 hf
          refine lv_iinc (v := x2_4_8) (lv' := [(2, .int x2_4_8), (1, .int x1_4_6), (0, .ref (b 0))]) C0.1 C0.2.1 dX9_adoptedCount_33 hl (k := 2) rfl (by rw [e_4_9]; rfl) (by decide) rfl (fun ls hl => ?_)
          refine lv_goto (tgt := 4) C0.1 C0.2.1 dX9_adoptedCount_36 (by decide) ?_
          exact ih4 x1_4_6 x2_4_8 hf H locs ls hI (lv_sub hl [2, 1, 0] rfl)
  exact L4 n 0 0 hf H locs ls hI (lv_sub hl [2, 1, 0] rfl)

def F_X9_carryOutCommands_L2 (n : Nat) : Nat → Int32 → Mem → Option (Int32 × Mem)
  | 0, _, _ => none
  | k2 + 1, x1_2, M =>
    (if (M 346 1) ≤ x1_2 then some (M 346 1, M) else chk (inb x1_2 11) (ob (F_X2_refusalOf n 1 (346 + 1 + 1 + 2 * ix x1_2) M) (fun r_2_4 => chk (decide (r_2_4 < 23) && decide (0 < 23)) ((if r_2_4 = 0 then ob (F_X2_carryOut n 1 (346 + 1 + 1 + 2 * ix x1_2) M) (fun M_2_8 => lt' (x1_2 + 1) (fun x1_2_9 => F_X9_carryOutCommands_L2 n k2 x1_2_9 M_2_8)) else some (x1_2, M))))))
def F_X9_carryOutCommands (n : Nat) (M : Mem) : Option (Int32 × Mem) :=
  F_X9_carryOutCommands_L2 n n 0 M
theorem hd_X9_carryOutCommands : yX9_carryOutCommands.cls ≠ "java/lang/invoke/MethodHandle" ∧ yX9_carryOutCommands.cls ≠ "java/lang/invoke/VarHandle" ∧ (parseMethodDescriptor yX9_carryOutCommands.desc).map (fun d => d.parameters.length) = some 0 := ⟨by decide +kernel, by decide +kernel, by decide +kernel⟩
set_option maxHeartbeats 4000000 in
set_option maxRecDepth 100000 in
theorem c_X9_carryOutCommands (l : Launch) (g : GG) (X : va_W) (r : Nat → Nat) (b : Nat → Nat) (sz n : Nat) (M : Mem) {r0 : Int32} {M' : Mem} (hf : F_X9_carryOutCommands n M = some (r0, M')) : Met l yX9_carryOutCommands (.code yX9_carryOutCommands cX9_carryOutCommands 3 (some .int) :: LWg) (rmD 5 0 0) (va_Pc [.ref (b 0)] (PreP g X 372 (shI g r b) b sz M)) (Qi g X 372 (shI g r b) b sz r0 M') 0 0 (AA X b 372 sz) := by
  refine met_go (by decide +kernel) rfl (Nat.le_of_ble_eq_true rfl) ?_
  intro p e s m below meth c ls H locs C0 C1 hr hlocks hnm hsz hl hI
  subst hsz
  have hl : lv_has ls 3 [(0, .ref (b 0))] := hl
  unfold F_X9_carryOutCommands at hf
  refine lv_iconst (v := 0) C0.1 C0.2.1 dX9_carryOutCommands_0 (by decide) ?_
  refine lv_istore_n (lv' := [(1, .int 0), (0, .ref (b 0))]) C0.1 C0.2.1 dX9_carryOutCommands_1 rfl hl (by decide) rfl (fun ls hl => ?_)
  have L2 : ∀ (k2 : Nat) (x1_2 : Int32) (M : Mem), F_X9_carryOutCommands_L2 n k2 x1_2 M = some (r0, M') → ∀ (H : Heap) (locs : List Loc) (ls : Array Slot), PI g X 372 (shI g r b) b s M H locs → lv_has ls 3 [(0, .ref (b 0)), (1, .int x1_2)] → W p l e (rmD 5 0 0) s m ([.ref (b 0)] : List Value).toArray below meth c H locs 0 0 (MQ below (Qi g X 372 (shI g r b) b s.heap.size r0 M') ([.ref (b 0)] : List Value).toArray s 0 0 (AA X b 372 s.heap.size)) (F0 m 2 ls []) := by
    intro k2
    induction k2 with
    | zero => intro x1_2 M hf; exact absurd (show (none : Option (Int32 × Mem)) = some (r0, M') from hf) (fun h => by cases h)
    | succ k2 ih2 =>
      intro x1_2 M hf H locs ls hI hl
      unfold F_X9_carryOutCommands_L2 at hf
      refine lv_iload_n C0.1 C0.2.1 dX9_carryOutCommands_2 rfl (lv_at hl 1 rfl) ?_
      refine lv_aload_n C0.1 C0.2.1 dX9_carryOutCommands_3 rfl (lv_at hl 0 rfl) ?_
      refine r_get (C := RX9) (T := TX9) (N9 := 11) (ci := 10) C0 C1 hI iX9 rfl 0 6 (kdlt0 (rfl : kdI 0 = 0)) (by decide) ((shI_0 (rfl : kdI 0 = 0)) _) rfl rfl w_348 dX9_carryOutCommands_4 ?_
      refine r_getN (C := RX4) (T := TX4) (N9 := 3) (ci := 6) C0 C1 hI iX4 rfl 346 1 (kdlt9 (rfl : kdI 346 = 9)) (by decide) ((shI_9 (rfl : kdI 346 = 9)) _) rfl rfl 38 rfl dX9_carryOutCommands_7 ?_
      refine lv_icmp_ge (tgt := 53) C0.1 C0.2.1 dX9_carryOutCommands_10 (by decide) (fun c_2_1 => ?_) (fun c_2_1 => ?_)
      · have hf := (if_pos c_2_1).symm.trans hf
        refine lv_aload_n C0.1 C0.2.1 dX9_carryOutCommands_53 rfl (lv_at hl 0 rfl) ?_
        refine r_get (C := RX9) (T := TX9) (N9 := 11) (ci := 10) C0 C1 hI iX9 rfl 0 6 (kdlt0 (rfl : kdI 0 = 0)) (by decide) ((shI_0 (rfl : kdI 0 = 0)) _) rfl rfl w_348 dX9_carryOutCommands_54 ?_
        refine r_getN (C := RX4) (T := TX4) (N9 := 3) (ci := 6) C0 C1 hI iX4 rfl 346 1 (kdlt9 (rfl : kdI 346 = 9)) (by decide) ((shI_9 (rfl : kdI 346 = 9)) _) rfl rfl 38 rfl dX9_carryOutCommands_57 ?_
        exact ee_im C0 hI hr hlocks hf dX9_carryOutCommands_60
      · have hf := (if_neg c_2_1).symm.trans hf
        refine lv_aload_n C0.1 C0.2.1 dX9_carryOutCommands_13 rfl (lv_at hl 0 rfl) ?_
        refine r_get (C := RX9) (T := TX9) (N9 := 11) (ci := 10) C0 C1 hI iX9 rfl 0 6 (kdlt0 (rfl : kdI 0 = 0)) (by decide) ((shI_0 (rfl : kdI 0 = 0)) _) rfl rfl w_348 dX9_carryOutCommands_14 ?_
        refine r_getN (C := RX4) (T := TX4) (N9 := 3) (ci := 6) C0 C1 hI iX4 rfl 346 0 (kdlt9 (rfl : kdI 346 = 9)) (by decide) ((shI_9 (rfl : kdI 346 = 9)) _) rfl rfl 37 rfl dX9_carryOutCommands_17 ?_
        refine lv_iload_n C0.1 C0.2.1 dX9_carryOutCommands_20 rfl (lv_at hl 1 rfl) ?_
        obtain ⟨h_2_2, hf⟩ := chk_some hf
        refine r_aald (t0 := 3) C0 C1 hI (346 + 1) (kdlt10 (kd9_1 (rfl : kdI 346 = 9))) (shI_10 (kd9_1 (rfl : kdI 346 = 9))) rfl h_2_2 rfl dX9_carryOutCommands_21 ?_
        refine lv_astore_n (lv' := [(2, .ref (b (346 + 1 + 1 + 2 * ix x1_2))), (0, .ref (b 0)), (1, .int x1_2)]) C0.1 C0.2.1 dX9_carryOutCommands_22 rfl hl (by decide) rfl (fun ls hl => ?_)
        refine lv_aload_n C0.1 C0.2.1 dX9_carryOutCommands_23 rfl (lv_at hl 1 rfl) ?_
        refine r_get (C := RX9) (T := TX9) (N9 := 11) (ci := 10) C0 C1 hI iX9 rfl 0 0 (kdlt0 (rfl : kdI 0 = 0)) (by decide) ((shI_0 (rfl : kdI 0 = 0)) _) rfl rfl w_342 dX9_carryOutCommands_24 ?_
        refine lv_aload_n C0.1 C0.2.1 dX9_carryOutCommands_27 rfl (lv_at hl 0 rfl) ?_
        obtain ⟨r_2_4, h_2_3, hf⟩ := ob_some hf
        refine k_e C1 hI (q_VN C0 C1 hI 1 (c_X2_refusalOf l g X r b H.size n M 1 (rfl : kdI 1 = 1) (346 + 1 + 1 + 2 * ix x1_2) (kd10_i (kd9_1 (rfl : kdI 346 = 9)) h_2_2) h_2_3) 43 rfl w_1319 w_54 w_72 w_1320 ⟨rfl, rfl⟩ hd_X2_refusalOf ⟨Nat.le_of_ble_eq_true rfl, Nat.le_of_ble_eq_true rfl⟩ (kdlt1 (rfl : kdI 1 = 1)) ((shI_1 (rfl : kdI 1 = 1)) _) rfl rfl rfl hl.1 rfl (Nat.le_of_ble_eq_true rfl) dX9_carryOutCommands_28 ⟨Nat.le_of_ble_eq_true rfl, Nat.le_of_ble_eq_true rfl⟩) (fun H locs hI => ?_)
        refine r_refu C0 C1 hI 0 (by decide) (n := "NOTHING") rfl w_419 dX9_carryOutCommands_31 ?_
        obtain ⟨h_2_6, hf⟩ := chk_some hf
        have h_2_6 := (Bool.and_eq_true _ _ ▸ h_2_6)
        have h_2_6 := refu_inj C1 (of_decide_eq_true h_2_6.1) (of_decide_eq_true h_2_6.2)
        refine lv_acmp_eq (rx := some (g.2.2 0 r_2_4)) (ry := some (g.2.2 0 0)) (tgt := 39) C0.1 C0.2.1 dX9_carryOutCommands_34 (by decide) (fun c_2_5 => ?_) (fun c_2_5 => ?_)
        · have hf := (if_pos (h_2_6.mp c_2_5)).symm.trans hf
          refine lv_aload_n C0.1 C0.2.1 dX9_carryOutCommands_39 rfl (lv_at hl 1 rfl) ?_
          refine r_get (C := RX9) (T := TX9) (N9 := 11) (ci := 10) C0 C1 hI iX9 rfl 0 0 (kdlt0 (rfl : kdI 0 = 0)) (by decide) ((shI_0 (rfl : kdI 0 = 0)) _) rfl rfl w_342 dX9_carryOutCommands_40 ?_
          refine lv_aload_n C0.1 C0.2.1 dX9_carryOutCommands_43 rfl (lv_at hl 0 rfl) ?_
          obtain ⟨M_2_8, h_2_7, hf⟩ := ob_some hf
          refine k_v C1 hI (q_VN C0 C1 hI 1 (c_X2_carryOut l g X r b H.size n M 1 (rfl : kdI 1 = 1) (346 + 1 + 1 + 2 * ix x1_2) (kd10_i (kd9_1 (rfl : kdI 346 = 9)) h_2_2) h_2_7) 45 rfl w_1360 w_59 w_72 w_1361 ⟨rfl, rfl⟩ hd_X2_carryOut ⟨Nat.le_of_ble_eq_true rfl, Nat.le_of_ble_eq_true rfl⟩ (kdlt1 (rfl : kdI 1 = 1)) ((shI_1 (rfl : kdI 1 = 1)) _) rfl rfl rfl hl.1 rfl (Nat.le_of_ble_eq_true rfl) dX9_carryOutCommands_44 ⟨Nat.le_of_ble_eq_true rfl, Nat.le_of_ble_eq_true rfl⟩) (fun H locs hI => ?_)
          obtain ⟨x1_2_9, e_2_10⟩ : ∃ z : Int32, z = x1_2 + 1 := ⟨_, rfl⟩
          have hf := lt_at e_2_10 hf
          refine lv_iinc (v := x1_2_9) (lv' := [(1, .int x1_2_9), (2, .ref (b (346 + 1 + 1 + 2 * ix x1_2))), (0, .ref (b 0))]) C0.1 C0.2.1 dX9_carryOutCommands_47 hl (k := 2) rfl (by rw [e_2_10]; rfl) (by decide) rfl (fun ls hl => ?_)
          refine lv_goto (tgt := 2) C0.1 C0.2.1 dX9_carryOutCommands_50 (by decide) ?_
          exact ih2 x1_2_9 M_2_8 hf H locs ls hI (lv_sub hl [2, 0] rfl)
        · have hf := (if_neg (fun z => c_2_5 (h_2_6.mpr z))).symm.trans hf
          refine lv_iload_n C0.1 C0.2.1 dX9_carryOutCommands_37 rfl (lv_at hl 2 rfl) ?_
          exact ee_im C0 hI hr hlocks hf dX9_carryOutCommands_38
  exact L2 n 0 M hf H locs ls hI (lv_sub hl [1, 0] rfl)

def F_X9_errorPosition (n : Nat) (M : Mem) : Option (RX Int32) :=
  (if (M 0 9) = (-1) then some (.inl 5) else some (.inr (M 0 9)))
theorem hd_X9_errorPosition : yX9_errorPosition.cls ≠ "java/lang/invoke/MethodHandle" ∧ yX9_errorPosition.cls ≠ "java/lang/invoke/VarHandle" ∧ (parseMethodDescriptor yX9_errorPosition.desc).map (fun d => d.parameters.length) = some 0 := ⟨by decide +kernel, by decide +kernel, by decide +kernel⟩
set_option maxHeartbeats 4000000 in
set_option maxRecDepth 100000 in
theorem c_X9_errorPosition (l : Launch) (hl0 : l.stackTraces = false) (g : GG) (X : va_W) (r : Nat → Nat) (b : Nat → Nat) (sz n : Nat) (M : Mem) {q0 : RX Int32} (hf : F_X9_errorPosition n M = some q0) : vx_Met l yX9_errorPosition (.code yX9_errorPosition cX9_errorPosition 1 (some .int) :: LWg) (rmD 8 1 6) (va_Pc [.ref (b 0)] (PreP g X 372 (shI g r b) b sz M)) (QiX g X 372 (shI g r b) b sz q0 M) (XcX g X 372 (shI g r b) b sz q0 M) 1 6 (AA X b 372 sz) := by
  refine metx_go (by decide +kernel) rfl (Nat.le_of_ble_eq_true rfl) ?_
  intro p e s m below meth c ls H locs C0 C1 hr hlocks hno hsz hl hI
  subst hsz
  have hl : lv_has ls 1 [(0, .ref (b 0))] := hl
  unfold F_X9_errorPosition at hf
  refine lv_aload_n C0.1 C0.2.1 dX9_errorPosition_0 rfl (lv_at hl 0 rfl) ?_
  refine r_get (C := RX9) (T := TX9) (N9 := 11) (ci := 10) C0 C1 hI iX9 rfl 0 9 (kdlt0 (rfl : kdI 0 = 0)) (by decide) ((shI_0 (rfl : kdI 0 = 0)) _) rfl rfl w_351 dX9_errorPosition_1 ?_
  refine lv_iconst (v := (-1)) C0.1 C0.2.1 dX9_errorPosition_4 (by decide) ?_
  refine lv_icmp_ne (tgt := 19) C0.1 C0.2.1 dX9_errorPosition_5 (by decide) (fun c_1 => ?_) (fun c_1 => ?_)
  · have hf := (if_neg c_1).symm.trans hf
    refine lv_aload_n C0.1 C0.2.1 dX9_errorPosition_19 rfl (lv_at hl 0 rfl) ?_
    refine r_get (C := RX9) (T := TX9) (N9 := 11) (ci := 10) C0 C1 hI iX9 rfl 0 9 (kdlt0 (rfl : kdI 0 = 0)) (by decide) ((shI_0 (rfl : kdI 0 = 0)) _) rfl rfl w_351 dX9_errorPosition_20 ?_
    refine W.widen (k := 1) (n := 6) (Nat.le_of_ble_eq_true rfl) (Nat.le_of_ble_eq_true rfl) ?_
    exact ex_z C0 hI hr hlocks rfl hf dX9_errorPosition_23
  · have hf := (if_pos c_1).symm.trans hf
    exact r_throwWN C0 C1 hI hl0 hl.1 hno hlocks (E := 5) (sk := 27) rfl (by decide +kernel) (by decide +kernel) nzY nz0 nz1 nz2 nz5 w_572 w_89 at_NSE ag_NSE dX9_errorPosition_8 dX9_errorPosition_11 dX9_errorPosition_12 dX9_errorPosition_15 dX9_errorPosition_18 (Nat.le_of_ble_eq_true rfl) (Nat.le_of_ble_eq_true rfl) (Nat.le_of_ble_eq_true rfl) (Nat.le_of_ble_eq_true rfl) hf (Nat.le_of_ble_eq_true rfl) (Nat.le_of_ble_eq_true rfl)


set_option maxHeartbeats 4000000 in
set_option maxRecDepth 100000 in
theorem p_X9_errorPosition (l : Launch) (g : GG) (X : va_W) (r : Nat → Nat) (b : Nat → Nat) (sz n : Nat) (M : Mem) {r0 : Int32} (hf : F_X9_errorPosition n M = some (.inr r0)) : Met l yX9_errorPosition (.code yX9_errorPosition cX9_errorPosition 1 (some .int) :: LWg) (rmD 8 0 0) (va_Pc [.ref (b 0)] (PreP g X 372 (shI g r b) b sz M)) (Qi g X 372 (shI g r b) b sz r0 M) 0 0 (AA X b 372 sz) := by
  refine met_go (by decide +kernel) rfl (Nat.le_of_ble_eq_true rfl) ?_
  intro p e s m below meth c ls H locs C0 C1 hr hlocks hnm hsz hl hI
  subst hsz
  have hl : lv_has ls 1 [(0, .ref (b 0))] := hl
  unfold F_X9_errorPosition at hf
  refine lv_aload_n C0.1 C0.2.1 dX9_errorPosition_0 rfl (lv_at hl 0 rfl) ?_
  refine r_get (C := RX9) (T := TX9) (N9 := 11) (ci := 10) C0 C1 hI iX9 rfl 0 9 (kdlt0 (rfl : kdI 0 = 0)) (by decide) ((shI_0 (rfl : kdI 0 = 0)) _) rfl rfl w_351 dX9_errorPosition_1 ?_
  refine lv_iconst (v := (-1)) C0.1 C0.2.1 dX9_errorPosition_4 (by decide) ?_
  refine lv_icmp_ne (tgt := 19) C0.1 C0.2.1 dX9_errorPosition_5 (by decide) (fun c_1 => ?_) (fun c_1 => ?_)
  · have hf := (if_neg c_1).symm.trans hf
    refine lv_aload_n C0.1 C0.2.1 dX9_errorPosition_19 rfl (lv_at hl 0 rfl) ?_
    refine r_get (C := RX9) (T := TX9) (N9 := 11) (ci := 10) C0 C1 hI iX9 rfl 0 9 (kdlt0 (rfl : kdI 0 = 0)) (by decide) ((shI_0 (rfl : kdI 0 = 0)) _) rfl rfl w_351 dX9_errorPosition_20 ?_
    exact ep_z C0 hI hr hlocks rfl hf dX9_errorPosition_23
  · have hf := (if_pos c_1).symm.trans hf
    exact nomatch hf

def F_X9_failedCommand (n : Nat) (M : Mem) : Option (RX Int32) :=
  (if (M 0 10) = (-1) then some (.inl 5) else some (.inr (M 0 10)))
theorem hd_X9_failedCommand : yX9_failedCommand.cls ≠ "java/lang/invoke/MethodHandle" ∧ yX9_failedCommand.cls ≠ "java/lang/invoke/VarHandle" ∧ (parseMethodDescriptor yX9_failedCommand.desc).map (fun d => d.parameters.length) = some 0 := ⟨by decide +kernel, by decide +kernel, by decide +kernel⟩
set_option maxHeartbeats 4000000 in
set_option maxRecDepth 100000 in
theorem c_X9_failedCommand (l : Launch) (hl0 : l.stackTraces = false) (g : GG) (X : va_W) (r : Nat → Nat) (b : Nat → Nat) (sz n : Nat) (M : Mem) {q0 : RX Int32} (hf : F_X9_failedCommand n M = some q0) : vx_Met l yX9_failedCommand (.code yX9_failedCommand cX9_failedCommand 1 (some .int) :: LWg) (rmD 8 1 6) (va_Pc [.ref (b 0)] (PreP g X 372 (shI g r b) b sz M)) (QiX g X 372 (shI g r b) b sz q0 M) (XcX g X 372 (shI g r b) b sz q0 M) 1 6 (AA X b 372 sz) := by
  refine metx_go (by decide +kernel) rfl (Nat.le_of_ble_eq_true rfl) ?_
  intro p e s m below meth c ls H locs C0 C1 hr hlocks hno hsz hl hI
  subst hsz
  have hl : lv_has ls 1 [(0, .ref (b 0))] := hl
  unfold F_X9_failedCommand at hf
  refine lv_aload_n C0.1 C0.2.1 dX9_failedCommand_0 rfl (lv_at hl 0 rfl) ?_
  refine r_get (C := RX9) (T := TX9) (N9 := 11) (ci := 10) C0 C1 hI iX9 rfl 0 10 (kdlt0 (rfl : kdI 0 = 0)) (by decide) ((shI_0 (rfl : kdI 0 = 0)) _) rfl rfl w_352 dX9_failedCommand_1 ?_
  refine lv_iconst (v := (-1)) C0.1 C0.2.1 dX9_failedCommand_4 (by decide) ?_
  refine lv_icmp_ne (tgt := 19) C0.1 C0.2.1 dX9_failedCommand_5 (by decide) (fun c_1 => ?_) (fun c_1 => ?_)
  · have hf := (if_neg c_1).symm.trans hf
    refine lv_aload_n C0.1 C0.2.1 dX9_failedCommand_19 rfl (lv_at hl 0 rfl) ?_
    refine r_get (C := RX9) (T := TX9) (N9 := 11) (ci := 10) C0 C1 hI iX9 rfl 0 10 (kdlt0 (rfl : kdI 0 = 0)) (by decide) ((shI_0 (rfl : kdI 0 = 0)) _) rfl rfl w_352 dX9_failedCommand_20 ?_
    refine W.widen (k := 1) (n := 6) (Nat.le_of_ble_eq_true rfl) (Nat.le_of_ble_eq_true rfl) ?_
    exact ex_z C0 hI hr hlocks rfl hf dX9_failedCommand_23
  · have hf := (if_pos c_1).symm.trans hf
    exact r_throwWN C0 C1 hI hl0 hl.1 hno hlocks (E := 5) (sk := 28) rfl (by decide +kernel) (by decide +kernel) nzY nz0 nz1 nz2 nz5 w_572 w_89 at_NSE ag_NSE dX9_failedCommand_8 dX9_failedCommand_11 dX9_failedCommand_12 dX9_failedCommand_15 dX9_failedCommand_18 (Nat.le_of_ble_eq_true rfl) (Nat.le_of_ble_eq_true rfl) (Nat.le_of_ble_eq_true rfl) (Nat.le_of_ble_eq_true rfl) hf (Nat.le_of_ble_eq_true rfl) (Nat.le_of_ble_eq_true rfl)


set_option maxHeartbeats 4000000 in
set_option maxRecDepth 100000 in
theorem p_X9_failedCommand (l : Launch) (g : GG) (X : va_W) (r : Nat → Nat) (b : Nat → Nat) (sz n : Nat) (M : Mem) {r0 : Int32} (hf : F_X9_failedCommand n M = some (.inr r0)) : Met l yX9_failedCommand (.code yX9_failedCommand cX9_failedCommand 1 (some .int) :: LWg) (rmD 8 0 0) (va_Pc [.ref (b 0)] (PreP g X 372 (shI g r b) b sz M)) (Qi g X 372 (shI g r b) b sz r0 M) 0 0 (AA X b 372 sz) := by
  refine met_go (by decide +kernel) rfl (Nat.le_of_ble_eq_true rfl) ?_
  intro p e s m below meth c ls H locs C0 C1 hr hlocks hnm hsz hl hI
  subst hsz
  have hl : lv_has ls 1 [(0, .ref (b 0))] := hl
  unfold F_X9_failedCommand at hf
  refine lv_aload_n C0.1 C0.2.1 dX9_failedCommand_0 rfl (lv_at hl 0 rfl) ?_
  refine r_get (C := RX9) (T := TX9) (N9 := 11) (ci := 10) C0 C1 hI iX9 rfl 0 10 (kdlt0 (rfl : kdI 0 = 0)) (by decide) ((shI_0 (rfl : kdI 0 = 0)) _) rfl rfl w_352 dX9_failedCommand_1 ?_
  refine lv_iconst (v := (-1)) C0.1 C0.2.1 dX9_failedCommand_4 (by decide) ?_
  refine lv_icmp_ne (tgt := 19) C0.1 C0.2.1 dX9_failedCommand_5 (by decide) (fun c_1 => ?_) (fun c_1 => ?_)
  · have hf := (if_neg c_1).symm.trans hf
    refine lv_aload_n C0.1 C0.2.1 dX9_failedCommand_19 rfl (lv_at hl 0 rfl) ?_
    refine r_get (C := RX9) (T := TX9) (N9 := 11) (ci := 10) C0 C1 hI iX9 rfl 0 10 (kdlt0 (rfl : kdI 0 = 0)) (by decide) ((shI_0 (rfl : kdI 0 = 0)) _) rfl rfl w_352 dX9_failedCommand_20 ?_
    exact ep_z C0 hI hr hlocks rfl hf dX9_failedCommand_23
  · have hf := (if_pos c_1).symm.trans hf
    exact nomatch hf

def F_X9_isConsistent_L17 (n : Nat) : Nat → Int32 → Int32 → Mem → Option (RX Int32 × Mem)
  | 0, _, _, _ => none
  | k17 + 1, x1_17, x2_17, M =>
    (if (M 1 8) ≤ x2_17 then ob (F_X9_speechTotal n M) (fun r_17_3 => (if x1_17 = r_17_3 then some (.inr 1, M) else some (.inr 0, M))) else obxr (F_X9_listLength n x2_17 M) M (fun r_17_7 => (if r_17_7 ≤ 0 then obxr (F_X9_croaksFor n x2_17 M) M (fun r_17_11 => obxr (F_X9_croaksForByPonds n x2_17 M) M (fun r_17_14 => (if r_17_11 = r_17_14 then obxr (F_X9_speechesOn n x2_17 M) M (fun r_17_18 => lt' (x1_17 + r_17_18) (fun x1_17_19 => lt' (x2_17 + 1) (fun x2_17_21 => F_X9_isConsistent_L17 n k17 x1_17_19 x2_17_21 M))) else some (.inr 0, M)))) else obx2 (F_X9_nextFrog n x2_17 M) (fun r_17_25 M_17_26 => obxr (F_X9_nextFrogByScan n x2_17 M_17_26) M_17_26 (fun r_17_29 => (if r_17_25 = r_17_29 then obxr (F_X9_croaksFor n x2_17 M_17_26) M_17_26 (fun r_17_33 => obxr (F_X9_croaksForByPonds n x2_17 M_17_26) M_17_26 (fun r_17_36 => (if r_17_33 = r_17_36 then obxr (F_X9_speechesOn n x2_17 M_17_26) M_17_26 (fun r_17_40 => lt' (x1_17 + r_17_40) (fun x1_17_41 => lt' (x2_17 + 1) (fun x2_17_43 => F_X9_isConsistent_L17 n k17 x1_17_41 x2_17_43 M_17_26))) else some (.inr 0, M_17_26)))) else some (.inr 0, M_17_26)))))))
def F_X9_isConsistent (n : Nat) (M : Mem) : Option (RX Int32 × Mem) :=
  ob (F_X9_sittingCount n M) (fun r_2 => ob (F_X9_sittingCountBySet n M) (fun r_4 => (if r_2 = r_4 then F_X9_isConsistent_L17 n n 0 0 M else some (.inr 0, M))))
theorem hd_X9_isConsistent : yX9_isConsistent.cls ≠ "java/lang/invoke/MethodHandle" ∧ yX9_isConsistent.cls ≠ "java/lang/invoke/VarHandle" ∧ (parseMethodDescriptor yX9_isConsistent.desc).map (fun d => d.parameters.length) = some 0 := ⟨by decide +kernel, by decide +kernel, by decide +kernel⟩
set_option maxHeartbeats 4000000 in
set_option maxRecDepth 100000 in
theorem p_X9_isConsistent (l : Launch) (g : GG) (X : va_W) (r : Nat → Nat) (b : Nat → Nat) (sz n : Nat) (M : Mem) {r0 : Int32} {M' : Mem} (hf : F_X9_isConsistent n M = some (.inr r0, M')) : Met l yX9_isConsistent (.code yX9_isConsistent cX9_isConsistent 3 (some .boolean) :: LWg) (rmD 12 0 0) (va_Pc [.ref (b 0)] (PreP g X 372 (shI g r b) b sz M)) (Qi g X 372 (shI g r b) b sz r0 M') 0 0 (AA X b 372 sz) := by
  refine met_go (by decide +kernel) rfl (Nat.le_of_ble_eq_true rfl) ?_
  intro p e s m below meth c ls H locs C0 C1 hr hlocks hnm hsz hl hI
  subst hsz
  have hl : lv_has ls 3 [(0, .ref (b 0))] := hl
  unfold F_X9_isConsistent at hf
  refine lv_aload_n C0.1 C0.2.1 dX9_isConsistent_0 rfl (lv_at hl 0 rfl) ?_
  obtain ⟨r_2, h_1, hf⟩ := ob_some hf
  refine k_i C1 hI (q_V C0 C1 hI 0 (c_X9_sittingCount l g X r b H.size n M h_1) w_384 w_385 w_386 w_71 w_387 ⟨rfl, rfl⟩ hd_X9_sittingCount ⟨Nat.le_of_ble_eq_true rfl, Nat.le_of_ble_eq_true rfl⟩ (kdlt0 (rfl : kdI 0 = 0)) ((shI_0 (rfl : kdI 0 = 0)) _) rfl rfl rfl hl.1 rfl (Nat.le_of_ble_eq_true rfl) dX9_isConsistent_1 ⟨Nat.le_of_ble_eq_true rfl, Nat.le_of_ble_eq_true rfl⟩) (fun H locs hI => ?_)
  refine lv_aload_n C0.1 C0.2.1 dX9_isConsistent_4 rfl (lv_at hl 0 rfl) ?_
  obtain ⟨r_4, h_3, hf⟩ := ob_some hf
  refine k_i C1 hI (q_V C0 C1 hI 0 (c_X9_sittingCountBySet l g X r b H.size n M h_3) w_402 w_403 w_404 w_71 w_405 ⟨rfl, rfl⟩ hd_X9_sittingCountBySet ⟨Nat.le_of_ble_eq_true rfl, Nat.le_of_ble_eq_true rfl⟩ (kdlt0 (rfl : kdI 0 = 0)) ((shI_0 (rfl : kdI 0 = 0)) _) rfl rfl rfl hl.1 rfl (Nat.le_of_ble_eq_true rfl) dX9_isConsistent_5 ⟨Nat.le_of_ble_eq_true rfl, Nat.le_of_ble_eq_true rfl⟩) (fun H locs hI => ?_)
  refine lv_icmp_eq (tgt := 13) C0.1 C0.2.1 dX9_isConsistent_8 (by decide) (fun c_5 => ?_) (fun c_5 => ?_)
  · have hf := (if_pos c_5).symm.trans hf
    refine lv_iconst (v := 0) C0.1 C0.2.1 dX9_isConsistent_13 (by decide) ?_
    refine lv_istore_n (lv' := [(1, .int 0), (0, .ref (b 0))]) C0.1 C0.2.1 dX9_isConsistent_14 rfl hl (by decide) rfl (fun ls hl => ?_)
    refine lv_iconst (v := 0) C0.1 C0.2.1 dX9_isConsistent_15 (by decide) ?_
    refine lv_istore_n (lv' := [(2, .int 0), (1, .int 0), (0, .ref (b 0))]) C0.1 C0.2.1 dX9_isConsistent_16 rfl hl (by decide) rfl (fun ls hl => ?_)
    have L17 : ∀ (k17 : Nat) (x1_17 : Int32) (x2_17 : Int32) (M : Mem), F_X9_isConsistent_L17 n k17 x1_17 x2_17 M = some (.inr r0, M') → ∀ (H : Heap) (locs : List Loc) (ls : Array Slot), PI g X 372 (shI g r b) b s M H locs → lv_has ls 3 [(0, .ref (b 0)), (1, .int x1_17), (2, .int x2_17)] → W p l e (rmD 12 0 0) s m ([.ref (b 0)] : List Value).toArray below meth c H locs 0 0 (MQ below (Qi g X 372 (shI g r b) b s.heap.size r0 M') ([.ref (b 0)] : List Value).toArray s 0 0 (AA X b 372 s.heap.size)) (F0 m 17 ls []) := by
      intro k17
      induction k17 with
      | zero => intro x1_17 x2_17 M hf; exact absurd (show (none : Option (RX Int32 × Mem)) = some (.inr r0, M') from hf) (fun h => by cases h)
      | succ k17 ih17 =>
        intro x1_17 x2_17 M hf H locs ls hI hl
        unfold F_X9_isConsistent_L17 at hf
        refine lv_iload_n C0.1 C0.2.1 dX9_isConsistent_17 rfl (lv_at hl 2 rfl) ?_
        refine lv_aload_n C0.1 C0.2.1 dX9_isConsistent_18 rfl (lv_at hl 0 rfl) ?_
        refine r_get (C := RX9) (T := TX9) (N9 := 11) (ci := 10) C0 C1 hI iX9 rfl 0 0 (kdlt0 (rfl : kdI 0 = 0)) (by decide) ((shI_0 (rfl : kdI 0 = 0)) _) rfl rfl w_342 dX9_isConsistent_19 ?_
        refine r_getN (C := RX2) (T := TX2) (N9 := 12) (ci := 4) C0 C1 hI iX2 rfl 1 8 (kdlt1 (rfl : kdI 1 = 1)) (by decide) ((shI_1 (rfl : kdI 1 = 1)) _) rfl rfl 28 rfl dX9_isConsistent_22 ?_
        refine lv_icmp_ge (tgt := 80) C0.1 C0.2.1 dX9_isConsistent_25 (by decide) (fun c_17_1 => ?_) (fun c_17_1 => ?_)
        · have hf := (if_pos c_17_1).symm.trans hf
          refine lv_iload_n C0.1 C0.2.1 dX9_isConsistent_80 rfl (lv_at hl 1 rfl) ?_
          refine lv_aload_n C0.1 C0.2.1 dX9_isConsistent_81 rfl (lv_at hl 0 rfl) ?_
          obtain ⟨r_17_3, h_17_2, hf⟩ := ob_some hf
          refine k_i C1 hI (q_V C0 C1 hI 0 (c_X9_speechTotal l g X r b H.size n M h_17_2) w_659 w_660 w_661 w_71 w_662 ⟨rfl, rfl⟩ hd_X9_speechTotal ⟨Nat.le_of_ble_eq_true rfl, Nat.le_of_ble_eq_true rfl⟩ (kdlt0 (rfl : kdI 0 = 0)) ((shI_0 (rfl : kdI 0 = 0)) _) rfl rfl rfl hl.1 rfl (Nat.le_of_ble_eq_true rfl) dX9_isConsistent_82 ⟨Nat.le_of_ble_eq_true rfl, Nat.le_of_ble_eq_true rfl⟩) (fun H locs hI => ?_)
          refine lv_icmp_ne (tgt := 92) C0.1 C0.2.1 dX9_isConsistent_85 (by decide) (fun c_17_4 => ?_) (fun c_17_4 => ?_)
          · have hf := (if_neg c_17_4).symm.trans hf
            refine lv_iconst (v := 0) C0.1 C0.2.1 dX9_isConsistent_92 (by decide) ?_
            exact ep_zm C0 hI hr hlocks rfl hf dX9_isConsistent_93
          · have hf := (if_pos c_17_4).symm.trans hf
            refine lv_iconst (v := 1) C0.1 C0.2.1 dX9_isConsistent_88 (by decide) ?_
            refine lv_goto (tgt := 93) C0.1 C0.2.1 dX9_isConsistent_89 (by decide) ?_
            exact ep_zm C0 hI hr hlocks rfl hf dX9_isConsistent_93
        · have hf := (if_neg c_17_1).symm.trans hf
          refine lv_aload_n C0.1 C0.2.1 dX9_isConsistent_28 rfl (lv_at hl 0 rfl) ?_
          refine lv_iload_n C0.1 C0.2.1 dX9_isConsistent_29 rfl (lv_at hl 2 rfl) ?_
          obtain ⟨r_17_7, h_17_6, hf⟩ := obxr_p hf
          refine k_i C1 hI (q_V C0 C1 hI 0 (p_X9_listLength l g X r b H.size n M x2_17 h_17_6) w_407 w_408 w_409 w_71 w_410 ⟨rfl, rfl⟩ hd_X9_listLength ⟨Nat.le_of_ble_eq_true rfl, Nat.le_of_ble_eq_true rfl⟩ (kdlt0 (rfl : kdI 0 = 0)) ((shI_0 (rfl : kdI 0 = 0)) _) rfl rfl rfl hl.1 rfl (Nat.le_of_ble_eq_true rfl) dX9_isConsistent_30 ⟨Nat.le_of_ble_eq_true rfl, Nat.le_of_ble_eq_true rfl⟩) (fun H locs hI => ?_)
          refine lv_if_le (tgt := 51) C0.1 C0.2.1 dX9_isConsistent_33 (by decide) (fun c_17_8 => ?_) (fun c_17_8 => ?_)
          · have hf := (if_pos c_17_8).symm.trans hf
            refine lv_aload_n C0.1 C0.2.1 dX9_isConsistent_51 rfl (lv_at hl 0 rfl) ?_
            refine lv_iload_n C0.1 C0.2.1 dX9_isConsistent_52 rfl (lv_at hl 2 rfl) ?_
            obtain ⟨r_17_11, h_17_10, hf⟩ := obxr_p hf
            refine k_i C1 hI (q_V C0 C1 hI 0 (p_X9_croaksFor l g X r b H.size n M x2_17 h_17_10) w_634 w_635 w_636 w_71 w_637 ⟨rfl, rfl⟩ hd_X9_croaksFor ⟨Nat.le_of_ble_eq_true rfl, Nat.le_of_ble_eq_true rfl⟩ (kdlt0 (rfl : kdI 0 = 0)) ((shI_0 (rfl : kdI 0 = 0)) _) rfl rfl rfl hl.1 rfl (Nat.le_of_ble_eq_true rfl) dX9_isConsistent_53 ⟨Nat.le_of_ble_eq_true rfl, Nat.le_of_ble_eq_true rfl⟩) (fun H locs hI => ?_)
            refine lv_aload_n C0.1 C0.2.1 dX9_isConsistent_56 rfl (lv_at hl 0 rfl) ?_
            refine lv_iload_n C0.1 C0.2.1 dX9_isConsistent_57 rfl (lv_at hl 2 rfl) ?_
            obtain ⟨r_17_14, h_17_13, hf⟩ := obxr_p hf
            refine k_i C1 hI (q_V C0 C1 hI 0 (p_X9_croaksForByPonds l g X r b H.size n M x2_17 h_17_13) w_646 w_647 w_648 w_71 w_649 ⟨rfl, rfl⟩ hd_X9_croaksForByPonds ⟨Nat.le_of_ble_eq_true rfl, Nat.le_of_ble_eq_true rfl⟩ (kdlt0 (rfl : kdI 0 = 0)) ((shI_0 (rfl : kdI 0 = 0)) _) rfl rfl rfl hl.1 rfl (Nat.le_of_ble_eq_true rfl) dX9_isConsistent_58 ⟨Nat.le_of_ble_eq_true rfl, Nat.le_of_ble_eq_true rfl⟩) (fun H locs hI => ?_)
            refine lv_icmp_eq (tgt := 66) C0.1 C0.2.1 dX9_isConsistent_61 (by decide) (fun c_17_15 => ?_) (fun c_17_15 => ?_)
            · have hf := (if_pos c_17_15).symm.trans hf
              refine lv_iload_n C0.1 C0.2.1 dX9_isConsistent_66 rfl (lv_at hl 1 rfl) ?_
              refine lv_aload_n C0.1 C0.2.1 dX9_isConsistent_67 rfl (lv_at hl 0 rfl) ?_
              refine lv_iload_n C0.1 C0.2.1 dX9_isConsistent_68 rfl (lv_at hl 2 rfl) ?_
              obtain ⟨r_17_18, h_17_17, hf⟩ := obxr_p hf
              refine k_i C1 hI (q_V C0 C1 hI 0 (p_X9_speechesOn l g X r b H.size n M x2_17 h_17_17) w_655 w_656 w_657 w_71 w_658 ⟨rfl, rfl⟩ hd_X9_speechesOn ⟨Nat.le_of_ble_eq_true rfl, Nat.le_of_ble_eq_true rfl⟩ (kdlt0 (rfl : kdI 0 = 0)) ((shI_0 (rfl : kdI 0 = 0)) _) rfl rfl rfl hl.1 rfl (Nat.le_of_ble_eq_true rfl) dX9_isConsistent_69 ⟨Nat.le_of_ble_eq_true rfl, Nat.le_of_ble_eq_true rfl⟩) (fun H locs hI => ?_)
              refine lv_iadd C0.1 C0.2.1 dX9_isConsistent_72 ?_
              refine lv_topi (fun x1_17_19 e_17_20 => ?_)
              have hf := lt_at e_17_20 hf
              refine lv_istore_n (lv' := [(1, .int x1_17_19), (0, .ref (b 0)), (2, .int x2_17)]) C0.1 C0.2.1 dX9_isConsistent_73 rfl hl (by decide) rfl (fun ls hl => ?_)
              obtain ⟨x2_17_21, e_17_22⟩ : ∃ z : Int32, z = x2_17 + 1 := ⟨_, rfl⟩
              have hf := lt_at e_17_22 hf
              refine lv_iinc (v := x2_17_21) (lv' := [(2, .int x2_17_21), (1, .int x1_17_19), (0, .ref (b 0))]) C0.1 C0.2.1 dX9_isConsistent_74 hl (k := 2) rfl (by rw [e_17_22]; rfl) (by decide) rfl (fun ls hl => ?_)
              refine lv_goto (tgt := 17) C0.1 C0.2.1 dX9_isConsistent_77 (by decide) ?_
              exact ih17 x1_17_19 x2_17_21 M hf H locs ls hI (lv_sub hl [2, 1, 0] rfl)
            · have hf := (if_neg c_17_15).symm.trans hf
              refine lv_iconst (v := 0) C0.1 C0.2.1 dX9_isConsistent_64 (by decide) ?_
              exact ep_zm C0 hI hr hlocks rfl hf dX9_isConsistent_65
          · have hf := (if_neg c_17_8).symm.trans hf
            refine lv_aload_n C0.1 C0.2.1 dX9_isConsistent_36 rfl (lv_at hl 0 rfl) ?_
            refine lv_iload_n C0.1 C0.2.1 dX9_isConsistent_37 rfl (lv_at hl 2 rfl) ?_
            obtain ⟨r_17_25, M_17_26, h_17_24, hf⟩ := obx2_p hf
            refine k_i C1 hI (q_V C0 C1 hI 0 (p_X9_nextFrog l g X r b H.size n M x2_17 h_17_24) w_589 w_590 w_591 w_71 w_592 ⟨rfl, rfl⟩ hd_X9_nextFrog ⟨Nat.le_of_ble_eq_true rfl, Nat.le_of_ble_eq_true rfl⟩ (kdlt0 (rfl : kdI 0 = 0)) ((shI_0 (rfl : kdI 0 = 0)) _) rfl rfl rfl hl.1 rfl (Nat.le_of_ble_eq_true rfl) dX9_isConsistent_38 ⟨Nat.le_of_ble_eq_true rfl, Nat.le_of_ble_eq_true rfl⟩) (fun H locs hI => ?_)
            refine lv_aload_n C0.1 C0.2.1 dX9_isConsistent_41 rfl (lv_at hl 0 rfl) ?_
            refine lv_iload_n C0.1 C0.2.1 dX9_isConsistent_42 rfl (lv_at hl 2 rfl) ?_
            obtain ⟨r_17_29, h_17_28, hf⟩ := obxr_p hf
            refine k_i C1 hI (q_V C0 C1 hI 0 (p_X9_nextFrogByScan l g X r b H.size n M_17_26 x2_17 h_17_28) w_622 w_623 w_624 w_71 w_625 ⟨rfl, rfl⟩ hd_X9_nextFrogByScan ⟨Nat.le_of_ble_eq_true rfl, Nat.le_of_ble_eq_true rfl⟩ (kdlt0 (rfl : kdI 0 = 0)) ((shI_0 (rfl : kdI 0 = 0)) _) rfl rfl rfl hl.1 rfl (Nat.le_of_ble_eq_true rfl) dX9_isConsistent_43 ⟨Nat.le_of_ble_eq_true rfl, Nat.le_of_ble_eq_true rfl⟩) (fun H locs hI => ?_)
            refine lv_icmp_eq (tgt := 51) C0.1 C0.2.1 dX9_isConsistent_46 (by decide) (fun c_17_30 => ?_) (fun c_17_30 => ?_)
            · have hf := (if_pos c_17_30).symm.trans hf
              refine lv_aload_n C0.1 C0.2.1 dX9_isConsistent_51 rfl (lv_at hl 0 rfl) ?_
              refine lv_iload_n C0.1 C0.2.1 dX9_isConsistent_52 rfl (lv_at hl 2 rfl) ?_
              obtain ⟨r_17_33, h_17_32, hf⟩ := obxr_p hf
              refine k_i C1 hI (q_V C0 C1 hI 0 (p_X9_croaksFor l g X r b H.size n M_17_26 x2_17 h_17_32) w_634 w_635 w_636 w_71 w_637 ⟨rfl, rfl⟩ hd_X9_croaksFor ⟨Nat.le_of_ble_eq_true rfl, Nat.le_of_ble_eq_true rfl⟩ (kdlt0 (rfl : kdI 0 = 0)) ((shI_0 (rfl : kdI 0 = 0)) _) rfl rfl rfl hl.1 rfl (Nat.le_of_ble_eq_true rfl) dX9_isConsistent_53 ⟨Nat.le_of_ble_eq_true rfl, Nat.le_of_ble_eq_true rfl⟩) (fun H locs hI => ?_)
              refine lv_aload_n C0.1 C0.2.1 dX9_isConsistent_56 rfl (lv_at hl 0 rfl) ?_
              refine lv_iload_n C0.1 C0.2.1 dX9_isConsistent_57 rfl (lv_at hl 2 rfl) ?_
              obtain ⟨r_17_36, h_17_35, hf⟩ := obxr_p hf
              refine k_i C1 hI (q_V C0 C1 hI 0 (p_X9_croaksForByPonds l g X r b H.size n M_17_26 x2_17 h_17_35) w_646 w_647 w_648 w_71 w_649 ⟨rfl, rfl⟩ hd_X9_croaksForByPonds ⟨Nat.le_of_ble_eq_true rfl, Nat.le_of_ble_eq_true rfl⟩ (kdlt0 (rfl : kdI 0 = 0)) ((shI_0 (rfl : kdI 0 = 0)) _) rfl rfl rfl hl.1 rfl (Nat.le_of_ble_eq_true rfl) dX9_isConsistent_58 ⟨Nat.le_of_ble_eq_true rfl, Nat.le_of_ble_eq_true rfl⟩) (fun H locs hI => ?_)
              refine lv_icmp_eq (tgt := 66) C0.1 C0.2.1 dX9_isConsistent_61 (by decide) (fun c_17_37 => ?_) (fun c_17_37 => ?_)
              · have hf := (if_pos c_17_37).symm.trans hf
                refine lv_iload_n C0.1 C0.2.1 dX9_isConsistent_66 rfl (lv_at hl 1 rfl) ?_
                refine lv_aload_n C0.1 C0.2.1 dX9_isConsistent_67 rfl (lv_at hl 0 rfl) ?_
                refine lv_iload_n C0.1 C0.2.1 dX9_isConsistent_68 rfl (lv_at hl 2 rfl) ?_
                obtain ⟨r_17_40, h_17_39, hf⟩ := obxr_p hf
                refine k_i C1 hI (q_V C0 C1 hI 0 (p_X9_speechesOn l g X r b H.size n M_17_26 x2_17 h_17_39) w_655 w_656 w_657 w_71 w_658 ⟨rfl, rfl⟩ hd_X9_speechesOn ⟨Nat.le_of_ble_eq_true rfl, Nat.le_of_ble_eq_true rfl⟩ (kdlt0 (rfl : kdI 0 = 0)) ((shI_0 (rfl : kdI 0 = 0)) _) rfl rfl rfl hl.1 rfl (Nat.le_of_ble_eq_true rfl) dX9_isConsistent_69 ⟨Nat.le_of_ble_eq_true rfl, Nat.le_of_ble_eq_true rfl⟩) (fun H locs hI => ?_)
                refine lv_iadd C0.1 C0.2.1 dX9_isConsistent_72 ?_
                refine lv_topi (fun x1_17_41 e_17_42 => ?_)
                have hf := lt_at e_17_42 hf
                refine lv_istore_n (lv' := [(1, .int x1_17_41), (0, .ref (b 0)), (2, .int x2_17)]) C0.1 C0.2.1 dX9_isConsistent_73 rfl hl (by decide) rfl (fun ls hl => ?_)
                obtain ⟨x2_17_43, e_17_44⟩ : ∃ z : Int32, z = x2_17 + 1 := ⟨_, rfl⟩
                have hf := lt_at e_17_44 hf
                refine lv_iinc (v := x2_17_43) (lv' := [(2, .int x2_17_43), (1, .int x1_17_41), (0, .ref (b 0))]) C0.1 C0.2.1 dX9_isConsistent_74 hl (k := 2) rfl (by rw [e_17_44]; rfl) (by decide) rfl (fun ls hl => ?_)
                refine lv_goto (tgt := 17) C0.1 C0.2.1 dX9_isConsistent_77 (by decide) ?_
                exact ih17 x1_17_41 x2_17_43 M_17_26 hf H locs ls hI (lv_sub hl [2, 1, 0] rfl)
              · have hf := (if_neg c_17_37).symm.trans hf
                refine lv_iconst (v := 0) C0.1 C0.2.1 dX9_isConsistent_64 (by decide) ?_
                exact ep_zm C0 hI hr hlocks rfl hf dX9_isConsistent_65
            · have hf := (if_neg c_17_30).symm.trans hf
              refine lv_iconst (v := 0) C0.1 C0.2.1 dX9_isConsistent_49 (by decide) ?_
              exact ep_zm C0 hI hr hlocks rfl hf dX9_isConsistent_50
    exact L17 n 0 0 M hf H locs ls hI (lv_sub hl [2, 1, 0] rfl)
  · have hf := (if_neg c_5).symm.trans hf
    refine lv_iconst (v := 0) C0.1 C0.2.1 dX9_isConsistent_11 (by decide) ?_
    exact ep_zm C0 hI hr hlocks rfl hf dX9_isConsistent_12

def F_X9_undo (n : Nat) (M : Mem) : Option (RX Int32 × Mem) :=
  (if (M 94 2) = 0 then some (.inl 0, M) else ob (F_X5_pop n 94 1 M) (fun M_3 => some (.inr (M_3 94 2), M_3)))
theorem hd_X9_undo : yX9_undo.cls ≠ "java/lang/invoke/MethodHandle" ∧ yX9_undo.cls ≠ "java/lang/invoke/VarHandle" ∧ (parseMethodDescriptor yX9_undo.desc).map (fun d => d.parameters.length) = some 0 := ⟨by decide +kernel, by decide +kernel, by decide +kernel⟩
set_option maxHeartbeats 4000000 in
set_option maxRecDepth 100000 in
theorem c_X9_undo (l : Launch) (hl0 : l.stackTraces = false) (g : GG) (X : va_W) (r : Nat → Nat) (b : Nat → Nat) (sz n : Nat) (M : Mem) {q0 : RX Int32} {M' : Mem} (hf : F_X9_undo n M = some (q0, M')) : vx_Met l yX9_undo (.code yX9_undo cX9_undo 1 (some .int) :: LWg) (rmD 8 1 6) (va_Pc [.ref (b 0)] (PreP g X 372 (shI g r b) b sz M)) (QiX g X 372 (shI g r b) b sz q0 M') (XcX g X 372 (shI g r b) b sz q0 M') 1 6 (AA X b 372 sz) := by
  refine metx_go (by decide +kernel) rfl (Nat.le_of_ble_eq_true rfl) ?_
  intro p e s m below meth c ls H locs C0 C1 hr hlocks hno hsz hl hI
  subst hsz
  have hl : lv_has ls 1 [(0, .ref (b 0))] := hl
  unfold F_X9_undo at hf
  refine lv_aload_n C0.1 C0.2.1 dX9_undo_0 rfl (lv_at hl 0 rfl) ?_
  refine r_get (C := RX9) (T := TX9) (N9 := 11) (ci := 10) C0 C1 hI iX9 rfl 0 4 (kdlt0 (rfl : kdI 0 = 0)) (by decide) ((shI_0 (rfl : kdI 0 = 0)) _) rfl rfl w_346 dX9_undo_1 ?_
  refine r_getN (C := RX5) (T := TX5) (N9 := 3) (ci := 7) C0 C1 hI iX5 rfl 94 2 (kdlt6 (rfl : kdI 94 = 6)) (by decide) ((shI_6 (rfl : kdI 94 = 6)) _) rfl rfl 32 rfl dX9_undo_4 ?_
  refine lv_if_ne (tgt := 21) C0.1 C0.2.1 dX9_undo_7 (by decide) (fun c_1 => ?_) (fun c_1 => ?_)
  · have hf := (if_neg c_1).symm.trans hf
    refine lv_aload_n C0.1 C0.2.1 dX9_undo_21 rfl (lv_at hl 0 rfl) ?_
    refine r_get (C := RX9) (T := TX9) (N9 := 11) (ci := 10) C0 C1 hI iX9 rfl 0 4 (kdlt0 (rfl : kdI 0 = 0)) (by decide) ((shI_0 (rfl : kdI 0 = 0)) _) rfl rfl w_346 dX9_undo_22 ?_
    refine lv_aload_n C0.1 C0.2.1 dX9_undo_25 rfl (lv_at hl 0 rfl) ?_
    refine r_get (C := RX9) (T := TX9) (N9 := 11) (ci := 10) C0 C1 hI iX9 rfl 0 0 (kdlt0 (rfl : kdI 0 = 0)) (by decide) ((shI_0 (rfl : kdI 0 = 0)) _) rfl rfl w_342 dX9_undo_26 ?_
    obtain ⟨M_3, h_2, hf⟩ := ob_some hf
    refine k_v C1 hI (q_VN C0 C1 hI 94 (c_X5_pop l g X r b H.size n M 94 (rfl : kdI 94 = 6) 1 (rfl : kdI 1 = 1) h_2) 49 rfl w_1449 w_66 w_74 w_1450 ⟨rfl, rfl⟩ hd_X5_pop ⟨Nat.le_of_ble_eq_true rfl, Nat.le_of_ble_eq_true rfl⟩ (kdlt6 (rfl : kdI 94 = 6)) ((shI_6 (rfl : kdI 94 = 6)) _) rfl rfl rfl hl.1 rfl (Nat.le_of_ble_eq_true rfl) dX9_undo_29 ⟨Nat.le_of_ble_eq_true rfl, Nat.le_of_ble_eq_true rfl⟩) (fun H locs hI => ?_)
    refine lv_aload_n C0.1 C0.2.1 dX9_undo_32 rfl (lv_at hl 0 rfl) ?_
    refine r_get (C := RX9) (T := TX9) (N9 := 11) (ci := 10) C0 C1 hI iX9 rfl 0 4 (kdlt0 (rfl : kdI 0 = 0)) (by decide) ((shI_0 (rfl : kdI 0 = 0)) _) rfl rfl w_346 dX9_undo_33 ?_
    refine r_getN (C := RX5) (T := TX5) (N9 := 3) (ci := 7) C0 C1 hI iX5 rfl 94 2 (kdlt6 (rfl : kdI 94 = 6)) (by decide) ((shI_6 (rfl : kdI 94 = 6)) _) rfl rfl 32 rfl dX9_undo_36 ?_
    refine W.widen (k := 1) (n := 6) (Nat.le_of_ble_eq_true rfl) (Nat.le_of_ble_eq_true rfl) ?_
    exact ex_zm C0 hI hr hlocks rfl hf dX9_undo_39
  · have hf := (if_pos c_1).symm.trans hf
    exact r_throwWm C0 C1 hI hl0 hl.1 hno hlocks (E := 0) (sk := 31) rfl (by decide +kernel) (by decide +kernel) w_529 w_87 at_ISE ag_ISE dX9_undo_10 dX9_undo_13 dX9_undo_14 dX9_undo_17 dX9_undo_20 (Nat.le_of_ble_eq_true rfl) (Nat.le_of_ble_eq_true rfl) (Nat.le_of_ble_eq_true rfl) (Nat.le_of_ble_eq_true rfl) hf (Nat.le_of_ble_eq_true rfl) (Nat.le_of_ble_eq_true rfl)


set_option maxHeartbeats 4000000 in
set_option maxRecDepth 100000 in
theorem p_X9_undo (l : Launch) (g : GG) (X : va_W) (r : Nat → Nat) (b : Nat → Nat) (sz n : Nat) (M : Mem) {r0 : Int32} {M' : Mem} (hf : F_X9_undo n M = some (.inr r0, M')) : Met l yX9_undo (.code yX9_undo cX9_undo 1 (some .int) :: LWg) (rmD 8 0 0) (va_Pc [.ref (b 0)] (PreP g X 372 (shI g r b) b sz M)) (Qi g X 372 (shI g r b) b sz r0 M') 0 0 (AA X b 372 sz) := by
  refine met_go (by decide +kernel) rfl (Nat.le_of_ble_eq_true rfl) ?_
  intro p e s m below meth c ls H locs C0 C1 hr hlocks hnm hsz hl hI
  subst hsz
  have hl : lv_has ls 1 [(0, .ref (b 0))] := hl
  unfold F_X9_undo at hf
  refine lv_aload_n C0.1 C0.2.1 dX9_undo_0 rfl (lv_at hl 0 rfl) ?_
  refine r_get (C := RX9) (T := TX9) (N9 := 11) (ci := 10) C0 C1 hI iX9 rfl 0 4 (kdlt0 (rfl : kdI 0 = 0)) (by decide) ((shI_0 (rfl : kdI 0 = 0)) _) rfl rfl w_346 dX9_undo_1 ?_
  refine r_getN (C := RX5) (T := TX5) (N9 := 3) (ci := 7) C0 C1 hI iX5 rfl 94 2 (kdlt6 (rfl : kdI 94 = 6)) (by decide) ((shI_6 (rfl : kdI 94 = 6)) _) rfl rfl 32 rfl dX9_undo_4 ?_
  refine lv_if_ne (tgt := 21) C0.1 C0.2.1 dX9_undo_7 (by decide) (fun c_1 => ?_) (fun c_1 => ?_)
  · have hf := (if_neg c_1).symm.trans hf
    refine lv_aload_n C0.1 C0.2.1 dX9_undo_21 rfl (lv_at hl 0 rfl) ?_
    refine r_get (C := RX9) (T := TX9) (N9 := 11) (ci := 10) C0 C1 hI iX9 rfl 0 4 (kdlt0 (rfl : kdI 0 = 0)) (by decide) ((shI_0 (rfl : kdI 0 = 0)) _) rfl rfl w_346 dX9_undo_22 ?_
    refine lv_aload_n C0.1 C0.2.1 dX9_undo_25 rfl (lv_at hl 0 rfl) ?_
    refine r_get (C := RX9) (T := TX9) (N9 := 11) (ci := 10) C0 C1 hI iX9 rfl 0 0 (kdlt0 (rfl : kdI 0 = 0)) (by decide) ((shI_0 (rfl : kdI 0 = 0)) _) rfl rfl w_342 dX9_undo_26 ?_
    obtain ⟨M_3, h_2, hf⟩ := ob_some hf
    refine k_v C1 hI (q_VN C0 C1 hI 94 (c_X5_pop l g X r b H.size n M 94 (rfl : kdI 94 = 6) 1 (rfl : kdI 1 = 1) h_2) 49 rfl w_1449 w_66 w_74 w_1450 ⟨rfl, rfl⟩ hd_X5_pop ⟨Nat.le_of_ble_eq_true rfl, Nat.le_of_ble_eq_true rfl⟩ (kdlt6 (rfl : kdI 94 = 6)) ((shI_6 (rfl : kdI 94 = 6)) _) rfl rfl rfl hl.1 rfl (Nat.le_of_ble_eq_true rfl) dX9_undo_29 ⟨Nat.le_of_ble_eq_true rfl, Nat.le_of_ble_eq_true rfl⟩) (fun H locs hI => ?_)
    refine lv_aload_n C0.1 C0.2.1 dX9_undo_32 rfl (lv_at hl 0 rfl) ?_
    refine r_get (C := RX9) (T := TX9) (N9 := 11) (ci := 10) C0 C1 hI iX9 rfl 0 4 (kdlt0 (rfl : kdI 0 = 0)) (by decide) ((shI_0 (rfl : kdI 0 = 0)) _) rfl rfl w_346 dX9_undo_33 ?_
    refine r_getN (C := RX5) (T := TX5) (N9 := 3) (ci := 7) C0 C1 hI iX5 rfl 94 2 (kdlt6 (rfl : kdI 94 = 6)) (by decide) ((shI_6 (rfl : kdI 94 = 6)) _) rfl rfl 32 rfl dX9_undo_36 ?_
    exact ep_zm C0 hI hr hlocks rfl hf dX9_undo_39
  · have hf := (if_pos c_1).symm.trans hf
    exact nomatch hf

def F_X9_save (n : Nat) (M : Mem) : Option (Int32 × Mem) :=
  ob (F_X2_copyFrom n 63 1 M) (fun M_2 => lt' (up2 M_2 0 3 1) (fun M_3 => some (M_3 1 8, M_3)))
theorem hd_X9_save : yX9_save.cls ≠ "java/lang/invoke/MethodHandle" ∧ yX9_save.cls ≠ "java/lang/invoke/VarHandle" ∧ (parseMethodDescriptor yX9_save.desc).map (fun d => d.parameters.length) = some 0 := ⟨by decide +kernel, by decide +kernel, by decide +kernel⟩
set_option maxHeartbeats 4000000 in
set_option maxRecDepth 100000 in
theorem c_X9_save (l : Launch) (g : GG) (X : va_W) (r : Nat → Nat) (b : Nat → Nat) (sz n : Nat) (M : Mem) {r0 : Int32} {M' : Mem} (hf : F_X9_save n M = some (r0, M')) : Met l yX9_save (.code yX9_save cX9_save 1 (some .int) :: LWg) (rmD 5 0 0) (va_Pc [.ref (b 0)] (PreP g X 372 (shI g r b) b sz M)) (Qi g X 372 (shI g r b) b sz r0 M') 0 0 (AA X b 372 sz) := by
  refine met_go (by decide +kernel) rfl (Nat.le_of_ble_eq_true rfl) ?_
  intro p e s m below meth c ls H locs C0 C1 hr hlocks hnm hsz hl hI
  subst hsz
  have hl : lv_has ls 1 [(0, .ref (b 0))] := hl
  unfold F_X9_save at hf
  refine lv_aload_n C0.1 C0.2.1 dX9_save_0 rfl (lv_at hl 0 rfl) ?_
  refine r_get (C := RX9) (T := TX9) (N9 := 11) (ci := 10) C0 C1 hI iX9 rfl 0 2 (kdlt0 (rfl : kdI 0 = 0)) (by decide) ((shI_0 (rfl : kdI 0 = 0)) _) rfl rfl w_344 dX9_save_1 ?_
  refine lv_aload_n C0.1 C0.2.1 dX9_save_4 rfl (lv_at hl 0 rfl) ?_
  refine r_get (C := RX9) (T := TX9) (N9 := 11) (ci := 10) C0 C1 hI iX9 rfl 0 0 (kdlt0 (rfl : kdI 0 = 0)) (by decide) ((shI_0 (rfl : kdI 0 = 0)) _) rfl rfl w_342 dX9_save_5 ?_
  obtain ⟨M_2, h_1, hf⟩ := ob_some hf
  refine k_v C1 hI (q_VN C0 C1 hI 63 (c_X2_copyFrom l g X r b H.size n M 63 (rfl : kdI 63 = 1) 1 (rfl : kdI 1 = 1) h_1) 42 rfl w_727 w_18 w_72 w_728 ⟨rfl, rfl⟩ hd_X2_copyFrom ⟨Nat.le_of_ble_eq_true rfl, Nat.le_of_ble_eq_true rfl⟩ (kdlt1 (rfl : kdI 63 = 1)) ((shI_1 (rfl : kdI 63 = 1)) _) rfl rfl rfl hl.1 rfl (Nat.le_of_ble_eq_true rfl) dX9_save_8 ⟨Nat.le_of_ble_eq_true rfl, Nat.le_of_ble_eq_true rfl⟩) (fun H locs hI => ?_)
  refine lv_aload_n C0.1 C0.2.1 dX9_save_11 rfl (lv_at hl 0 rfl) ?_
  refine lv_iconst (v := 1) C0.1 C0.2.1 dX9_save_12 (by decide) ?_
  refine r_put (C := RX9) (T := TX9) (N9 := 11) (ci := 10) (fs := fP b) (ty := .boolean) C0 C1 hI iX9 tyX9 tyX9_ok nmX9 rfl 0 3 (kdlt0 (rfl : kdI 0 = 0)) (by decide) (shI_0 (rfl : kdI 0 = 0)) rfl rfl rfl (by decide +kernel) ⟨rfl, rfl⟩ (Nat.le_of_ble_eq_true rfl) w_345 dX9_save_13 (fun H locs hI => ?_)
  obtain ⟨M_3, e_4⟩ : ∃ z : Mem, z = up2 M_2 0 3 1 := ⟨_, rfl⟩
  rw [← e_4] at hI
  have hf := lt_at e_4 hf
  refine lv_aload_n C0.1 C0.2.1 dX9_save_16 rfl (lv_at hl 0 rfl) ?_
  refine r_get (C := RX9) (T := TX9) (N9 := 11) (ci := 10) C0 C1 hI iX9 rfl 0 0 (kdlt0 (rfl : kdI 0 = 0)) (by decide) ((shI_0 (rfl : kdI 0 = 0)) _) rfl rfl w_342 dX9_save_17 ?_
  refine r_getN (C := RX2) (T := TX2) (N9 := 12) (ci := 4) C0 C1 hI iX2 rfl 1 8 (kdlt1 (rfl : kdI 1 = 1)) (by decide) ((shI_1 (rfl : kdI 1 = 1)) _) rfl rfl 28 rfl dX9_save_20 ?_
  exact ee_im C0 hI hr hlocks hf dX9_save_23

def F_X9_restore (n : Nat) (M : Mem) : Option (RX Int32 × Mem) :=
  (if (M 0 3) = 0 then some (.inl 0, M) else ob (F_X2_copyFrom n 1 63 M) (fun M_3 => ob (F_X5_forget n 94 M_3) (fun M_5 => some (.inr (M_5 1 8), M_5))))
theorem hd_X9_restore : yX9_restore.cls ≠ "java/lang/invoke/MethodHandle" ∧ yX9_restore.cls ≠ "java/lang/invoke/VarHandle" ∧ (parseMethodDescriptor yX9_restore.desc).map (fun d => d.parameters.length) = some 0 := ⟨by decide +kernel, by decide +kernel, by decide +kernel⟩
set_option maxHeartbeats 4000000 in
set_option maxRecDepth 100000 in
theorem c_X9_restore (l : Launch) (hl0 : l.stackTraces = false) (g : GG) (X : va_W) (r : Nat → Nat) (b : Nat → Nat) (sz n : Nat) (M : Mem) {q0 : RX Int32} {M' : Mem} (hf : F_X9_restore n M = some (q0, M')) : vx_Met l yX9_restore (.code yX9_restore cX9_restore 1 (some .int) :: LWg) (rmD 8 1 6) (va_Pc [.ref (b 0)] (PreP g X 372 (shI g r b) b sz M)) (QiX g X 372 (shI g r b) b sz q0 M') (XcX g X 372 (shI g r b) b sz q0 M') 1 6 (AA X b 372 sz) := by
  refine metx_go (by decide +kernel) rfl (Nat.le_of_ble_eq_true rfl) ?_
  intro p e s m below meth c ls H locs C0 C1 hr hlocks hno hsz hl hI
  subst hsz
  have hl : lv_has ls 1 [(0, .ref (b 0))] := hl
  unfold F_X9_restore at hf
  refine lv_aload_n C0.1 C0.2.1 dX9_restore_0 rfl (lv_at hl 0 rfl) ?_
  refine r_get (C := RX9) (T := TX9) (N9 := 11) (ci := 10) C0 C1 hI iX9 rfl 0 3 (kdlt0 (rfl : kdI 0 = 0)) (by decide) ((shI_0 (rfl : kdI 0 = 0)) _) rfl rfl w_345 dX9_restore_1 ?_
  refine lv_if_ne (tgt := 18) C0.1 C0.2.1 dX9_restore_4 (by decide) (fun c_1 => ?_) (fun c_1 => ?_)
  · have hf := (if_neg c_1).symm.trans hf
    refine lv_aload_n C0.1 C0.2.1 dX9_restore_18 rfl (lv_at hl 0 rfl) ?_
    refine r_get (C := RX9) (T := TX9) (N9 := 11) (ci := 10) C0 C1 hI iX9 rfl 0 0 (kdlt0 (rfl : kdI 0 = 0)) (by decide) ((shI_0 (rfl : kdI 0 = 0)) _) rfl rfl w_342 dX9_restore_19 ?_
    refine lv_aload_n C0.1 C0.2.1 dX9_restore_22 rfl (lv_at hl 0 rfl) ?_
    refine r_get (C := RX9) (T := TX9) (N9 := 11) (ci := 10) C0 C1 hI iX9 rfl 0 2 (kdlt0 (rfl : kdI 0 = 0)) (by decide) ((shI_0 (rfl : kdI 0 = 0)) _) rfl rfl w_344 dX9_restore_23 ?_
    obtain ⟨M_3, h_2, hf⟩ := ob_some hf
    refine k_v C1 hI (q_VN C0 C1 hI 1 (c_X2_copyFrom l g X r b H.size n M 1 (rfl : kdI 1 = 1) 63 (rfl : kdI 63 = 1) h_2) 42 rfl w_727 w_18 w_72 w_728 ⟨rfl, rfl⟩ hd_X2_copyFrom ⟨Nat.le_of_ble_eq_true rfl, Nat.le_of_ble_eq_true rfl⟩ (kdlt1 (rfl : kdI 1 = 1)) ((shI_1 (rfl : kdI 1 = 1)) _) rfl rfl rfl hl.1 rfl (Nat.le_of_ble_eq_true rfl) dX9_restore_26 ⟨Nat.le_of_ble_eq_true rfl, Nat.le_of_ble_eq_true rfl⟩) (fun H locs hI => ?_)
    refine lv_aload_n C0.1 C0.2.1 dX9_restore_29 rfl (lv_at hl 0 rfl) ?_
    refine r_get (C := RX9) (T := TX9) (N9 := 11) (ci := 10) C0 C1 hI iX9 rfl 0 4 (kdlt0 (rfl : kdI 0 = 0)) (by decide) ((shI_0 (rfl : kdI 0 = 0)) _) rfl rfl w_346 dX9_restore_30 ?_
    obtain ⟨M_5, h_4, hf⟩ := ob_some hf
    refine k_v C1 hI (q_VN C0 C1 hI 94 (c_X5_forget l g X r b H.size n M_3 94 (rfl : kdI 94 = 6) h_4) 50 rfl w_1461 w_67 w_74 w_1462 ⟨rfl, rfl⟩ hd_X5_forget ⟨Nat.le_of_ble_eq_true rfl, Nat.le_of_ble_eq_true rfl⟩ (kdlt6 (rfl : kdI 94 = 6)) ((shI_6 (rfl : kdI 94 = 6)) _) rfl rfl rfl hl.1 rfl (Nat.le_of_ble_eq_true rfl) dX9_restore_33 ⟨Nat.le_of_ble_eq_true rfl, Nat.le_of_ble_eq_true rfl⟩) (fun H locs hI => ?_)
    refine lv_aload_n C0.1 C0.2.1 dX9_restore_36 rfl (lv_at hl 0 rfl) ?_
    refine r_get (C := RX9) (T := TX9) (N9 := 11) (ci := 10) C0 C1 hI iX9 rfl 0 0 (kdlt0 (rfl : kdI 0 = 0)) (by decide) ((shI_0 (rfl : kdI 0 = 0)) _) rfl rfl w_342 dX9_restore_37 ?_
    refine r_getN (C := RX2) (T := TX2) (N9 := 12) (ci := 4) C0 C1 hI iX2 rfl 1 8 (kdlt1 (rfl : kdI 1 = 1)) (by decide) ((shI_1 (rfl : kdI 1 = 1)) _) rfl rfl 28 rfl dX9_restore_40 ?_
    refine W.widen (k := 1) (n := 6) (Nat.le_of_ble_eq_true rfl) (Nat.le_of_ble_eq_true rfl) ?_
    exact ex_zm C0 hI hr hlocks rfl hf dX9_restore_43
  · have hf := (if_pos c_1).symm.trans hf
    exact r_throwWm C0 C1 hI hl0 hl.1 hno hlocks (E := 0) (sk := 32) rfl (by decide +kernel) (by decide +kernel) w_529 w_87 at_ISE ag_ISE dX9_restore_7 dX9_restore_10 dX9_restore_11 dX9_restore_14 dX9_restore_17 (Nat.le_of_ble_eq_true rfl) (Nat.le_of_ble_eq_true rfl) (Nat.le_of_ble_eq_true rfl) (Nat.le_of_ble_eq_true rfl) hf (Nat.le_of_ble_eq_true rfl) (Nat.le_of_ble_eq_true rfl)


set_option maxHeartbeats 4000000 in
set_option maxRecDepth 100000 in
theorem p_X9_restore (l : Launch) (g : GG) (X : va_W) (r : Nat → Nat) (b : Nat → Nat) (sz n : Nat) (M : Mem) {r0 : Int32} {M' : Mem} (hf : F_X9_restore n M = some (.inr r0, M')) : Met l yX9_restore (.code yX9_restore cX9_restore 1 (some .int) :: LWg) (rmD 8 0 0) (va_Pc [.ref (b 0)] (PreP g X 372 (shI g r b) b sz M)) (Qi g X 372 (shI g r b) b sz r0 M') 0 0 (AA X b 372 sz) := by
  refine met_go (by decide +kernel) rfl (Nat.le_of_ble_eq_true rfl) ?_
  intro p e s m below meth c ls H locs C0 C1 hr hlocks hnm hsz hl hI
  subst hsz
  have hl : lv_has ls 1 [(0, .ref (b 0))] := hl
  unfold F_X9_restore at hf
  refine lv_aload_n C0.1 C0.2.1 dX9_restore_0 rfl (lv_at hl 0 rfl) ?_
  refine r_get (C := RX9) (T := TX9) (N9 := 11) (ci := 10) C0 C1 hI iX9 rfl 0 3 (kdlt0 (rfl : kdI 0 = 0)) (by decide) ((shI_0 (rfl : kdI 0 = 0)) _) rfl rfl w_345 dX9_restore_1 ?_
  refine lv_if_ne (tgt := 18) C0.1 C0.2.1 dX9_restore_4 (by decide) (fun c_1 => ?_) (fun c_1 => ?_)
  · have hf := (if_neg c_1).symm.trans hf
    refine lv_aload_n C0.1 C0.2.1 dX9_restore_18 rfl (lv_at hl 0 rfl) ?_
    refine r_get (C := RX9) (T := TX9) (N9 := 11) (ci := 10) C0 C1 hI iX9 rfl 0 0 (kdlt0 (rfl : kdI 0 = 0)) (by decide) ((shI_0 (rfl : kdI 0 = 0)) _) rfl rfl w_342 dX9_restore_19 ?_
    refine lv_aload_n C0.1 C0.2.1 dX9_restore_22 rfl (lv_at hl 0 rfl) ?_
    refine r_get (C := RX9) (T := TX9) (N9 := 11) (ci := 10) C0 C1 hI iX9 rfl 0 2 (kdlt0 (rfl : kdI 0 = 0)) (by decide) ((shI_0 (rfl : kdI 0 = 0)) _) rfl rfl w_344 dX9_restore_23 ?_
    obtain ⟨M_3, h_2, hf⟩ := ob_some hf
    refine k_v C1 hI (q_VN C0 C1 hI 1 (c_X2_copyFrom l g X r b H.size n M 1 (rfl : kdI 1 = 1) 63 (rfl : kdI 63 = 1) h_2) 42 rfl w_727 w_18 w_72 w_728 ⟨rfl, rfl⟩ hd_X2_copyFrom ⟨Nat.le_of_ble_eq_true rfl, Nat.le_of_ble_eq_true rfl⟩ (kdlt1 (rfl : kdI 1 = 1)) ((shI_1 (rfl : kdI 1 = 1)) _) rfl rfl rfl hl.1 rfl (Nat.le_of_ble_eq_true rfl) dX9_restore_26 ⟨Nat.le_of_ble_eq_true rfl, Nat.le_of_ble_eq_true rfl⟩) (fun H locs hI => ?_)
    refine lv_aload_n C0.1 C0.2.1 dX9_restore_29 rfl (lv_at hl 0 rfl) ?_
    refine r_get (C := RX9) (T := TX9) (N9 := 11) (ci := 10) C0 C1 hI iX9 rfl 0 4 (kdlt0 (rfl : kdI 0 = 0)) (by decide) ((shI_0 (rfl : kdI 0 = 0)) _) rfl rfl w_346 dX9_restore_30 ?_
    obtain ⟨M_5, h_4, hf⟩ := ob_some hf
    refine k_v C1 hI (q_VN C0 C1 hI 94 (c_X5_forget l g X r b H.size n M_3 94 (rfl : kdI 94 = 6) h_4) 50 rfl w_1461 w_67 w_74 w_1462 ⟨rfl, rfl⟩ hd_X5_forget ⟨Nat.le_of_ble_eq_true rfl, Nat.le_of_ble_eq_true rfl⟩ (kdlt6 (rfl : kdI 94 = 6)) ((shI_6 (rfl : kdI 94 = 6)) _) rfl rfl rfl hl.1 rfl (Nat.le_of_ble_eq_true rfl) dX9_restore_33 ⟨Nat.le_of_ble_eq_true rfl, Nat.le_of_ble_eq_true rfl⟩) (fun H locs hI => ?_)
    refine lv_aload_n C0.1 C0.2.1 dX9_restore_36 rfl (lv_at hl 0 rfl) ?_
    refine r_get (C := RX9) (T := TX9) (N9 := 11) (ci := 10) C0 C1 hI iX9 rfl 0 0 (kdlt0 (rfl : kdI 0 = 0)) (by decide) ((shI_0 (rfl : kdI 0 = 0)) _) rfl rfl w_342 dX9_restore_37 ?_
    refine r_getN (C := RX2) (T := TX2) (N9 := 12) (ci := 4) C0 C1 hI iX2 rfl 1 8 (kdlt1 (rfl : kdI 1 = 1)) (by decide) ((shI_1 (rfl : kdI 1 = 1)) _) rfl rfl 28 rfl dX9_restore_40 ?_
    exact ep_zm C0 hI hr hlocks rfl hf dX9_restore_43
  · have hf := (if_pos c_1).symm.trans hf
    exact nomatch hf
