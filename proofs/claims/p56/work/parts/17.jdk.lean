section MATH
variable {p : Program} {l : Launch} {e : Env} {R : Room} {s : State} {m : MethodId} {args : Array Value} {below : List Frame} {meth : Method} {c : Code} {H : Heap} {locs : List Loc} {cells slots : Nat} {Q : State → Prop}
variable {cc : ByteArray} {nL : Nat} {own : String} {pc : Nat} {ls : Array Slot} {rest : List Value} {index : Nat}
theorem r_mmax (C0 : CallFix p m c cc nL s args LWg own) (hls : ls.size = nL) (h1 : (.methodLink own index yJ9_max_7cf53) ∈ LWg) (hfr : 1 ≤ R.frames) (hlo : (rest.map fun v => v.category).sum + 13 ≤ R.locals) (hc : cells ≤ R.cells) (hs : slots ≤ R.slots) {x y : Int32} (hdg : decode cc pc = .ok (.invokestatic index, 3))
    (kk : W p l e R s m args below meth c H locs cells slots Q (F0 m (pc + 3) ls (.int (if x < y then y else x) :: rest))) : W p l e R s m args below meth c H locs cells slots Q (F0 m pc ls (.int y :: .int x :: rest)) :=
  va_mmax C0.1 C0.2.1 (by rw [C0.2.2.1, hls]) C0.2.2.2.1 (C0.2.2.2.2 _ h1) (C0.2.2.2.2 _ w_986) (C0.2.2.2.2 _ w_92) (C0.2.2.2.2 _ w_987) hfr hlo hc hs hdg kk
theorem r_mmin (C0 : CallFix p m c cc nL s args LWg own) (hls : ls.size = nL) (h1 : (.methodLink own index yJ9_min_7cf53) ∈ LWg) (hfr : 1 ≤ R.frames) (hlo : (rest.map fun v => v.category).sum + 13 ≤ R.locals) (hc : cells ≤ R.cells) (hs : slots ≤ R.slots) {x y : Int32} (hdg : decode cc pc = .ok (.invokestatic index, 3))
    (kk : W p l e R s m args below meth c H locs cells slots Q (F0 m (pc + 3) ls (.int (if y < x then y else x) :: rest))) : W p l e R s m args below meth c H locs cells slots Q (F0 m pc ls (.int y :: .int x :: rest)) :=
  va_mmin C0.1 C0.2.1 (by rw [C0.2.2.1, hls]) C0.2.2.2.1 (C0.2.2.2.2 _ h1) (C0.2.2.2.2 _ w_1004) (C0.2.2.2.2 _ w_92) (C0.2.2.2.2 _ w_1005) hfr hlo hc hs hdg kk
end MATH
def F_J8_newLength_cabcc (n : Nat) (x0 : Int32) (x1 : Int32) (x2 : Int32) (M : Mem) : Option Int32 :=
  lt' (x0 + (if x1 < x2 then x2 else x1)) (fun x3_1 => (if x3_1 ≤ 0 then none else (if 2147483639 < x3_1 then none else some x3_1)))
theorem hd_J8_newLength_cabcc : yJ8_newLength_cabcc.cls ≠ "java/lang/invoke/MethodHandle" ∧ yJ8_newLength_cabcc.cls ≠ "java/lang/invoke/VarHandle" ∧ (parseMethodDescriptor yJ8_newLength_cabcc.desc).map (fun d => d.parameters.length) = some 3 := ⟨by decide +kernel, by decide +kernel, by decide +kernel⟩
set_option maxHeartbeats 4000000 in
set_option maxRecDepth 100000 in
theorem c_J8_newLength_cabcc (l : Launch) (g : GG) (X : va_W) (r : Nat → Nat) (b : Nat → Nat) (sz n : Nat) (M : Mem) (x0 : Int32) (x1 : Int32) (x2 : Int32) {r0 : Int32} (hf : F_J8_newLength_cabcc n x0 x1 x2 M = some r0) : Met l yJ8_newLength_cabcc (.code yJ8_newLength_cabcc cJ8_newLength_cabcc 4 (some .int) :: LWg) (rmD 1 0 0) (va_Pc [.int x0, .int x1, .int x2] (PreP g X 372 (shI g r b) b sz M)) (Qi g X 372 (shI g r b) b sz r0 M) 0 0 (AA X b 372 sz) := by
  refine met_go (by decide +kernel) rfl (Nat.le_of_ble_eq_true rfl) ?_
  intro p e s m below meth c ls H locs C0 C1 hr hlocks hnm hsz hl hI
  subst hsz
  have hl : lv_has ls 4 [(0, .int x0), (1, .int x1), (2, .int x2)] := hl
  unfold F_J8_newLength_cabcc at hf
  refine lv_iload_n C0.1 C0.2.1 dJ8_newLength_cabcc_0 rfl (lv_at hl 0 rfl) ?_
  refine lv_iload_n C0.1 C0.2.1 dJ8_newLength_cabcc_1 rfl (lv_at hl 1 rfl) ?_
  refine lv_iload_n C0.1 C0.2.1 dJ8_newLength_cabcc_2 rfl (lv_at hl 2 rfl) ?_
  refine r_mmax C0 hl.1 w_985 (Nat.le_of_ble_eq_true rfl) (Nat.le_of_ble_eq_true rfl) (Nat.le_of_ble_eq_true rfl) (Nat.le_of_ble_eq_true rfl) dJ8_newLength_cabcc_3 ?_
  refine lv_iadd C0.1 C0.2.1 dJ8_newLength_cabcc_6 ?_
  refine lv_topi (fun x3_1 e_2 => ?_)
  have hf := lt_at e_2 hf
  refine lv_istore_n (lv' := [(3, .int x3_1), (0, .int x0), (1, .int x1), (2, .int x2)]) C0.1 C0.2.1 dJ8_newLength_cabcc_7 rfl hl (by decide) rfl (fun ls hl => ?_)
  refine lv_iconst (v := 0) C0.1 C0.2.1 dJ8_newLength_cabcc_8 (by decide) ?_
  refine lv_iload_n C0.1 C0.2.1 dJ8_newLength_cabcc_9 rfl (lv_at hl 0 rfl) ?_
  refine lv_icmp_ge (tgt := 21) C0.1 C0.2.1 dJ8_newLength_cabcc_10 (by decide) (fun c_3 => ?_) (fun c_3 => ?_)
  · have hf := (if_pos c_3).symm.trans hf
    exact nomatch hf
  · have hf := (if_neg c_3).symm.trans hf
    refine lv_iload_n C0.1 C0.2.1 dJ8_newLength_cabcc_13 rfl (lv_at hl 0 rfl) ?_
    refine lv_ldc (v := 2147483639) C0.1 C0.2.1 C0.2.2.2.1 (C0.2.2.2.2 _ w_988) dJ8_newLength_cabcc_14 ?_
    refine lv_icmp_gt (tgt := 21) C0.1 C0.2.1 dJ8_newLength_cabcc_16 (by decide) (fun c_4 => ?_) (fun c_4 => ?_)
    · have hf := (if_pos c_4).symm.trans hf
      exact nomatch hf
    · have hf := (if_neg c_4).symm.trans hf
      refine lv_iload_n C0.1 C0.2.1 dJ8_newLength_cabcc_19 rfl (lv_at hl 0 rfl) ?_
      exact ee_i C0 hI hr hlocks hf dJ8_newLength_cabcc_20

def F_J1_canEncode_fc78d (n : Nat) (x0 : Int32) (M : Mem) : Option Int32 :=
  (if 255 < x0 then some 0 else some 1)
theorem hd_J1_canEncode_fc78d : yJ1_canEncode_fc78d.cls ≠ "java/lang/invoke/MethodHandle" ∧ yJ1_canEncode_fc78d.cls ≠ "java/lang/invoke/VarHandle" ∧ (parseMethodDescriptor yJ1_canEncode_fc78d.desc).map (fun d => d.parameters.length) = some 1 := ⟨by decide +kernel, by decide +kernel, by decide +kernel⟩
set_option maxHeartbeats 4000000 in
set_option maxRecDepth 100000 in
theorem c_J1_canEncode_fc78d (l : Launch) (g : GG) (X : va_W) (r : Nat → Nat) (b : Nat → Nat) (sz n : Nat) (M : Mem) (x0 : Int32) {r0 : Int32} (hf : F_J1_canEncode_fc78d n x0 M = some r0) : Met l yJ1_canEncode_fc78d (.code yJ1_canEncode_fc78d cJ1_canEncode_fc78d 1 (some .boolean) :: LWg) (rmD 0 0 0) (va_Pc [.int x0] (PreP g X 372 (shI g r b) b sz M)) (Qi g X 372 (shI g r b) b sz r0 M) 0 0 (AA X b 372 sz) := by
  refine met_go (by decide +kernel) rfl (Nat.le_of_ble_eq_true rfl) ?_
  intro p e s m below meth c ls H locs C0 C1 hr hlocks hnm hsz hl hI
  subst hsz
  have hl : lv_has ls 1 [(0, .int x0)] := hl
  unfold F_J1_canEncode_fc78d at hf
  refine lv_iload_n C0.1 C0.2.1 dJ1_canEncode_fc78d_0 rfl (lv_at hl 0 rfl) ?_
  refine lv_sipush (v := 255) C0.1 C0.2.1 dJ1_canEncode_fc78d_1 (by decide) ?_
  refine lv_icmp_gt (tgt := 11) C0.1 C0.2.1 dJ1_canEncode_fc78d_4 (by decide) (fun c_1 => ?_) (fun c_1 => ?_)
  · have hf := (if_pos c_1).symm.trans hf
    refine lv_iconst (v := 0) C0.1 C0.2.1 dJ1_canEncode_fc78d_11 (by decide) ?_
    exact ee_z C0 hI hr hlocks rfl hf dJ1_canEncode_fc78d_12
  · have hf := (if_neg c_1).symm.trans hf
    refine lv_iconst (v := 1) C0.1 C0.2.1 dJ1_canEncode_fc78d_7 (by decide) ?_
    refine lv_goto (tgt := 12) C0.1 C0.2.1 dJ1_canEncode_fc78d_8 (by decide) ?_
    exact ee_z C0 hI hr hlocks rfl hf dJ1_canEncode_fc78d_12

def F_J6_stringSize_0f7a4_L16 (n : Nat) (M : Mem) : Nat → Int32 → Int32 → Int32 → Int32 → Option Int32
  | 0, _, _, _, _ => none
  | k16 + 1, x0_16, x1_16, x2_16, x3_16 =>
    (if 10 ≤ x3_16 then some (10 + x1_16) else (if x0_16 ≤ x2_16 then lt' (10 * x2_16) (fun x2_16_3 => lt' (x3_16 + 1) (fun x3_16_5 => F_J6_stringSize_0f7a4_L16 n M k16 x0_16 x1_16 x2_16_3 x3_16_5)) else some (x3_16 + x1_16)))
def F_J6_stringSize_0f7a4 (n : Nat) (x0 : Int32) (M : Mem) : Option Int32 :=
  (if x0 < 0 then F_J6_stringSize_0f7a4_L16 n M n x0 1 (-10) 1 else lt' (-x0) (fun x0_2 => F_J6_stringSize_0f7a4_L16 n M n x0_2 0 (-10) 1))
theorem hd_J6_stringSize_0f7a4 : yJ6_stringSize_0f7a4.cls ≠ "java/lang/invoke/MethodHandle" ∧ yJ6_stringSize_0f7a4.cls ≠ "java/lang/invoke/VarHandle" ∧ (parseMethodDescriptor yJ6_stringSize_0f7a4.desc).map (fun d => d.parameters.length) = some 1 := ⟨by decide +kernel, by decide +kernel, by decide +kernel⟩
set_option maxHeartbeats 4000000 in
set_option maxRecDepth 100000 in
theorem c_J6_stringSize_0f7a4 (l : Launch) (g : GG) (X : va_W) (r : Nat → Nat) (b : Nat → Nat) (sz n : Nat) (M : Mem) (x0 : Int32) {r0 : Int32} (hf : F_J6_stringSize_0f7a4 n x0 M = some r0) : Met l yJ6_stringSize_0f7a4 (.code yJ6_stringSize_0f7a4 cJ6_stringSize_0f7a4 4 (some .int) :: LWg) (rmD 0 0 0) (va_Pc [.int x0] (PreP g X 372 (shI g r b) b sz M)) (Qi g X 372 (shI g r b) b sz r0 M) 0 0 (AA X b 372 sz) := by
  refine met_go (by decide +kernel) rfl (Nat.le_of_ble_eq_true rfl) ?_
  intro p e s m below meth c ls H locs C0 C1 hr hlocks hnm hsz hl hI
  subst hsz
  have hl : lv_has ls 4 [(0, .int x0)] := hl
  unfold F_J6_stringSize_0f7a4 at hf
  refine lv_iconst (v := 1) C0.1 C0.2.1 dJ6_stringSize_0f7a4_0 (by decide) ?_
  refine lv_istore_n (lv' := [(1, .int 1), (0, .int x0)]) C0.1 C0.2.1 dJ6_stringSize_0f7a4_1 rfl hl (by decide) rfl (fun ls hl => ?_)
  refine lv_iload_n C0.1 C0.2.1 dJ6_stringSize_0f7a4_2 rfl (lv_at hl 1 rfl) ?_
  refine lv_if_lt (tgt := 11) C0.1 C0.2.1 dJ6_stringSize_0f7a4_3 (by decide) (fun c_1 => ?_) (fun c_1 => ?_)
  · have hf := (if_pos c_1).symm.trans hf
    refine lv_bipush (v := (-10)) C0.1 C0.2.1 dJ6_stringSize_0f7a4_11 (by decide) ?_
    refine lv_istore_n (lv' := [(2, .int (-10)), (1, .int 1), (0, .int x0)]) C0.1 C0.2.1 dJ6_stringSize_0f7a4_13 rfl hl (by decide) rfl (fun ls hl => ?_)
    refine lv_iconst (v := 1) C0.1 C0.2.1 dJ6_stringSize_0f7a4_14 (by decide) ?_
    refine lv_istore_n (lv' := [(3, .int 1), (2, .int (-10)), (1, .int 1), (0, .int x0)]) C0.1 C0.2.1 dJ6_stringSize_0f7a4_15 rfl hl (by decide) rfl (fun ls hl => ?_)
    have L16 : ∀ (k16 : Nat) (x0_16 : Int32) (x1_16 : Int32) (x2_16 : Int32) (x3_16 : Int32), F_J6_stringSize_0f7a4_L16 n M k16 x0_16 x1_16 x2_16 x3_16 = some r0 → ∀ (H : Heap) (locs : List Loc) (ls : Array Slot), PI g X 372 (shI g r b) b s M H locs → lv_has ls 4 [(0, .int x0_16), (1, .int x1_16), (2, .int x2_16), (3, .int x3_16)] → W p l e (rmD 0 0 0) s m ([.int x0] : List Value).toArray below meth c H locs 0 0 (MQ below (Qi g X 372 (shI g r b) b s.heap.size r0 M) ([.int x0] : List Value).toArray s 0 0 (AA X b 372 s.heap.size)) (F0 m 16 ls []) := by
      intro k16
      induction k16 with
      | zero => intro x0_16 x1_16 x2_16 x3_16 hf; exact absurd (show (none : Option Int32) = some r0 from hf) (fun h => by cases h)
      | succ k16 ih16 =>
        intro x0_16 x1_16 x2_16 x3_16 hf H locs ls hI hl
        unfold F_J6_stringSize_0f7a4_L16 at hf
        refine lv_iload_n C0.1 C0.2.1 dJ6_stringSize_0f7a4_16 rfl (lv_at hl 3 rfl) ?_
        refine lv_bipush (v := 10) C0.1 C0.2.1 dJ6_stringSize_0f7a4_17 (by decide) ?_
        refine lv_icmp_ge (tgt := 42) C0.1 C0.2.1 dJ6_stringSize_0f7a4_19 (by decide) (fun c_16_1 => ?_) (fun c_16_1 => ?_)
        · have hf := (if_pos c_16_1).symm.trans hf
          refine lv_bipush (v := 10) C0.1 C0.2.1 dJ6_stringSize_0f7a4_42 (by decide) ?_
          refine lv_iload_n C0.1 C0.2.1 dJ6_stringSize_0f7a4_44 rfl (lv_at hl 1 rfl) ?_
          refine lv_iadd C0.1 C0.2.1 dJ6_stringSize_0f7a4_45 ?_
          exact ee_i C0 hI hr hlocks hf dJ6_stringSize_0f7a4_46
        · have hf := (if_neg c_16_1).symm.trans hf
          refine lv_iload_n C0.1 C0.2.1 dJ6_stringSize_0f7a4_22 rfl (lv_at hl 0 rfl) ?_
          refine lv_iload_n C0.1 C0.2.1 dJ6_stringSize_0f7a4_23 rfl (lv_at hl 2 rfl) ?_
          refine lv_icmp_le (tgt := 31) C0.1 C0.2.1 dJ6_stringSize_0f7a4_24 (by decide) (fun c_16_2 => ?_) (fun c_16_2 => ?_)
          · have hf := (if_pos c_16_2).symm.trans hf
            refine lv_bipush (v := 10) C0.1 C0.2.1 dJ6_stringSize_0f7a4_31 (by decide) ?_
            refine lv_iload_n C0.1 C0.2.1 dJ6_stringSize_0f7a4_33 rfl (lv_at hl 2 rfl) ?_
            refine lv_imul C0.1 C0.2.1 dJ6_stringSize_0f7a4_34 ?_
            refine lv_topi (fun x2_16_3 e_16_4 => ?_)
            have hf := lt_at e_16_4 hf
            refine lv_istore_n (lv' := [(2, .int x2_16_3), (0, .int x0_16), (1, .int x1_16), (3, .int x3_16)]) C0.1 C0.2.1 dJ6_stringSize_0f7a4_35 rfl hl (by decide) rfl (fun ls hl => ?_)
            obtain ⟨x3_16_5, e_16_6⟩ : ∃ z : Int32, z = x3_16 + 1 := ⟨_, rfl⟩
            have hf := lt_at e_16_6 hf
            refine lv_iinc (v := x3_16_5) (lv' := [(3, .int x3_16_5), (2, .int x2_16_3), (0, .int x0_16), (1, .int x1_16)]) C0.1 C0.2.1 dJ6_stringSize_0f7a4_36 hl (k := 3) rfl (by rw [e_16_6]; rfl) (by decide) rfl (fun ls hl => ?_)
            refine lv_goto (tgt := 16) C0.1 C0.2.1 dJ6_stringSize_0f7a4_39 (by decide) ?_
            exact ih16 x0_16 x1_16 x2_16_3 x3_16_5 hf H locs ls hI (lv_sub hl [2, 3, 1, 0] rfl)
          · have hf := (if_neg c_16_2).symm.trans hf
            refine lv_iload_n C0.1 C0.2.1 dJ6_stringSize_0f7a4_27 rfl (lv_at hl 3 rfl) ?_
            refine lv_iload_n C0.1 C0.2.1 dJ6_stringSize_0f7a4_28 rfl (lv_at hl 1 rfl) ?_
            refine lv_iadd C0.1 C0.2.1 dJ6_stringSize_0f7a4_29 ?_
            exact ee_i C0 hI hr hlocks hf dJ6_stringSize_0f7a4_30
    exact L16 n x0 1 (-10) 1 hf H locs ls hI (lv_sub hl [3, 2, 1, 0] rfl)
  · have hf := (if_neg c_1).symm.trans hf
    refine lv_iconst (v := 0) C0.1 C0.2.1 dJ6_stringSize_0f7a4_6 (by decide) ?_
    refine lv_istore_n (lv' := [(1, .int 0), (0, .int x0)]) C0.1 C0.2.1 dJ6_stringSize_0f7a4_7 rfl hl (by decide) rfl (fun ls hl => ?_)
    refine lv_iload_n C0.1 C0.2.1 dJ6_stringSize_0f7a4_8 rfl (lv_at hl 1 rfl) ?_
    refine lv_ineg C0.1 C0.2.1 dJ6_stringSize_0f7a4_9 ?_
    refine lv_topi (fun x0_2 e_3 => ?_)
    have hf := lt_at e_3 hf
    refine lv_istore_n (lv' := [(0, .int x0_2), (1, .int 0)]) C0.1 C0.2.1 dJ6_stringSize_0f7a4_10 rfl hl (by decide) rfl (fun ls hl => ?_)
    refine lv_bipush (v := (-10)) C0.1 C0.2.1 dJ6_stringSize_0f7a4_11 (by decide) ?_
    refine lv_istore_n (lv' := [(2, .int (-10)), (0, .int x0_2), (1, .int 0)]) C0.1 C0.2.1 dJ6_stringSize_0f7a4_13 rfl hl (by decide) rfl (fun ls hl => ?_)
    refine lv_iconst (v := 1) C0.1 C0.2.1 dJ6_stringSize_0f7a4_14 (by decide) ?_
    refine lv_istore_n (lv' := [(3, .int 1), (2, .int (-10)), (0, .int x0_2), (1, .int 0)]) C0.1 C0.2.1 dJ6_stringSize_0f7a4_15 rfl hl (by decide) rfl (fun ls hl => ?_)
    have L16 : ∀ (k16 : Nat) (x0_16 : Int32) (x1_16 : Int32) (x2_16 : Int32) (x3_16 : Int32), F_J6_stringSize_0f7a4_L16 n M k16 x0_16 x1_16 x2_16 x3_16 = some r0 → ∀ (H : Heap) (locs : List Loc) (ls : Array Slot), PI g X 372 (shI g r b) b s M H locs → lv_has ls 4 [(0, .int x0_16), (1, .int x1_16), (2, .int x2_16), (3, .int x3_16)] → W p l e (rmD 0 0 0) s m ([.int x0] : List Value).toArray below meth c H locs 0 0 (MQ below (Qi g X 372 (shI g r b) b s.heap.size r0 M) ([.int x0] : List Value).toArray s 0 0 (AA X b 372 s.heap.size)) (F0 m 16 ls []) := by
      intro k16
      induction k16 with
      | zero => intro x0_16 x1_16 x2_16 x3_16 hf; exact absurd (show (none : Option Int32) = some r0 from hf) (fun h => by cases h)
      | succ k16 ih16 =>
        intro x0_16 x1_16 x2_16 x3_16 hf H locs ls hI hl
        unfold F_J6_stringSize_0f7a4_L16 at hf
        refine lv_iload_n C0.1 C0.2.1 dJ6_stringSize_0f7a4_16 rfl (lv_at hl 3 rfl) ?_
        refine lv_bipush (v := 10) C0.1 C0.2.1 dJ6_stringSize_0f7a4_17 (by decide) ?_
        refine lv_icmp_ge (tgt := 42) C0.1 C0.2.1 dJ6_stringSize_0f7a4_19 (by decide) (fun c_16_1 => ?_) (fun c_16_1 => ?_)
        · have hf := (if_pos c_16_1).symm.trans hf
          refine lv_bipush (v := 10) C0.1 C0.2.1 dJ6_stringSize_0f7a4_42 (by decide) ?_
          refine lv_iload_n C0.1 C0.2.1 dJ6_stringSize_0f7a4_44 rfl (lv_at hl 1 rfl) ?_
          refine lv_iadd C0.1 C0.2.1 dJ6_stringSize_0f7a4_45 ?_
          exact ee_i C0 hI hr hlocks hf dJ6_stringSize_0f7a4_46
        · have hf := (if_neg c_16_1).symm.trans hf
          refine lv_iload_n C0.1 C0.2.1 dJ6_stringSize_0f7a4_22 rfl (lv_at hl 0 rfl) ?_
          refine lv_iload_n C0.1 C0.2.1 dJ6_stringSize_0f7a4_23 rfl (lv_at hl 2 rfl) ?_
          refine lv_icmp_le (tgt := 31) C0.1 C0.2.1 dJ6_stringSize_0f7a4_24 (by decide) (fun c_16_2 => ?_) (fun c_16_2 => ?_)
          · have hf := (if_pos c_16_2).symm.trans hf
            refine lv_bipush (v := 10) C0.1 C0.2.1 dJ6_stringSize_0f7a4_31 (by decide) ?_
            refine lv_iload_n C0.1 C0.2.1 dJ6_stringSize_0f7a4_33 rfl (lv_at hl 2 rfl) ?_
            refine lv_imul C0.1 C0.2.1 dJ6_stringSize_0f7a4_34 ?_
            refine lv_topi (fun x2_16_3 e_16_4 => ?_)
            have hf := lt_at e_16_4 hf
            refine lv_istore_n (lv' := [(2, .int x2_16_3), (0, .int x0_16), (1, .int x1_16), (3, .int x3_16)]) C0.1 C0.2.1 dJ6_stringSize_0f7a4_35 rfl hl (by decide) rfl (fun ls hl => ?_)
            obtain ⟨x3_16_5, e_16_6⟩ : ∃ z : Int32, z = x3_16 + 1 := ⟨_, rfl⟩
            have hf := lt_at e_16_6 hf
            refine lv_iinc (v := x3_16_5) (lv' := [(3, .int x3_16_5), (2, .int x2_16_3), (0, .int x0_16), (1, .int x1_16)]) C0.1 C0.2.1 dJ6_stringSize_0f7a4_36 hl (k := 3) rfl (by rw [e_16_6]; rfl) (by decide) rfl (fun ls hl => ?_)
            refine lv_goto (tgt := 16) C0.1 C0.2.1 dJ6_stringSize_0f7a4_39 (by decide) ?_
            exact ih16 x0_16 x1_16 x2_16_3 x3_16_5 hf H locs ls hI (lv_sub hl [2, 3, 1, 0] rfl)
          · have hf := (if_neg c_16_2).symm.trans hf
            refine lv_iload_n C0.1 C0.2.1 dJ6_stringSize_0f7a4_27 rfl (lv_at hl 3 rfl) ?_
            refine lv_iload_n C0.1 C0.2.1 dJ6_stringSize_0f7a4_28 rfl (lv_at hl 1 rfl) ?_
            refine lv_iadd C0.1 C0.2.1 dJ6_stringSize_0f7a4_29 ?_
            exact ee_i C0 hI hr hlocks hf dJ6_stringSize_0f7a4_30
    exact L16 n x0_2 0 (-10) 1 hf H locs ls hI (lv_sub hl [2, 3, 1, 0] rfl)
