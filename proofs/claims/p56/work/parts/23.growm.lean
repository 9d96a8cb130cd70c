def og {α β : Type} (x : Option (α × Mem × Mem)) (f : α → Mem → Mem → Option β) : Option β := match x with | some (a, T, M) => f a T M | none => none
theorem og_some {α β : Type} {x : Option (α × Mem × Mem)} {f : α → Mem → Mem → Option β} {r : β} (h : og x f = some r) : ∃ a T M, x = some (a, T, M) ∧ f a T M = some r := by
  cases x with
  | none => cases h
  | some q => exact ⟨q.1, q.2.1, q.2.2, rfl, h⟩
def ogu {β : Type} (x : Option (Unit × Mem × Mem)) (f : Mem → Mem → Option β) : Option β := match x with | some (_, T, M) => f T M | none => none
theorem ogu_some {β : Type} {x : Option (Unit × Mem × Mem)} {f : Mem → Mem → Option β} {r : β} (h : ogu x f = some r) : ∃ T M, x = some ((), T, M) ∧ f T M = some r := by
  cases x with
  | none => cases h
  | some q => exact ⟨q.2.1, q.2.2, rfl, h⟩
def obxg {α β : Type} (x : Option (RX α)) (T M : Mem) (f : α → Option (RX β × Mem × Mem)) : Option (RX β × Mem × Mem) := match x with | some (.inl e) => some (.inl e, T, M) | some (.inr a) => f a | none => none
theorem obxg_x {α β : Type} {x : Option (RX α)} {T M T' M' : Mem} {f : α → Option (RX β × Mem × Mem)} {r : RX β} (h : obxg x T M f = some (r, T', M')) : ∃ q, x = some q ∧ (∀ e, q = .inl e → r = .inl e ∧ M = M') ∧ (∀ a, q = .inr a → f a = some (r, T', M')) := by
  cases x with
  | none => cases h
  | some q =>
    cases q with
    | inl k => cases h; exact ⟨_, rfl, fun e he => by cases he; exact ⟨rfl, rfl⟩, fun a ha => nomatch ha⟩
    | inr a => exact ⟨_, rfl, fun e he => (nomatch he), fun a ha => by cases ha; exact h⟩
theorem g3_2 {α : Type} {a a' : α} {T M T' M' : Mem} (h : some (a, T, M) = some (a', T', M')) : some (a, M) = some (a', M') := by
  cases h
  rfl
section SDIG
variable {p : Program} {l : Launch} {e : Env} {R : Room} {s : State} {m : MethodId} {args : Array Value} {below : List Frame} {meth : Method} {c : Code} {H : Heap} {locs : List Loc} {cells slots : Nat} {Q : State → Prop}
variable {cc : ByteArray} {nL : Nat} {own : String} {pc : Nat} {ls : Array Slot} {rest st0 : List Value} {g : GG} {X : va_W} {N : Nat} {sh : Shp} {b : Nat → Nat} {M : Mem} {index : Nat}
theorem r_sd3 (C0 : CallFix p m c cc nL s args LWg own) (C1 : CX g X N sh b s) (hI : PI g X N sh b s M H locs) (hw : (.fieldLink own index RJ6 "DigitOnes" "[B") ∈ LWg) (hdg : decode cc pc = .ok (.getstatic index, 3))
    (kk : W p l e R s m args below meth c H locs cells slots Q (F0 m (pc + 3) ls (.ref (g.2.2 2 3) :: rest))) : W p l e R s m args below meth c H locs cells slots Q (F0 m pc ls rest) :=
  va_gets (C := RJ6) (n := "DigitOnes") C0.1 C0.2.1 C1.2.2.1.2.2.2.2.2.2.2.2.2.2.2.2.2.1 hI.2 C0.2.2.2.1 (C0.2.2.2.2 _ hw) (fun _ h => h) hdg kk
theorem r_sdld3 (C0 : CallFix p m c cc nL s args LWg own) (C1 : CX g X N sh b s) (hI : PI g X N sh b s M H locs) {i : Int32} (hin : inb i 100 = true) (hdg : decode cc pc = .ok (.baload, 1))
    (kk : W p l e R s m args below meth c H locs cells slots Q (F0 m (pc + 1) ls (.int (dOnl.getD (ix i) 0) :: rest))) : W p l e R s m args below meth c H locs cells slots Q (F0 m pc ls (.int i :: .ref (g.2.2 2 3) :: rest)) :=
  va_tb C0.1 C0.2.1 C1.2.2.1.2.2.2.2.2.2.2.2.2.2.2.2.2.2.1 hI.2 (inb_in hin) rfl hdg kk
theorem r_sd4 (C0 : CallFix p m c cc nL s args LWg own) (C1 : CX g X N sh b s) (hI : PI g X N sh b s M H locs) (hw : (.fieldLink own index RJ6 "DigitTens" "[B") ∈ LWg) (hdg : decode cc pc = .ok (.getstatic index, 3))
    (kk : W p l e R s m args below meth c H locs cells slots Q (F0 m (pc + 3) ls (.ref (g.2.2 2 4) :: rest))) : W p l e R s m args below meth c H locs cells slots Q (F0 m pc ls rest) :=
  va_gets (C := RJ6) (n := "DigitTens") C0.1 C0.2.1 C1.2.2.1.2.2.2.2.2.2.2.2.2.2.2.2.2.2.2.1 hI.2 C0.2.2.2.1 (C0.2.2.2.2 _ hw) (fun _ h => h) hdg kk
theorem r_sdld4 (C0 : CallFix p m c cc nL s args LWg own) (C1 : CX g X N sh b s) (hI : PI g X N sh b s M H locs) {i : Int32} (hin : inb i 100 = true) (hdg : decode cc pc = .ok (.baload, 1))
    (kk : W p l e R s m args below meth c H locs cells slots Q (F0 m (pc + 1) ls (.int (dTel.getD (ix i) 0) :: rest))) : W p l e R s m args below meth c H locs cells slots Q (F0 m pc ls (.int i :: .ref (g.2.2 2 4) :: rest)) :=
  va_tb C0.1 C0.2.1 C1.2.2.1.2.2.2.2.2.2.2.2.2.2.2.2.2.2.2.2.1 hI.2 (inb_in hin) rfl hdg kk
end SDIG
def F_J5_newCapacity_0f7a4_t (n : Nat) (T : Mem) (x1 : Int32) (M : Mem) : Option Int32 :=
  lt' (nI (ix (T 374 0))) (fun x2_1 => lt' (x1 <<< ((M 370 1) &&& 31)) (fun x3_3 => lt' (x3_3 - x2_1) (fun x4_5 => ob (F_J8_newLength_cabcc n x2_1 x4_5 (x2_1 + (2 <<< ((M 370 1) &&& 31))) M) (fun r_8 => (if r_8 = 2147483647 then none else some (r_8 >>> ((M 370 1) &&& 31)))))))
theorem hd_J5_newCapacity_0f7a4 : yJ5_newCapacity_0f7a4.cls ≠ "java/lang/invoke/MethodHandle" ∧ yJ5_newCapacity_0f7a4.cls ≠ "java/lang/invoke/VarHandle" ∧ (parseMethodDescriptor yJ5_newCapacity_0f7a4.desc).map (fun d => d.parameters.length) = some 1 := ⟨by decide +kernel, by decide +kernel, by decide +kernel⟩
set_option maxHeartbeats 4000000 in
set_option maxRecDepth 100000 in
theorem c_J5_newCapacity_0f7a4_t (l : Launch) (g : GG) (X : va_W) (r : Nat → Nat) (b : Nat → Nat) (sz n : Nat) (M : Mem) (T : Mem) (x1 : Int32) {r0 : Int32} (hf : F_J5_newCapacity_0f7a4_t n T x1 M = some r0) : Met l yJ5_newCapacity_0f7a4 (.code yJ5_newCapacity_0f7a4 cJ5_newCapacity_0f7a4 6 (some .int) :: LWg) (rmD 2 0 0) (va_Pc [.ref (b 370), .int x1] (PreP g (xb g r T ++ X) 372 (shI g r b) b sz M)) (Qi g (xb g r T ++ X) 372 (shI g r b) b sz r0 M) 0 0 (AA (xb g r T ++ X) b 372 sz) := by
  refine met_go (by decide +kernel) rfl (Nat.le_of_ble_eq_true rfl) ?_
  intro p e s m below meth c ls H locs C0 C1 hr hlocks hnm hsz hl hI
  subst hsz
  have hl : lv_has ls 6 [(0, .ref (b 370)), (1, .int x1)] := hl
  unfold F_J5_newCapacity_0f7a4_t at hf
  refine lv_aload_n C0.1 C0.2.1 dJ5_newCapacity_0f7a4_0 rfl (lv_at hl 0 rfl) ?_
  refine r_getA (C := RJ4) (T := TJ4) (N9 := 4) (ci := 1) C0 C1 hI iJ4 rfl 370 0 (kdlt13 (rfl : kdI 370 = 13)) (by decide) (shI_13 (rfl : kdI 370 = 13) _) rfl w_327 dJ5_newCapacity_0f7a4_1 ?_
  refine x_alen C0 C1 hI 0 xb_0 dJ5_newCapacity_0f7a4_4 ?_
  refine lv_topi (fun x2_1 e_2 => ?_)
  have hf := lt_at e_2 hf
  refine lv_istore_n (lv' := [(2, .int x2_1), (0, .ref (b 370)), (1, .int x1)]) C0.1 C0.2.1 dJ5_newCapacity_0f7a4_5 rfl hl (by decide) rfl (fun ls hl => ?_)
  refine lv_iload_n C0.1 C0.2.1 dJ5_newCapacity_0f7a4_6 rfl (lv_at hl 2 rfl) ?_
  refine lv_aload_n C0.1 C0.2.1 dJ5_newCapacity_0f7a4_7 rfl (lv_at hl 1 rfl) ?_
  refine r_getA (C := RJ4) (T := TJ4) (N9 := 4) (ci := 1) C0 C1 hI iJ4 rfl 370 1 (kdlt13 (rfl : kdI 370 = 13)) (by decide) (shI_13 (rfl : kdI 370 = 13) _) rfl w_328 dJ5_newCapacity_0f7a4_8 ?_
  refine lv_ishl C0.1 C0.2.1 dJ5_newCapacity_0f7a4_11 ?_
  refine lv_topi (fun x3_3 e_4 => ?_)
  have hf := lt_at e_4 hf
  refine lv_istore_n (lv' := [(3, .int x3_3), (2, .int x2_1), (0, .ref (b 370)), (1, .int x1)]) C0.1 C0.2.1 dJ5_newCapacity_0f7a4_12 rfl hl (by decide) rfl (fun ls hl => ?_)
  refine lv_iload_n C0.1 C0.2.1 dJ5_newCapacity_0f7a4_13 rfl (lv_at hl 0 rfl) ?_
  refine lv_iload_n C0.1 C0.2.1 dJ5_newCapacity_0f7a4_14 rfl (lv_at hl 1 rfl) ?_
  refine lv_isub C0.1 C0.2.1 dJ5_newCapacity_0f7a4_15 ?_
  refine lv_topi (fun x4_5 e_6 => ?_)
  have hf := lt_at e_6 hf
  refine lv_istore (lv' := [(4, .int x4_5), (3, .int x3_3), (2, .int x2_1), (0, .ref (b 370)), (1, .int x1)]) C0.1 C0.2.1 dJ5_newCapacity_0f7a4_16 hl (by decide) rfl (fun ls hl => ?_)
  refine lv_iload_n C0.1 C0.2.1 dJ5_newCapacity_0f7a4_18 rfl (lv_at hl 2 rfl) ?_
  refine lv_iload C0.1 C0.2.1 dJ5_newCapacity_0f7a4_19 (lv_at hl 0 rfl) ?_
  refine lv_iload_n C0.1 C0.2.1 dJ5_newCapacity_0f7a4_21 rfl (lv_at hl 2 rfl) ?_
  refine lv_iconst (v := 2) C0.1 C0.2.1 dJ5_newCapacity_0f7a4_22 (by decide) ?_
  refine lv_aload_n C0.1 C0.2.1 dJ5_newCapacity_0f7a4_23 rfl (lv_at hl 3 rfl) ?_
  refine r_getA (C := RJ4) (T := TJ4) (N9 := 4) (ci := 1) C0 C1 hI iJ4 rfl 370 1 (kdlt13 (rfl : kdI 370 = 13)) (by decide) (shI_13 (rfl : kdI 370 = 13) _) rfl w_328 dJ5_newCapacity_0f7a4_24 ?_
  refine lv_ishl C0.1 C0.2.1 dJ5_newCapacity_0f7a4_27 ?_
  refine lv_iadd C0.1 C0.2.1 dJ5_newCapacity_0f7a4_28 ?_
  obtain ⟨r_8, h_7, hf⟩ := ob_some hf
  refine k_i C1 hI (q_S C0 C1 hI (c_J8_newLength_cabcc l g (xb g r T ++ X) r b H.size n M x2_1 x4_5 (x2_1 + (2 <<< ((M 370 1) &&& 31))) h_7) w_982 w_983 w_95 w_984 ⟨rfl, rfl⟩ hd_J8_newLength_cabcc ⟨Nat.le_of_ble_eq_true rfl, Nat.le_of_ble_eq_true rfl⟩ rfl hl.1 rfl (Nat.le_of_ble_eq_true rfl) dJ5_newCapacity_0f7a4_29 ⟨Nat.le_of_ble_eq_true rfl, Nat.le_of_ble_eq_true rfl⟩) (fun H locs hI => ?_)
  refine lv_istore (lv' := [(5, .int r_8), (4, .int x4_5), (3, .int x3_3), (2, .int x2_1), (0, .ref (b 370)), (1, .int x1)]) C0.1 C0.2.1 dJ5_newCapacity_0f7a4_32 hl (by decide) rfl (fun ls hl => ?_)
  refine lv_iload C0.1 C0.2.1 dJ5_newCapacity_0f7a4_34 (lv_at hl 0 rfl) ?_
  refine lv_ldc (v := 2147483647) C0.1 C0.2.1 C0.2.2.2.1 (C0.2.2.2.2 _ w_992) dJ5_newCapacity_0f7a4_36 ?_
  refine lv_icmp_ne (tgt := 51) C0.1 C0.2.1 dJ5_newCapacity_0f7a4_38 (by decide) (fun c_9 => ?_) (fun c_9 => ?_)
  · have hf := (if_neg c_9).symm.trans hf
    refine lv_iload C0.1 C0.2.1 dJ5_newCapacity_0f7a4_51 (lv_at hl 0 rfl) ?_
    refine lv_aload_n C0.1 C0.2.1 dJ5_newCapacity_0f7a4_53 rfl (lv_at hl 4 rfl) ?_
    refine r_getA (C := RJ4) (T := TJ4) (N9 := 4) (ci := 1) C0 C1 hI iJ4 rfl 370 1 (kdlt13 (rfl : kdI 370 = 13)) (by decide) (shI_13 (rfl : kdI 370 = 13) _) rfl w_328 dJ5_newCapacity_0f7a4_54 ?_
    refine lv_ishr C0.1 C0.2.1 dJ5_newCapacity_0f7a4_57 ?_
    exact ee_i C0 hI hr hlocks hf dJ5_newCapacity_0f7a4_58
  · have hf := (if_pos c_9).symm.trans hf
    exact nomatch hf

def F_J5_newCapacity_0f7a4_l (n : Nat) (T : Mem) (x1 : Int32) (M : Mem) : Option Int32 :=
  lt' (nI (ix (T 374 1))) (fun x2_1 => lt' (x1 <<< ((M 371 1) &&& 31)) (fun x3_3 => lt' (x3_3 - x2_1) (fun x4_5 => ob (F_J8_newLength_cabcc n x2_1 x4_5 (x2_1 + (2 <<< ((M 371 1) &&& 31))) M) (fun r_8 => (if r_8 = 2147483647 then none else some (r_8 >>> ((M 371 1) &&& 31)))))))
set_option maxHeartbeats 4000000 in
set_option maxRecDepth 100000 in
theorem c_J5_newCapacity_0f7a4_l (l : Launch) (g : GG) (X : va_W) (r : Nat → Nat) (b : Nat → Nat) (sz n : Nat) (M : Mem) (T : Mem) (x1 : Int32) {r0 : Int32} (hf : F_J5_newCapacity_0f7a4_l n T x1 M = some r0) : Met l yJ5_newCapacity_0f7a4 (.code yJ5_newCapacity_0f7a4 cJ5_newCapacity_0f7a4 6 (some .int) :: LWg) (rmD 2 0 0) (va_Pc [.ref (b 371), .int x1] (PreP g (xb g r T ++ X) 372 (shI g r b) b sz M)) (Qi g (xb g r T ++ X) 372 (shI g r b) b sz r0 M) 0 0 (AA (xb g r T ++ X) b 372 sz) := by
  refine met_go (by decide +kernel) rfl (Nat.le_of_ble_eq_true rfl) ?_
  intro p e s m below meth c ls H locs C0 C1 hr hlocks hnm hsz hl hI
  subst hsz
  have hl : lv_has ls 6 [(0, .ref (b 371)), (1, .int x1)] := hl
  unfold F_J5_newCapacity_0f7a4_l at hf
  refine lv_aload_n C0.1 C0.2.1 dJ5_newCapacity_0f7a4_0 rfl (lv_at hl 0 rfl) ?_
  refine r_getA (C := RJ4) (T := TJ4) (N9 := 4) (ci := 1) C0 C1 hI iJ4 rfl 371 0 (kdlt13 (rfl : kdI 371 = 13)) (by decide) (shI_13 (rfl : kdI 371 = 13) _) rfl w_327 dJ5_newCapacity_0f7a4_1 ?_
  refine x_alen C0 C1 hI 1 xb_1 dJ5_newCapacity_0f7a4_4 ?_
  refine lv_topi (fun x2_1 e_2 => ?_)
  have hf := lt_at e_2 hf
  refine lv_istore_n (lv' := [(2, .int x2_1), (0, .ref (b 371)), (1, .int x1)]) C0.1 C0.2.1 dJ5_newCapacity_0f7a4_5 rfl hl (by decide) rfl (fun ls hl => ?_)
  refine lv_iload_n C0.1 C0.2.1 dJ5_newCapacity_0f7a4_6 rfl (lv_at hl 2 rfl) ?_
  refine lv_aload_n C0.1 C0.2.1 dJ5_newCapacity_0f7a4_7 rfl (lv_at hl 1 rfl) ?_
  refine r_getA (C := RJ4) (T := TJ4) (N9 := 4) (ci := 1) C0 C1 hI iJ4 rfl 371 1 (kdlt13 (rfl : kdI 371 = 13)) (by decide) (shI_13 (rfl : kdI 371 = 13) _) rfl w_328 dJ5_newCapacity_0f7a4_8 ?_
  refine lv_ishl C0.1 C0.2.1 dJ5_newCapacity_0f7a4_11 ?_
  refine lv_topi (fun x3_3 e_4 => ?_)
  have hf := lt_at e_4 hf
  refine lv_istore_n (lv' := [(3, .int x3_3), (2, .int x2_1), (0, .ref (b 371)), (1, .int x1)]) C0.1 C0.2.1 dJ5_newCapacity_0f7a4_12 rfl hl (by decide) rfl (fun ls hl => ?_)
  refine lv_iload_n C0.1 C0.2.1 dJ5_newCapacity_0f7a4_13 rfl (lv_at hl 0 rfl) ?_
  refine lv_iload_n C0.1 C0.2.1 dJ5_newCapacity_0f7a4_14 rfl (lv_at hl 1 rfl) ?_
  refine lv_isub C0.1 C0.2.1 dJ5_newCapacity_0f7a4_15 ?_
  refine lv_topi (fun x4_5 e_6 => ?_)
  have hf := lt_at e_6 hf
  refine lv_istore (lv' := [(4, .int x4_5), (3, .int x3_3), (2, .int x2_1), (0, .ref (b 371)), (1, .int x1)]) C0.1 C0.2.1 dJ5_newCapacity_0f7a4_16 hl (by decide) rfl (fun ls hl => ?_)
  refine lv_iload_n C0.1 C0.2.1 dJ5_newCapacity_0f7a4_18 rfl (lv_at hl 2 rfl) ?_
  refine lv_iload C0.1 C0.2.1 dJ5_newCapacity_0f7a4_19 (lv_at hl 0 rfl) ?_
  refine lv_iload_n C0.1 C0.2.1 dJ5_newCapacity_0f7a4_21 rfl (lv_at hl 2 rfl) ?_
  refine lv_iconst (v := 2) C0.1 C0.2.1 dJ5_newCapacity_0f7a4_22 (by decide) ?_
  refine lv_aload_n C0.1 C0.2.1 dJ5_newCapacity_0f7a4_23 rfl (lv_at hl 3 rfl) ?_
  refine r_getA (C := RJ4) (T := TJ4) (N9 := 4) (ci := 1) C0 C1 hI iJ4 rfl 371 1 (kdlt13 (rfl : kdI 371 = 13)) (by decide) (shI_13 (rfl : kdI 371 = 13) _) rfl w_328 dJ5_newCapacity_0f7a4_24 ?_
  refine lv_ishl C0.1 C0.2.1 dJ5_newCapacity_0f7a4_27 ?_
  refine lv_iadd C0.1 C0.2.1 dJ5_newCapacity_0f7a4_28 ?_
  obtain ⟨r_8, h_7, hf⟩ := ob_some hf
  refine k_i C1 hI (q_S C0 C1 hI (c_J8_newLength_cabcc l g (xb g r T ++ X) r b H.size n M x2_1 x4_5 (x2_1 + (2 <<< ((M 371 1) &&& 31))) h_7) w_982 w_983 w_95 w_984 ⟨rfl, rfl⟩ hd_J8_newLength_cabcc ⟨Nat.le_of_ble_eq_true rfl, Nat.le_of_ble_eq_true rfl⟩ rfl hl.1 rfl (Nat.le_of_ble_eq_true rfl) dJ5_newCapacity_0f7a4_29 ⟨Nat.le_of_ble_eq_true rfl, Nat.le_of_ble_eq_true rfl⟩) (fun H locs hI => ?_)
  refine lv_istore (lv' := [(5, .int r_8), (4, .int x4_5), (3, .int x3_3), (2, .int x2_1), (0, .ref (b 371)), (1, .int x1)]) C0.1 C0.2.1 dJ5_newCapacity_0f7a4_32 hl (by decide) rfl (fun ls hl => ?_)
  refine lv_iload C0.1 C0.2.1 dJ5_newCapacity_0f7a4_34 (lv_at hl 0 rfl) ?_
  refine lv_ldc (v := 2147483647) C0.1 C0.2.1 C0.2.2.2.1 (C0.2.2.2.2 _ w_992) dJ5_newCapacity_0f7a4_36 ?_
  refine lv_icmp_ne (tgt := 51) C0.1 C0.2.1 dJ5_newCapacity_0f7a4_38 (by decide) (fun c_9 => ?_) (fun c_9 => ?_)
  · have hf := (if_neg c_9).symm.trans hf
    refine lv_iload C0.1 C0.2.1 dJ5_newCapacity_0f7a4_51 (lv_at hl 0 rfl) ?_
    refine lv_aload_n C0.1 C0.2.1 dJ5_newCapacity_0f7a4_53 rfl (lv_at hl 4 rfl) ?_
    refine r_getA (C := RJ4) (T := TJ4) (N9 := 4) (ci := 1) C0 C1 hI iJ4 rfl 371 1 (kdlt13 (rfl : kdI 371 = 13)) (by decide) (shI_13 (rfl : kdI 371 = 13) _) rfl w_328 dJ5_newCapacity_0f7a4_54 ?_
    refine lv_ishr C0.1 C0.2.1 dJ5_newCapacity_0f7a4_57 ?_
    exact ee_i C0 hI hr hlocks hf dJ5_newCapacity_0f7a4_58
  · have hf := (if_pos c_9).symm.trans hf
    exact nomatch hf

def Fg_J5_ensureCapacityInternal_d00df_t (n : Nat) (T0 : Mem) (x1 : Int32) (M : Mem) : Option (Unit × Mem × Mem) :=
  lt' ((nI (ix (T0 374 0))) >>> ((M 370 1) &&& 31)) (fun x2_1 => (if (x1 - x2_1) ≤ 0 then some ((), T0, M) else ob (F_J5_newCapacity_0f7a4_t n T0 x1 M) (fun r_5 => chk (gok (T0 372) (ix (T0 374 0)) (r_5 <<< ((M 370 1) &&& 31))) (lt' (gT T0 372 0 (r_5 <<< ((M 370 1) &&& 31))) (fun T_9 => some ((), T_9, M))))))
set_option maxHeartbeats 4000000 in
set_option maxRecDepth 100000 in
theorem cg_J5_ensureCapacityInternal_d00df_t (l : Launch) (g : GG) (X : va_W) (r b : Nat → Nat) (sz n : Nat) (M : Mem) (T0 : Mem) (x1 : Int32)  {T' M' : Mem} (hf : Fg_J5_ensureCapacityInternal_d00df_t n T0 x1 M = some ((), T', M')) : Met l yJ5_ensureCapacityInternal_d00df (.code yJ5_ensureCapacityInternal_d00df cJ5_ensureCapacityInternal_d00df 3 none :: LWg) (rmD 3 1 80) (va_Pc [.ref (b 370), .int x1] (PreP g (xb g r T0 ++ X) 372 (shI g r b) b sz M)) (QgV g X (AA (xb g r T0 ++ X) b 372 sz) b sz T' M') 1 80 (AA (xb g r T0 ++ X) b 372 sz) := by
  refine met_go (by decide +kernel) rfl (Nat.le_of_ble_eq_true rfl) ?_
  intro p e s m below meth c ls H locs C0 C1 hr hlocks hnm hsz hl hI
  subst hsz
  have hG := GX.go C1
  have hl : lv_has ls 3 [(0, .ref (b 370)), (1, .int x1)] := hl
  unfold Fg_J5_ensureCapacityInternal_d00df_t at hf
  refine lv_aload_n C0.1 C0.2.1 dJ5_ensureCapacityInternal_d00df_0 rfl (lv_at hl 0 rfl) ?_
  refine r_getA (C := RJ4) (T := TJ4) (N9 := 4) (ci := 1) C0 C1 hI iJ4 rfl 370 0 (kdlt13 (rfl : kdI 370 = 13)) (by decide) (shI_13 (rfl : kdI 370 = 13) _) rfl w_327 dJ5_ensureCapacityInternal_d00df_1 ?_
  refine x_alen C0 C1 hI 0 xb_0 dJ5_ensureCapacityInternal_d00df_4 ?_
  refine lv_aload_n C0.1 C0.2.1 dJ5_ensureCapacityInternal_d00df_5 rfl (lv_at hl 0 rfl) ?_
  refine r_getA (C := RJ4) (T := TJ4) (N9 := 4) (ci := 1) C0 C1 hI iJ4 rfl 370 1 (kdlt13 (rfl : kdI 370 = 13)) (by decide) (shI_13 (rfl : kdI 370 = 13) _) rfl w_328 dJ5_ensureCapacityInternal_d00df_6 ?_
  refine lv_ishr C0.1 C0.2.1 dJ5_ensureCapacityInternal_d00df_9 ?_
  refine lv_topi (fun x2_1 e_2 => ?_)
  have hf := lt_at e_2 hf
  refine lv_istore_n (lv' := [(2, .int x2_1), (0, .ref (b 370)), (1, .int x1)]) C0.1 C0.2.1 dJ5_ensureCapacityInternal_d00df_10 rfl hl (by decide) rfl (fun ls hl => ?_)
  refine lv_iload_n C0.1 C0.2.1 dJ5_ensureCapacityInternal_d00df_11 rfl (lv_at hl 2 rfl) ?_
  refine lv_iload_n C0.1 C0.2.1 dJ5_ensureCapacityInternal_d00df_12 rfl (lv_at hl 0 rfl) ?_
  refine lv_isub C0.1 C0.2.1 dJ5_ensureCapacityInternal_d00df_13 ?_
  refine lv_if_le (tgt := 38) C0.1 C0.2.1 dJ5_ensureCapacityInternal_d00df_14 (by decide) (fun c_3 => ?_) (fun c_3 => ?_)
  · have hf := (if_pos c_3).symm.trans hf
    refine W.widen (k := 1) (n := 80) (Nat.le_of_ble_eq_true rfl) (Nat.le_of_ble_eq_true rfl) ?_
    exact eg_v C0 hG hI hr hlocks hf dJ5_ensureCapacityInternal_d00df_38
  · have hf := (if_neg c_3).symm.trans hf
    refine lv_aload_n C0.1 C0.2.1 dJ5_ensureCapacityInternal_d00df_17 rfl (lv_at hl 1 rfl) ?_
    refine lv_aload_n C0.1 C0.2.1 dJ5_ensureCapacityInternal_d00df_18 rfl (lv_at hl 1 rfl) ?_
    refine r_getA (C := RJ4) (T := TJ4) (N9 := 4) (ci := 1) C0 C1 hI iJ4 rfl 370 0 (kdlt13 (rfl : kdI 370 = 13)) (by decide) (shI_13 (rfl : kdI 370 = 13) _) rfl w_327 dJ5_ensureCapacityInternal_d00df_19 ?_
    refine lv_aload_n C0.1 C0.2.1 dJ5_ensureCapacityInternal_d00df_22 rfl (lv_at hl 1 rfl) ?_
    refine lv_iload_n C0.1 C0.2.1 dJ5_ensureCapacityInternal_d00df_23 rfl (lv_at hl 2 rfl) ?_
    obtain ⟨r_5, h_4, hf⟩ := ob_some hf
    refine k_i C1 hI (q_U C0 C1 hI 370 (c_J5_newCapacity_0f7a4_t l g X r b H.size n M T0 x1 h_4) RJ4 w_978 w_1802 w_9002 w_980 w_80 w_981 ⟨rfl, rfl⟩ hd_J5_newCapacity_0f7a4 ⟨Nat.le_of_ble_eq_true rfl, Nat.le_of_ble_eq_true rfl⟩ (kdlt13 (rfl : kdI 370 = 13)) (shI_13 (rfl : kdI 370 = 13) _) rfl rfl rfl hl.1 rfl (Nat.le_of_ble_eq_true rfl) dJ5_ensureCapacityInternal_d00df_24 ⟨Nat.le_of_ble_eq_true rfl, Nat.le_of_ble_eq_true rfl⟩) (fun H locs hI => ?_)
    refine lv_aload_n C0.1 C0.2.1 dJ5_ensureCapacityInternal_d00df_27 rfl (lv_at hl 1 rfl) ?_
    refine r_getA (C := RJ4) (T := TJ4) (N9 := 4) (ci := 1) C0 C1 hI iJ4 rfl 370 1 (kdlt13 (rfl : kdI 370 = 13)) (by decide) (shI_13 (rfl : kdI 370 = 13) _) rfl w_328 dJ5_ensureCapacityInternal_d00df_28 ?_
    refine lv_ishl C0.1 C0.2.1 dJ5_ensureCapacityInternal_d00df_31 ?_
    obtain ⟨h_6, hf⟩ := chk_some hf
    refine g_copyput0 C0 hG hI h_6 hl.1 (Nat.le_of_ble_eq_true rfl) (Nat.le_of_ble_eq_true rfl) (Nat.le_of_ble_eq_true rfl) ⟨Nat.le_of_ble_eq_true rfl, Nat.le_of_ble_eq_true rfl⟩ dJ5_ensureCapacityInternal_d00df_32 dJ5_ensureCapacityInternal_d00df_35 (fun q_7 X_8 H locs hG hI => ?_)
    obtain ⟨T_9, e_10⟩ : ∃ z : Mem, z = gT T0 372 0 (r_5 <<< ((M 370 1) &&& 31)) := ⟨_, rfl⟩
    rw [← e_10] at hG hI
    have C1 := hG.1
    have hf := lt_at e_10 hf
    exact eg_v C0 hG hI hr hlocks hf dJ5_ensureCapacityInternal_d00df_38

def Fg_J5_ensureCapacityInternal_d00df_l (n : Nat) (T0 : Mem) (x1 : Int32) (M : Mem) : Option (Unit × Mem × Mem) :=
  lt' ((nI (ix (T0 374 1))) >>> ((M 371 1) &&& 31)) (fun x2_1 => (if (x1 - x2_1) ≤ 0 then some ((), T0, M) else ob (F_J5_newCapacity_0f7a4_l n T0 x1 M) (fun r_5 => chk (gok (T0 373) (ix (T0 374 1)) (r_5 <<< ((M 371 1) &&& 31))) (lt' (gT T0 373 1 (r_5 <<< ((M 371 1) &&& 31))) (fun T_9 => some ((), T_9, M))))))
set_option maxHeartbeats 4000000 in
set_option maxRecDepth 100000 in
theorem cg_J5_ensureCapacityInternal_d00df_l (l : Launch) (g : GG) (X : va_W) (r b : Nat → Nat) (sz n : Nat) (M : Mem) (T0 : Mem) (x1 : Int32)  {T' M' : Mem} (hf : Fg_J5_ensureCapacityInternal_d00df_l n T0 x1 M = some ((), T', M')) : Met l yJ5_ensureCapacityInternal_d00df (.code yJ5_ensureCapacityInternal_d00df cJ5_ensureCapacityInternal_d00df 3 none :: LWg) (rmD 3 1 80) (va_Pc [.ref (b 371), .int x1] (PreP g (xb g r T0 ++ X) 372 (shI g r b) b sz M)) (QgV g X (AA (xb g r T0 ++ X) b 372 sz) b sz T' M') 1 80 (AA (xb g r T0 ++ X) b 372 sz) := by
  refine met_go (by decide +kernel) rfl (Nat.le_of_ble_eq_true rfl) ?_
  intro p e s m below meth c ls H locs C0 C1 hr hlocks hnm hsz hl hI
  subst hsz
  have hG := GX.go C1
  have hl : lv_has ls 3 [(0, .ref (b 371)), (1, .int x1)] := hl
  unfold Fg_J5_ensureCapacityInternal_d00df_l at hf
  refine lv_aload_n C0.1 C0.2.1 dJ5_ensureCapacityInternal_d00df_0 rfl (lv_at hl 0 rfl) ?_
  refine r_getA (C := RJ4) (T := TJ4) (N9 := 4) (ci := 1) C0 C1 hI iJ4 rfl 371 0 (kdlt13 (rfl : kdI 371 = 13)) (by decide) (shI_13 (rfl : kdI 371 = 13) _) rfl w_327 dJ5_ensureCapacityInternal_d00df_1 ?_
  refine x_alen C0 C1 hI 1 xb_1 dJ5_ensureCapacityInternal_d00df_4 ?_
  refine lv_aload_n C0.1 C0.2.1 dJ5_ensureCapacityInternal_d00df_5 rfl (lv_at hl 0 rfl) ?_
  refine r_getA (C := RJ4) (T := TJ4) (N9 := 4) (ci := 1) C0 C1 hI iJ4 rfl 371 1 (kdlt13 (rfl : kdI 371 = 13)) (by decide) (shI_13 (rfl : kdI 371 = 13) _) rfl w_328 dJ5_ensureCapacityInternal_d00df_6 ?_
  refine lv_ishr C0.1 C0.2.1 dJ5_ensureCapacityInternal_d00df_9 ?_
  refine lv_topi (fun x2_1 e_2 => ?_)
  have hf := lt_at e_2 hf
  refine lv_istore_n (lv' := [(2, .int x2_1), (0, .ref (b 371)), (1, .int x1)]) C0.1 C0.2.1 dJ5_ensureCapacityInternal_d00df_10 rfl hl (by decide) rfl (fun ls hl => ?_)
  refine lv_iload_n C0.1 C0.2.1 dJ5_ensureCapacityInternal_d00df_11 rfl (lv_at hl 2 rfl) ?_
  refine lv_iload_n C0.1 C0.2.1 dJ5_ensureCapacityInternal_d00df_12 rfl (lv_at hl 0 rfl) ?_
  refine lv_isub C0.1 C0.2.1 dJ5_ensureCapacityInternal_d00df_13 ?_
  refine lv_if_le (tgt := 38) C0.1 C0.2.1 dJ5_ensureCapacityInternal_d00df_14 (by decide) (fun c_3 => ?_) (fun c_3 => ?_)
  · have hf := (if_pos c_3).symm.trans hf
    refine W.widen (k := 1) (n := 80) (Nat.le_of_ble_eq_true rfl) (Nat.le_of_ble_eq_true rfl) ?_
    exact eg_v C0 hG hI hr hlocks hf dJ5_ensureCapacityInternal_d00df_38
  · have hf := (if_neg c_3).symm.trans hf
    refine lv_aload_n C0.1 C0.2.1 dJ5_ensureCapacityInternal_d00df_17 rfl (lv_at hl 1 rfl) ?_
    refine lv_aload_n C0.1 C0.2.1 dJ5_ensureCapacityInternal_d00df_18 rfl (lv_at hl 1 rfl) ?_
    refine r_getA (C := RJ4) (T := TJ4) (N9 := 4) (ci := 1) C0 C1 hI iJ4 rfl 371 0 (kdlt13 (rfl : kdI 371 = 13)) (by decide) (shI_13 (rfl : kdI 371 = 13) _) rfl w_327 dJ5_ensureCapacityInternal_d00df_19 ?_
    refine lv_aload_n C0.1 C0.2.1 dJ5_ensureCapacityInternal_d00df_22 rfl (lv_at hl 1 rfl) ?_
    refine lv_iload_n C0.1 C0.2.1 dJ5_ensureCapacityInternal_d00df_23 rfl (lv_at hl 2 rfl) ?_
    obtain ⟨r_5, h_4, hf⟩ := ob_some hf
    refine k_i C1 hI (q_U C0 C1 hI 371 (c_J5_newCapacity_0f7a4_l l g X r b H.size n M T0 x1 h_4) RJ4 w_978 w_1802 w_9002 w_980 w_80 w_981 ⟨rfl, rfl⟩ hd_J5_newCapacity_0f7a4 ⟨Nat.le_of_ble_eq_true rfl, Nat.le_of_ble_eq_true rfl⟩ (kdlt13 (rfl : kdI 371 = 13)) (shI_13 (rfl : kdI 371 = 13) _) rfl rfl rfl hl.1 rfl (Nat.le_of_ble_eq_true rfl) dJ5_ensureCapacityInternal_d00df_24 ⟨Nat.le_of_ble_eq_true rfl, Nat.le_of_ble_eq_true rfl⟩) (fun H locs hI => ?_)
    refine lv_aload_n C0.1 C0.2.1 dJ5_ensureCapacityInternal_d00df_27 rfl (lv_at hl 1 rfl) ?_
    refine r_getA (C := RJ4) (T := TJ4) (N9 := 4) (ci := 1) C0 C1 hI iJ4 rfl 371 1 (kdlt13 (rfl : kdI 371 = 13)) (by decide) (shI_13 (rfl : kdI 371 = 13) _) rfl w_328 dJ5_ensureCapacityInternal_d00df_28 ?_
    refine lv_ishl C0.1 C0.2.1 dJ5_ensureCapacityInternal_d00df_31 ?_
    obtain ⟨h_6, hf⟩ := chk_some hf
    refine g_copyput1 C0 hG hI h_6 hl.1 (Nat.le_of_ble_eq_true rfl) (Nat.le_of_ble_eq_true rfl) (Nat.le_of_ble_eq_true rfl) ⟨Nat.le_of_ble_eq_true rfl, Nat.le_of_ble_eq_true rfl⟩ dJ5_ensureCapacityInternal_d00df_32 dJ5_ensureCapacityInternal_d00df_35 (fun q_7 X_8 H locs hG hI => ?_)
    obtain ⟨T_9, e_10⟩ : ∃ z : Mem, z = gT T0 373 1 (r_5 <<< ((M 371 1) &&& 31)) := ⟨_, rfl⟩
    rw [← e_10] at hG hI
    have C1 := hG.1
    have hf := lt_at e_10 hf
    exact eg_v C0 hG hI hr hlocks hf dJ5_ensureCapacityInternal_d00df_38

def Fg_J6_getChars_ba4f3_t (n : Nat) (T0 : Mem) (x0 : Int32) (x1 : Int32) (M : Mem) : Option (Int32 × Mem × Mem) :=
  (if 0 ≤ x0 then (if (0 : Int32) = 0 then lt' (-x0) (fun x0_19 => (if (-100) < x0_19 then lt' (x1 + (-1)) (fun x5_22 => chk (inb (-x0_19) 100) (chk (inb x5_22 (ix (T0 374 0))) (lt' (bT T0 372 x5_22 (dOnl.getD (ix (-x0_19)) 0)) (fun T_26 => (if (-9) ≤ x0_19 then (if (0 : Int32) = 0 then some (x5_22, T_26, M) else none) else lt' (x5_22 + (-1)) (fun x5_30 => chk (inb (-x0_19) 100) (chk (inb x5_30 (ix (T_26 374 0))) (lt' (bT T_26 372 x5_30 (dTel.getD (ix (-x0_19)) 0)) (fun T_34 => (if (0 : Int32) = 0 then some (x5_30, T_34, M) else none)))))))))) else none)) else (if (-100) < x0 then lt' (x1 + (-1)) (fun x5_4 => chk (inb (-x0) 100) (chk (inb x5_4 (ix (T0 374 0))) (lt' (bT T0 372 x5_4 (dOnl.getD (ix (-x0)) 0)) (fun T_8 => (if (-9) ≤ x0 then (if (0 : Int32) = 0 then some (x5_4, T_8, M) else none) else lt' (x5_4 + (-1)) (fun x5_12 => chk (inb (-x0) 100) (chk (inb x5_12 (ix (T_8 374 0))) (lt' (bT T_8 372 x5_12 (dTel.getD (ix (-x0)) 0)) (fun T_16 => (if (0 : Int32) = 0 then some (x5_12, T_16, M) else none)))))))))) else none)) else (if (1 : Int32) = 0 then lt' (-x0) (fun x0_54 => (if (-100) < x0_54 then lt' (x1 + (-1)) (fun x5_57 => chk (inb (-x0_54) 100) (chk (inb x5_57 (ix (T0 374 0))) (lt' (bT T0 372 x5_57 (dOnl.getD (ix (-x0_54)) 0)) (fun T_61 => (if (-9) ≤ x0_54 then (if (1 : Int32) = 0 then some (x5_57, T_61, M) else none) else lt' (x5_57 + (-1)) (fun x5_65 => chk (inb (-x0_54) 100) (chk (inb x5_65 (ix (T_61 374 0))) (lt' (bT T_61 372 x5_65 (dTel.getD (ix (-x0_54)) 0)) (fun T_69 => (if (1 : Int32) = 0 then some (x5_65, T_69, M) else none)))))))))) else none)) else (if (-100) < x0 then lt' (x1 + (-1)) (fun x5_39 => chk (inb (-x0) 100) (chk (inb x5_39 (ix (T0 374 0))) (lt' (bT T0 372 x5_39 (dOnl.getD (ix (-x0)) 0)) (fun T_43 => (if (-9) ≤ x0 then (if (1 : Int32) = 0 then some (x5_39, T_43, M) else none) else lt' (x5_39 + (-1)) (fun x5_47 => chk (inb (-x0) 100) (chk (inb x5_47 (ix (T_43 374 0))) (lt' (bT T_43 372 x5_47 (dTel.getD (ix (-x0)) 0)) (fun T_51 => (if (1 : Int32) = 0 then some (x5_47, T_51, M) else none)))))))))) else none)))
theorem hd_J6_getChars_ba4f3 : yJ6_getChars_ba4f3.cls ≠ "java/lang/invoke/MethodHandle" ∧ yJ6_getChars_ba4f3.cls ≠ "java/lang/invoke/VarHandle" ∧ (parseMethodDescriptor yJ6_getChars_ba4f3.desc).map (fun d => d.parameters.length) = some 3 := ⟨by decide +kernel, by decide +kernel, by decide +kernel⟩
set_option maxHeartbeats 4000000 in
set_option maxRecDepth 100000 in
theorem cg_J6_getChars_ba4f3_t (l : Launch) (g : GG) (X : va_W) (r b : Nat → Nat) (sz n : Nat) (M : Mem) (T0 : Mem) (x0 : Int32) (x1 : Int32) {r0 : Int32} {T' M' : Mem} (hf : Fg_J6_getChars_ba4f3_t n T0 x0 x1 M = some (r0, T', M')) : Met l yJ6_getChars_ba4f3 (.code yJ6_getChars_ba4f3 cJ6_getChars_ba4f3 7 (some .int) :: LWg) (rmD 0 0 0) (va_Pc [.int x0, .int x1, .ref (r 370)] (PreP g (xb g r T0 ++ X) 372 (shI g r b) b sz M)) (QgI g X (AA (xb g r T0 ++ X) b 372 sz) b sz r0 T' M') 0 0 (AA (xb g r T0 ++ X) b 372 sz) := by
  refine met_go (by decide +kernel) rfl (Nat.le_of_ble_eq_true rfl) ?_
  intro p e s m below meth c ls H locs C0 C1 hr hlocks hnm hsz hl hI
  subst hsz
  have hG := GX.go C1
  have hl : lv_has ls 7 [(0, .int x0), (1, .int x1), (2, .ref (r 370))] := hl
  unfold Fg_J6_getChars_ba4f3_t at hf
  refine lv_iload_n C0.1 C0.2.1 dJ6_getChars_ba4f3_0 rfl (lv_at hl 1 rfl) ?_
  refine lv_istore (lv' := [(5, .int x1), (0, .int x0), (1, .int x1), (2, .ref (r 370))]) C0.1 C0.2.1 dJ6_getChars_ba4f3_1 hl (by decide) rfl (fun ls hl => ?_)
  refine lv_iload_n C0.1 C0.2.1 dJ6_getChars_ba4f3_3 rfl (lv_at hl 1 rfl) ?_
  refine lv_if_ge (tgt := 11) C0.1 C0.2.1 dJ6_getChars_ba4f3_4 (by decide) (fun c_1 => ?_) (fun c_1 => ?_)
  · have hf := (if_pos c_1).symm.trans hf
    refine lv_iconst (v := 0) C0.1 C0.2.1 dJ6_getChars_ba4f3_11 (by decide) ?_
    refine lv_istore (lv' := [(6, .int 0), (5, .int x1), (0, .int x0), (1, .int x1), (2, .ref (r 370))]) C0.1 C0.2.1 dJ6_getChars_ba4f3_12 hl (by decide) rfl (fun ls hl => ?_)
    refine lv_iload C0.1 C0.2.1 dJ6_getChars_ba4f3_14 (lv_at hl 0 rfl) ?_
    refine lv_if_ne (tgt := 22) C0.1 C0.2.1 dJ6_getChars_ba4f3_16 (by decide) (fun c_2 => ?_) (fun c_2 => ?_)
    · have hf := (if_neg c_2).symm.trans hf
      refine lv_iload_n C0.1 C0.2.1 dJ6_getChars_ba4f3_22 rfl (lv_at hl 2 rfl) ?_
      refine lv_bipush (v := (-100)) C0.1 C0.2.1 dJ6_getChars_ba4f3_23 (by decide) ?_
      refine lv_icmp_gt (tgt := 72) C0.1 C0.2.1 dJ6_getChars_ba4f3_25 (by decide) (fun c_3 => ?_) (fun c_3 => ?_)
      · have hf := (if_pos c_3).symm.trans hf
        refine lv_aload_n C0.1 C0.2.1 dJ6_getChars_ba4f3_72 rfl (lv_at hl 4 rfl) ?_
        obtain ⟨x5_4, e_5⟩ : ∃ z : Int32, z = x1 + (-1) := ⟨_, rfl⟩
        have hf := lt_at e_5 hf
        refine lv_iinc (v := x5_4) (lv' := [(5, .int x5_4), (6, .int 0), (0, .int x0), (1, .int x1), (2, .ref (r 370))]) C0.1 C0.2.1 dJ6_getChars_ba4f3_73 hl (k := 1) rfl (by rw [e_5]; rfl) (by decide) rfl (fun ls hl => ?_)
        refine lv_iload C0.1 C0.2.1 dJ6_getChars_ba4f3_76 (lv_at hl 0 rfl) ?_
        refine r_sd3 C0 C1 hI w_1210 dJ6_getChars_ba4f3_78 ?_
        refine lv_iload_n C0.1 C0.2.1 dJ6_getChars_ba4f3_81 rfl (lv_at hl 2 rfl) ?_
        refine lv_ineg C0.1 C0.2.1 dJ6_getChars_ba4f3_82 ?_
        obtain ⟨h_6, hf⟩ := chk_some hf
        refine r_sdld3 C0 C1 hI h_6 dJ6_getChars_ba4f3_83 ?_
        obtain ⟨h_7, hf⟩ := chk_some hf
        refine g_bast0 C0 hG hI h_7 dJ6_getChars_ba4f3_84 (fun H locs hG hI => ?_)
        obtain ⟨T_8, e_9⟩ : ∃ z : Mem, z = bT T0 372 x5_4 (dOnl.getD (ix (-x0)) 0) := ⟨_, rfl⟩
        rw [← e_9] at hG hI
        have C1 := hG.1
        have hf := lt_at e_9 hf
        refine lv_iload_n C0.1 C0.2.1 dJ6_getChars_ba4f3_85 rfl (lv_at hl 2 rfl) ?_
        refine lv_bipush (v := (-9)) C0.1 C0.2.1 dJ6_getChars_ba4f3_86 (by decide) ?_
        refine lv_icmp_ge (tgt := 104) C0.1 C0.2.1 dJ6_getChars_ba4f3_88 (by decide) (fun c_10 => ?_) (fun c_10 => ?_)
        · have hf := (if_pos c_10).symm.trans hf
          refine lv_iload C0.1 C0.2.1 dJ6_getChars_ba4f3_104 (lv_at hl 1 rfl) ?_
          refine lv_if_eq (tgt := 118) C0.1 C0.2.1 dJ6_getChars_ba4f3_106 (by decide) (fun c_11 => ?_) (fun c_11 => ?_)
          · have hf := (if_pos c_11).symm.trans hf
            refine lv_iload C0.1 C0.2.1 dJ6_getChars_ba4f3_118 (lv_at hl 0 rfl) ?_
            exact eg_i C0 hG hI hr hlocks hf dJ6_getChars_ba4f3_120
          · have hf := (if_neg c_11).symm.trans hf
            exact nomatch hf
        · have hf := (if_neg c_10).symm.trans hf
          refine lv_aload_n C0.1 C0.2.1 dJ6_getChars_ba4f3_91 rfl (lv_at hl 4 rfl) ?_
          obtain ⟨x5_12, e_13⟩ : ∃ z : Int32, z = x5_4 + (-1) := ⟨_, rfl⟩
          have hf := lt_at e_13 hf
          refine lv_iinc (v := x5_12) (lv' := [(5, .int x5_12), (6, .int 0), (0, .int x0), (1, .int x1), (2, .ref (r 370))]) C0.1 C0.2.1 dJ6_getChars_ba4f3_92 hl (k := 0) rfl (by rw [e_13]; rfl) (by decide) rfl (fun ls hl => ?_)
          refine lv_iload C0.1 C0.2.1 dJ6_getChars_ba4f3_95 (lv_at hl 0 rfl) ?_
          refine r_sd4 C0 C1 hI w_1212 dJ6_getChars_ba4f3_97 ?_
          refine lv_iload_n C0.1 C0.2.1 dJ6_getChars_ba4f3_100 rfl (lv_at hl 2 rfl) ?_
          refine lv_ineg C0.1 C0.2.1 dJ6_getChars_ba4f3_101 ?_
          obtain ⟨h_14, hf⟩ := chk_some hf
          refine r_sdld4 C0 C1 hI h_14 dJ6_getChars_ba4f3_102 ?_
          obtain ⟨h_15, hf⟩ := chk_some hf
          refine g_bast0 C0 hG hI h_15 dJ6_getChars_ba4f3_103 (fun H locs hG hI => ?_)
          obtain ⟨T_16, e_17⟩ : ∃ z : Mem, z = bT T_8 372 x5_12 (dTel.getD (ix (-x0)) 0) := ⟨_, rfl⟩
          rw [← e_17] at hG hI
          have C1 := hG.1
          have hf := lt_at e_17 hf
          refine lv_iload C0.1 C0.2.1 dJ6_getChars_ba4f3_104 (lv_at hl 1 rfl) ?_
          refine lv_if_eq (tgt := 118) C0.1 C0.2.1 dJ6_getChars_ba4f3_106 (by decide) (fun c_18 => ?_) (fun c_18 => ?_)
          · have hf := (if_pos c_18).symm.trans hf
            refine lv_iload C0.1 C0.2.1 dJ6_getChars_ba4f3_118 (lv_at hl 0 rfl) ?_
            exact eg_i C0 hG hI hr hlocks hf dJ6_getChars_ba4f3_120
          · have hf := (if_neg c_18).symm.trans hf
            exact nomatch hf
      · have hf := (if_neg c_3).symm.trans hf
        exact nomatch hf
    · have hf := (if_pos c_2).symm.trans hf
      refine lv_iload_n C0.1 C0.2.1 dJ6_getChars_ba4f3_19 rfl (lv_at hl 2 rfl) ?_
      refine lv_ineg C0.1 C0.2.1 dJ6_getChars_ba4f3_20 ?_
      refine lv_topi (fun x0_19 e_20 => ?_)
      have hf := lt_at e_20 hf
      refine lv_istore_n (lv' := [(0, .int x0_19), (6, .int 0), (5, .int x1), (1, .int x1), (2, .ref (r 370))]) C0.1 C0.2.1 dJ6_getChars_ba4f3_21 rfl hl (by decide) rfl (fun ls hl => ?_)
      refine lv_iload_n C0.1 C0.2.1 dJ6_getChars_ba4f3_22 rfl (lv_at hl 0 rfl) ?_
      refine lv_bipush (v := (-100)) C0.1 C0.2.1 dJ6_getChars_ba4f3_23 (by decide) ?_
      refine lv_icmp_gt (tgt := 72) C0.1 C0.2.1 dJ6_getChars_ba4f3_25 (by decide) (fun c_21 => ?_) (fun c_21 => ?_)
      · have hf := (if_pos c_21).symm.trans hf
        refine lv_aload_n C0.1 C0.2.1 dJ6_getChars_ba4f3_72 rfl (lv_at hl 4 rfl) ?_
        obtain ⟨x5_22, e_23⟩ : ∃ z : Int32, z = x1 + (-1) := ⟨_, rfl⟩
        have hf := lt_at e_23 hf
        refine lv_iinc (v := x5_22) (lv' := [(5, .int x5_22), (0, .int x0_19), (6, .int 0), (1, .int x1), (2, .ref (r 370))]) C0.1 C0.2.1 dJ6_getChars_ba4f3_73 hl (k := 2) rfl (by rw [e_23]; rfl) (by decide) rfl (fun ls hl => ?_)
        refine lv_iload C0.1 C0.2.1 dJ6_getChars_ba4f3_76 (lv_at hl 0 rfl) ?_
        refine r_sd3 C0 C1 hI w_1210 dJ6_getChars_ba4f3_78 ?_
        refine lv_iload_n C0.1 C0.2.1 dJ6_getChars_ba4f3_81 rfl (lv_at hl 1 rfl) ?_
        refine lv_ineg C0.1 C0.2.1 dJ6_getChars_ba4f3_82 ?_
        obtain ⟨h_24, hf⟩ := chk_some hf
        refine r_sdld3 C0 C1 hI h_24 dJ6_getChars_ba4f3_83 ?_
        obtain ⟨h_25, hf⟩ := chk_some hf
        refine g_bast0 C0 hG hI h_25 dJ6_getChars_ba4f3_84 (fun H locs hG hI => ?_)
        obtain ⟨T_26, e_27⟩ : ∃ z : Mem, z = bT T0 372 x5_22 (dOnl.getD (ix (-x0_19)) 0) := ⟨_, rfl⟩
        rw [← e_27] at hG hI
        have C1 := hG.1
        have hf := lt_at e_27 hf
        refine lv_iload_n C0.1 C0.2.1 dJ6_getChars_ba4f3_85 rfl (lv_at hl 1 rfl) ?_
        refine lv_bipush (v := (-9)) C0.1 C0.2.1 dJ6_getChars_ba4f3_86 (by decide) ?_
        refine lv_icmp_ge (tgt := 104) C0.1 C0.2.1 dJ6_getChars_ba4f3_88 (by decide) (fun c_28 => ?_) (fun c_28 => ?_)
        · have hf := (if_pos c_28).symm.trans hf
          refine lv_iload C0.1 C0.2.1 dJ6_getChars_ba4f3_104 (lv_at hl 2 rfl) ?_
          refine lv_if_eq (tgt := 118) C0.1 C0.2.1 dJ6_getChars_ba4f3_106 (by decide) (fun c_29 => ?_) (fun c_29 => ?_)
          · have hf := (if_pos c_29).symm.trans hf
            refine lv_iload C0.1 C0.2.1 dJ6_getChars_ba4f3_118 (lv_at hl 0 rfl) ?_
            exact eg_i C0 hG hI hr hlocks hf dJ6_getChars_ba4f3_120
          · have hf := (if_neg c_29).symm.trans hf
            exact nomatch hf
        · have hf := (if_neg c_28).symm.trans hf
          refine lv_aload_n C0.1 C0.2.1 dJ6_getChars_ba4f3_91 rfl (lv_at hl 4 rfl) ?_
          obtain ⟨x5_30, e_31⟩ : ∃ z : Int32, z = x5_22 + (-1) := ⟨_, rfl⟩
          have hf := lt_at e_31 hf
          refine lv_iinc (v := x5_30) (lv' := [(5, .int x5_30), (0, .int x0_19), (6, .int 0), (1, .int x1), (2, .ref (r 370))]) C0.1 C0.2.1 dJ6_getChars_ba4f3_92 hl (k := 0) rfl (by rw [e_31]; rfl) (by decide) rfl (fun ls hl => ?_)
          refine lv_iload C0.1 C0.2.1 dJ6_getChars_ba4f3_95 (lv_at hl 0 rfl) ?_
          refine r_sd4 C0 C1 hI w_1212 dJ6_getChars_ba4f3_97 ?_
          refine lv_iload_n C0.1 C0.2.1 dJ6_getChars_ba4f3_100 rfl (lv_at hl 1 rfl) ?_
          refine lv_ineg C0.1 C0.2.1 dJ6_getChars_ba4f3_101 ?_
          obtain ⟨h_32, hf⟩ := chk_some hf
          refine r_sdld4 C0 C1 hI h_32 dJ6_getChars_ba4f3_102 ?_
          obtain ⟨h_33, hf⟩ := chk_some hf
          refine g_bast0 C0 hG hI h_33 dJ6_getChars_ba4f3_103 (fun H locs hG hI => ?_)
          obtain ⟨T_34, e_35⟩ : ∃ z : Mem, z = bT T_26 372 x5_30 (dTel.getD (ix (-x0_19)) 0) := ⟨_, rfl⟩
          rw [← e_35] at hG hI
          have C1 := hG.1
          have hf := lt_at e_35 hf
          refine lv_iload C0.1 C0.2.1 dJ6_getChars_ba4f3_104 (lv_at hl 2 rfl) ?_
          refine lv_if_eq (tgt := 118) C0.1 C0.2.1 dJ6_getChars_ba4f3_106 (by decide) (fun c_36 => ?_) (fun c_36 => ?_)
          · have hf := (if_pos c_36).symm.trans hf
            refine lv_iload C0.1 C0.2.1 dJ6_getChars_ba4f3_118 (lv_at hl 0 rfl) ?_
            exact eg_i C0 hG hI hr hlocks hf dJ6_getChars_ba4f3_120
          · have hf := (if_neg c_36).symm.trans hf
            exact nomatch hf
      · have hf := (if_neg c_21).symm.trans hf
        exact nomatch hf
  · have hf := (if_neg c_1).symm.trans hf
    refine lv_iconst (v := 1) C0.1 C0.2.1 dJ6_getChars_ba4f3_7 (by decide) ?_
    refine lv_goto (tgt := 12) C0.1 C0.2.1 dJ6_getChars_ba4f3_8 (by decide) ?_
    refine lv_istore (lv' := [(6, .int 1), (5, .int x1), (0, .int x0), (1, .int x1), (2, .ref (r 370))]) C0.1 C0.2.1 dJ6_getChars_ba4f3_12 hl (by decide) rfl (fun ls hl => ?_)
    refine lv_iload C0.1 C0.2.1 dJ6_getChars_ba4f3_14 (lv_at hl 0 rfl) ?_
    refine lv_if_ne (tgt := 22) C0.1 C0.2.1 dJ6_getChars_ba4f3_16 (by decide) (fun c_37 => ?_) (fun c_37 => ?_)
    · have hf := (if_neg c_37).symm.trans hf
      refine lv_iload_n C0.1 C0.2.1 dJ6_getChars_ba4f3_22 rfl (lv_at hl 2 rfl) ?_
      refine lv_bipush (v := (-100)) C0.1 C0.2.1 dJ6_getChars_ba4f3_23 (by decide) ?_
      refine lv_icmp_gt (tgt := 72) C0.1 C0.2.1 dJ6_getChars_ba4f3_25 (by decide) (fun c_38 => ?_) (fun c_38 => ?_)
      · have hf := (if_pos c_38).symm.trans hf
        refine lv_aload_n C0.1 C0.2.1 dJ6_getChars_ba4f3_72 rfl (lv_at hl 4 rfl) ?_
        obtain ⟨x5_39, e_40⟩ : ∃ z : Int32, z = x1 + (-1) := ⟨_, rfl⟩
        have hf := lt_at e_40 hf
        refine lv_iinc (v := x5_39) (lv' := [(5, .int x5_39), (6, .int 1), (0, .int x0), (1, .int x1), (2, .ref (r 370))]) C0.1 C0.2.1 dJ6_getChars_ba4f3_73 hl (k := 1) rfl (by rw [e_40]; rfl) (by decide) rfl (fun ls hl => ?_)
        refine lv_iload C0.1 C0.2.1 dJ6_getChars_ba4f3_76 (lv_at hl 0 rfl) ?_
        refine r_sd3 C0 C1 hI w_1210 dJ6_getChars_ba4f3_78 ?_
        refine lv_iload_n C0.1 C0.2.1 dJ6_getChars_ba4f3_81 rfl (lv_at hl 2 rfl) ?_
        refine lv_ineg C0.1 C0.2.1 dJ6_getChars_ba4f3_82 ?_
        obtain ⟨h_41, hf⟩ := chk_some hf
        refine r_sdld3 C0 C1 hI h_41 dJ6_getChars_ba4f3_83 ?_
        obtain ⟨h_42, hf⟩ := chk_some hf
        refine g_bast0 C0 hG hI h_42 dJ6_getChars_ba4f3_84 (fun H locs hG hI => ?_)
        obtain ⟨T_43, e_44⟩ : ∃ z : Mem, z = bT T0 372 x5_39 (dOnl.getD (ix (-x0)) 0) := ⟨_, rfl⟩
        rw [← e_44] at hG hI
        have C1 := hG.1
        have hf := lt_at e_44 hf
        refine lv_iload_n C0.1 C0.2.1 dJ6_getChars_ba4f3_85 rfl (lv_at hl 2 rfl) ?_
        refine lv_bipush (v := (-9)) C0.1 C0.2.1 dJ6_getChars_ba4f3_86 (by decide) ?_
        refine lv_icmp_ge (tgt := 104) C0.1 C0.2.1 dJ6_getChars_ba4f3_88 (by decide) (fun c_45 => ?_) (fun c_45 => ?_)
        · have hf := (if_pos c_45).symm.trans hf
          refine lv_iload C0.1 C0.2.1 dJ6_getChars_ba4f3_104 (lv_at hl 1 rfl) ?_
          refine lv_if_eq (tgt := 118) C0.1 C0.2.1 dJ6_getChars_ba4f3_106 (by decide) (fun c_46 => ?_) (fun c_46 => ?_)
          · have hf := (if_pos c_46).symm.trans hf
            refine lv_iload C0.1 C0.2.1 dJ6_getChars_ba4f3_118 (lv_at hl 0 rfl) ?_
            exact eg_i C0 hG hI hr hlocks hf dJ6_getChars_ba4f3_120
          · have hf := (if_neg c_46).symm.trans hf
            exact nomatch hf
        · have hf := (if_neg c_45).symm.trans hf
          refine lv_aload_n C0.1 C0.2.1 dJ6_getChars_ba4f3_91 rfl (lv_at hl 4 rfl) ?_
          obtain ⟨x5_47, e_48⟩ : ∃ z : Int32, z = x5_39 + (-1) := ⟨_, rfl⟩
          have hf := lt_at e_48 hf
          refine lv_iinc (v := x5_47) (lv' := [(5, .int x5_47), (6, .int 1), (0, .int x0), (1, .int x1), (2, .ref (r 370))]) C0.1 C0.2.1 dJ6_getChars_ba4f3_92 hl (k := 0) rfl (by rw [e_48]; rfl) (by decide) rfl (fun ls hl => ?_)
          refine lv_iload C0.1 C0.2.1 dJ6_getChars_ba4f3_95 (lv_at hl 0 rfl) ?_
          refine r_sd4 C0 C1 hI w_1212 dJ6_getChars_ba4f3_97 ?_
          refine lv_iload_n C0.1 C0.2.1 dJ6_getChars_ba4f3_100 rfl (lv_at hl 2 rfl) ?_
          refine lv_ineg C0.1 C0.2.1 dJ6_getChars_ba4f3_101 ?_
          obtain ⟨h_49, hf⟩ := chk_some hf
          refine r_sdld4 C0 C1 hI h_49 dJ6_getChars_ba4f3_102 ?_
          obtain ⟨h_50, hf⟩ := chk_some hf
          refine g_bast0 C0 hG hI h_50 dJ6_getChars_ba4f3_103 (fun H locs hG hI => ?_)
          obtain ⟨T_51, e_52⟩ : ∃ z : Mem, z = bT T_43 372 x5_47 (dTel.getD (ix (-x0)) 0) := ⟨_, rfl⟩
          rw [← e_52] at hG hI
          have C1 := hG.1
          have hf := lt_at e_52 hf
          refine lv_iload C0.1 C0.2.1 dJ6_getChars_ba4f3_104 (lv_at hl 1 rfl) ?_
          refine lv_if_eq (tgt := 118) C0.1 C0.2.1 dJ6_getChars_ba4f3_106 (by decide) (fun c_53 => ?_) (fun c_53 => ?_)
          · have hf := (if_pos c_53).symm.trans hf
            refine lv_iload C0.1 C0.2.1 dJ6_getChars_ba4f3_118 (lv_at hl 0 rfl) ?_
            exact eg_i C0 hG hI hr hlocks hf dJ6_getChars_ba4f3_120
          · have hf := (if_neg c_53).symm.trans hf
            exact nomatch hf
      · have hf := (if_neg c_38).symm.trans hf
        exact nomatch hf
    · have hf := (if_pos c_37).symm.trans hf
      refine lv_iload_n C0.1 C0.2.1 dJ6_getChars_ba4f3_19 rfl (lv_at hl 2 rfl) ?_
      refine lv_ineg C0.1 C0.2.1 dJ6_getChars_ba4f3_20 ?_
      refine lv_topi (fun x0_54 e_55 => ?_)
      have hf := lt_at e_55 hf
      refine lv_istore_n (lv' := [(0, .int x0_54), (6, .int 1), (5, .int x1), (1, .int x1), (2, .ref (r 370))]) C0.1 C0.2.1 dJ6_getChars_ba4f3_21 rfl hl (by decide) rfl (fun ls hl => ?_)
      refine lv_iload_n C0.1 C0.2.1 dJ6_getChars_ba4f3_22 rfl (lv_at hl 0 rfl) ?_
      refine lv_bipush (v := (-100)) C0.1 C0.2.1 dJ6_getChars_ba4f3_23 (by decide) ?_
      refine lv_icmp_gt (tgt := 72) C0.1 C0.2.1 dJ6_getChars_ba4f3_25 (by decide) (fun c_56 => ?_) (fun c_56 => ?_)
      · have hf := (if_pos c_56).symm.trans hf
        refine lv_aload_n C0.1 C0.2.1 dJ6_getChars_ba4f3_72 rfl (lv_at hl 4 rfl) ?_
        obtain ⟨x5_57, e_58⟩ : ∃ z : Int32, z = x1 + (-1) := ⟨_, rfl⟩
        have hf := lt_at e_58 hf
        refine lv_iinc (v := x5_57) (lv' := [(5, .int x5_57), (0, .int x0_54), (6, .int 1), (1, .int x1), (2, .ref (r 370))]) C0.1 C0.2.1 dJ6_getChars_ba4f3_73 hl (k := 2) rfl (by rw [e_58]; rfl) (by decide) rfl (fun ls hl => ?_)
        refine lv_iload C0.1 C0.2.1 dJ6_getChars_ba4f3_76 (lv_at hl 0 rfl) ?_
        refine r_sd3 C0 C1 hI w_1210 dJ6_getChars_ba4f3_78 ?_
        refine lv_iload_n C0.1 C0.2.1 dJ6_getChars_ba4f3_81 rfl (lv_at hl 1 rfl) ?_
        refine lv_ineg C0.1 C0.2.1 dJ6_getChars_ba4f3_82 ?_
        obtain ⟨h_59, hf⟩ := chk_some hf
        refine r_sdld3 C0 C1 hI h_59 dJ6_getChars_ba4f3_83 ?_
        obtain ⟨h_60, hf⟩ := chk_some hf
        refine g_bast0 C0 hG hI h_60 dJ6_getChars_ba4f3_84 (fun H locs hG hI => ?_)
        obtain ⟨T_61, e_62⟩ : ∃ z : Mem, z = bT T0 372 x5_57 (dOnl.getD (ix (-x0_54)) 0) := ⟨_, rfl⟩
        rw [← e_62] at hG hI
        have C1 := hG.1
        have hf := lt_at e_62 hf
        refine lv_iload_n C0.1 C0.2.1 dJ6_getChars_ba4f3_85 rfl (lv_at hl 1 rfl) ?_
        refine lv_bipush (v := (-9)) C0.1 C0.2.1 dJ6_getChars_ba4f3_86 (by decide) ?_
        refine lv_icmp_ge (tgt := 104) C0.1 C0.2.1 dJ6_getChars_ba4f3_88 (by decide) (fun c_63 => ?_) (fun c_63 => ?_)
        · have hf := (if_pos c_63).symm.trans hf
          refine lv_iload C0.1 C0.2.1 dJ6_getChars_ba4f3_104 (lv_at hl 2 rfl) ?_
          refine lv_if_eq (tgt := 118) C0.1 C0.2.1 dJ6_getChars_ba4f3_106 (by decide) (fun c_64 => ?_) (fun c_64 => ?_)
          · have hf := (if_pos c_64).symm.trans hf
            refine lv_iload C0.1 C0.2.1 dJ6_getChars_ba4f3_118 (lv_at hl 0 rfl) ?_
            exact eg_i C0 hG hI hr hlocks hf dJ6_getChars_ba4f3_120
          · have hf := (if_neg c_64).symm.trans hf
            exact nomatch hf
        · have hf := (if_neg c_63).symm.trans hf
          refine lv_aload_n C0.1 C0.2.1 dJ6_getChars_ba4f3_91 rfl (lv_at hl 4 rfl) ?_
          obtain ⟨x5_65, e_66⟩ : ∃ z : Int32, z = x5_57 + (-1) := ⟨_, rfl⟩
          have hf := lt_at e_66 hf
          refine lv_iinc (v := x5_65) (lv' := [(5, .int x5_65), (0, .int x0_54), (6, .int 1), (1, .int x1), (2, .ref (r 370))]) C0.1 C0.2.1 dJ6_getChars_ba4f3_92 hl (k := 0) rfl (by rw [e_66]; rfl) (by decide) rfl (fun ls hl => ?_)
          refine lv_iload C0.1 C0.2.1 dJ6_getChars_ba4f3_95 (lv_at hl 0 rfl) ?_
          refine r_sd4 C0 C1 hI w_1212 dJ6_getChars_ba4f3_97 ?_
          refine lv_iload_n C0.1 C0.2.1 dJ6_getChars_ba4f3_100 rfl (lv_at hl 1 rfl) ?_
          refine lv_ineg C0.1 C0.2.1 dJ6_getChars_ba4f3_101 ?_
          obtain ⟨h_67, hf⟩ := chk_some hf
          refine r_sdld4 C0 C1 hI h_67 dJ6_getChars_ba4f3_102 ?_
          obtain ⟨h_68, hf⟩ := chk_some hf
          refine g_bast0 C0 hG hI h_68 dJ6_getChars_ba4f3_103 (fun H locs hG hI => ?_)
          obtain ⟨T_69, e_70⟩ : ∃ z : Mem, z = bT T_61 372 x5_65 (dTel.getD (ix (-x0_54)) 0) := ⟨_, rfl⟩
          rw [← e_70] at hG hI
          have C1 := hG.1
          have hf := lt_at e_70 hf
          refine lv_iload C0.1 C0.2.1 dJ6_getChars_ba4f3_104 (lv_at hl 2 rfl) ?_
          refine lv_if_eq (tgt := 118) C0.1 C0.2.1 dJ6_getChars_ba4f3_106 (by decide) (fun c_71 => ?_) (fun c_71 => ?_)
          · have hf := (if_pos c_71).symm.trans hf
            refine lv_iload C0.1 C0.2.1 dJ6_getChars_ba4f3_118 (lv_at hl 0 rfl) ?_
            exact eg_i C0 hG hI hr hlocks hf dJ6_getChars_ba4f3_120
          · have hf := (if_neg c_71).symm.trans hf
            exact nomatch hf
      · have hf := (if_neg c_56).symm.trans hf
        exact nomatch hf

def Fg_J6_getChars_ba4f3_l (n : Nat) (T0 : Mem) (x0 : Int32) (x1 : Int32) (M : Mem) : Option (Int32 × Mem × Mem) :=
  (if 0 ≤ x0 then (if (0 : Int32) = 0 then lt' (-x0) (fun x0_19 => (if (-100) < x0_19 then lt' (x1 + (-1)) (fun x5_22 => chk (inb (-x0_19) 100) (chk (inb x5_22 (ix (T0 374 1))) (lt' (bT T0 373 x5_22 (dOnl.getD (ix (-x0_19)) 0)) (fun T_26 => (if (-9) ≤ x0_19 then (if (0 : Int32) = 0 then some (x5_22, T_26, M) else none) else lt' (x5_22 + (-1)) (fun x5_30 => chk (inb (-x0_19) 100) (chk (inb x5_30 (ix (T_26 374 1))) (lt' (bT T_26 373 x5_30 (dTel.getD (ix (-x0_19)) 0)) (fun T_34 => (if (0 : Int32) = 0 then some (x5_30, T_34, M) else none)))))))))) else none)) else (if (-100) < x0 then lt' (x1 + (-1)) (fun x5_4 => chk (inb (-x0) 100) (chk (inb x5_4 (ix (T0 374 1))) (lt' (bT T0 373 x5_4 (dOnl.getD (ix (-x0)) 0)) (fun T_8 => (if (-9) ≤ x0 then (if (0 : Int32) = 0 then some (x5_4, T_8, M) else none) else lt' (x5_4 + (-1)) (fun x5_12 => chk (inb (-x0) 100) (chk (inb x5_12 (ix (T_8 374 1))) (lt' (bT T_8 373 x5_12 (dTel.getD (ix (-x0)) 0)) (fun T_16 => (if (0 : Int32) = 0 then some (x5_12, T_16, M) else none)))))))))) else none)) else (if (1 : Int32) = 0 then lt' (-x0) (fun x0_54 => (if (-100) < x0_54 then lt' (x1 + (-1)) (fun x5_57 => chk (inb (-x0_54) 100) (chk (inb x5_57 (ix (T0 374 1))) (lt' (bT T0 373 x5_57 (dOnl.getD (ix (-x0_54)) 0)) (fun T_61 => (if (-9) ≤ x0_54 then (if (1 : Int32) = 0 then some (x5_57, T_61, M) else none) else lt' (x5_57 + (-1)) (fun x5_65 => chk (inb (-x0_54) 100) (chk (inb x5_65 (ix (T_61 374 1))) (lt' (bT T_61 373 x5_65 (dTel.getD (ix (-x0_54)) 0)) (fun T_69 => (if (1 : Int32) = 0 then some (x5_65, T_69, M) else none)))))))))) else none)) else (if (-100) < x0 then lt' (x1 + (-1)) (fun x5_39 => chk (inb (-x0) 100) (chk (inb x5_39 (ix (T0 374 1))) (lt' (bT T0 373 x5_39 (dOnl.getD (ix (-x0)) 0)) (fun T_43 => (if (-9) ≤ x0 then (if (1 : Int32) = 0 then some (x5_39, T_43, M) else none) else lt' (x5_39 + (-1)) (fun x5_47 => chk (inb (-x0) 100) (chk (inb x5_47 (ix (T_43 374 1))) (lt' (bT T_43 373 x5_47 (dTel.getD (ix (-x0)) 0)) (fun T_51 => (if (1 : Int32) = 0 then some (x5_47, T_51, M) else none)))))))))) else none)))
set_option maxHeartbeats 4000000 in
set_option maxRecDepth 100000 in
theorem cg_J6_getChars_ba4f3_l (l : Launch) (g : GG) (X : va_W) (r b : Nat → Nat) (sz n : Nat) (M : Mem) (T0 : Mem) (x0 : Int32) (x1 : Int32) {r0 : Int32} {T' M' : Mem} (hf : Fg_J6_getChars_ba4f3_l n T0 x0 x1 M = some (r0, T', M')) : Met l yJ6_getChars_ba4f3 (.code yJ6_getChars_ba4f3 cJ6_getChars_ba4f3 7 (some .int) :: LWg) (rmD 0 0 0) (va_Pc [.int x0, .int x1, .ref (r 371)] (PreP g (xb g r T0 ++ X) 372 (shI g r b) b sz M)) (QgI g X (AA (xb g r T0 ++ X) b 372 sz) b sz r0 T' M') 0 0 (AA (xb g r T0 ++ X) b 372 sz) := by
  refine met_go (by decide +kernel) rfl (Nat.le_of_ble_eq_true rfl) ?_
  intro p e s m below meth c ls H locs C0 C1 hr hlocks hnm hsz hl hI
  subst hsz
  have hG := GX.go C1
  have hl : lv_has ls 7 [(0, .int x0), (1, .int x1), (2, .ref (r 371))] := hl
  unfold Fg_J6_getChars_ba4f3_l at hf
  refine lv_iload_n C0.1 C0.2.1 dJ6_getChars_ba4f3_0 rfl (lv_at hl 1 rfl) ?_
  refine lv_istore (lv' := [(5, .int x1), (0, .int x0), (1, .int x1), (2, .ref (r 371))]) C0.1 C0.2.1 dJ6_getChars_ba4f3_1 hl (by decide) rfl (fun ls hl => ?_)
  refine lv_iload_n C0.1 C0.2.1 dJ6_getChars_ba4f3_3 rfl (lv_at hl 1 rfl) ?_
  refine lv_if_ge (tgt := 11) C0.1 C0.2.1 dJ6_getChars_ba4f3_4 (by decide) (fun c_1 => ?_) (fun c_1 => ?_)
  · have hf := (if_pos c_1).symm.trans hf
    refine lv_iconst (v := 0) C0.1 C0.2.1 dJ6_getChars_ba4f3_11 (by decide) ?_
    refine lv_istore (lv' := [(6, .int 0), (5, .int x1), (0, .int x0), (1, .int x1), (2, .ref (r 371))]) C0.1 C0.2.1 dJ6_getChars_ba4f3_12 hl (by decide) rfl (fun ls hl => ?_)
    refine lv_iload C0.1 C0.2.1 dJ6_getChars_ba4f3_14 (lv_at hl 0 rfl) ?_
    refine lv_if_ne (tgt := 22) C0.1 C0.2.1 dJ6_getChars_ba4f3_16 (by decide) (fun c_2 => ?_) (fun c_2 => ?_)
    · have hf := (if_neg c_2).symm.trans hf
      refine lv_iload_n C0.1 C0.2.1 dJ6_getChars_ba4f3_22 rfl (lv_at hl 2 rfl) ?_
      refine lv_bipush (v := (-100)) C0.1 C0.2.1 dJ6_getChars_ba4f3_23 (by decide) ?_
      refine lv_icmp_gt (tgt := 72) C0.1 C0.2.1 dJ6_getChars_ba4f3_25 (by decide) (fun c_3 => ?_) (fun c_3 => ?_)
      · have hf := (if_pos c_3).symm.trans hf
        refine lv_aload_n C0.1 C0.2.1 dJ6_getChars_ba4f3_72 rfl (lv_at hl 4 rfl) ?_
        obtain ⟨x5_4, e_5⟩ : ∃ z : Int32, z = x1 + (-1) := ⟨_, rfl⟩
        have hf := lt_at e_5 hf
        refine lv_iinc (v := x5_4) (lv' := [(5, .int x5_4), (6, .int 0), (0, .int x0), (1, .int x1), (2, .ref (r 371))]) C0.1 C0.2.1 dJ6_getChars_ba4f3_73 hl (k := 1) rfl (by rw [e_5]; rfl) (by decide) rfl (fun ls hl => ?_)
        refine lv_iload C0.1 C0.2.1 dJ6_getChars_ba4f3_76 (lv_at hl 0 rfl) ?_
        refine r_sd3 C0 C1 hI w_1210 dJ6_getChars_ba4f3_78 ?_
        refine lv_iload_n C0.1 C0.2.1 dJ6_getChars_ba4f3_81 rfl (lv_at hl 2 rfl) ?_
        refine lv_ineg C0.1 C0.2.1 dJ6_getChars_ba4f3_82 ?_
        obtain ⟨h_6, hf⟩ := chk_some hf
        refine r_sdld3 C0 C1 hI h_6 dJ6_getChars_ba4f3_83 ?_
        obtain ⟨h_7, hf⟩ := chk_some hf
        refine g_bast1 C0 hG hI h_7 dJ6_getChars_ba4f3_84 (fun H locs hG hI => ?_)
        obtain ⟨T_8, e_9⟩ : ∃ z : Mem, z = bT T0 373 x5_4 (dOnl.getD (ix (-x0)) 0) := ⟨_, rfl⟩
        rw [← e_9] at hG hI
        have C1 := hG.1
        have hf := lt_at e_9 hf
        refine lv_iload_n C0.1 C0.2.1 dJ6_getChars_ba4f3_85 rfl (lv_at hl 2 rfl) ?_
        refine lv_bipush (v := (-9)) C0.1 C0.2.1 dJ6_getChars_ba4f3_86 (by decide) ?_
        refine lv_icmp_ge (tgt := 104) C0.1 C0.2.1 dJ6_getChars_ba4f3_88 (by decide) (fun c_10 => ?_) (fun c_10 => ?_)
        · have hf := (if_pos c_10).symm.trans hf
          refine lv_iload C0.1 C0.2.1 dJ6_getChars_ba4f3_104 (lv_at hl 1 rfl) ?_
          refine lv_if_eq (tgt := 118) C0.1 C0.2.1 dJ6_getChars_ba4f3_106 (by decide) (fun c_11 => ?_) (fun c_11 => ?_)
          · have hf := (if_pos c_11).symm.trans hf
            refine lv_iload C0.1 C0.2.1 dJ6_getChars_ba4f3_118 (lv_at hl 0 rfl) ?_
            exact eg_i C0 hG hI hr hlocks hf dJ6_getChars_ba4f3_120
          · have hf := (if_neg c_11).symm.trans hf
            exact nomatch hf
        · have hf := (if_neg c_10).symm.trans hf
          refine lv_aload_n C0.1 C0.2.1 dJ6_getChars_ba4f3_91 rfl (lv_at hl 4 rfl) ?_
          obtain ⟨x5_12, e_13⟩ : ∃ z : Int32, z = x5_4 + (-1) := ⟨_, rfl⟩
          have hf := lt_at e_13 hf
          refine lv_iinc (v := x5_12) (lv' := [(5, .int x5_12), (6, .int 0), (0, .int x0), (1, .int x1), (2, .ref (r 371))]) C0.1 C0.2.1 dJ6_getChars_ba4f3_92 hl (k := 0) rfl (by rw [e_13]; rfl) (by decide) rfl (fun ls hl => ?_)
          refine lv_iload C0.1 C0.2.1 dJ6_getChars_ba4f3_95 (lv_at hl 0 rfl) ?_
          refine r_sd4 C0 C1 hI w_1212 dJ6_getChars_ba4f3_97 ?_
          refine lv_iload_n C0.1 C0.2.1 dJ6_getChars_ba4f3_100 rfl (lv_at hl 2 rfl) ?_
          refine lv_ineg C0.1 C0.2.1 dJ6_getChars_ba4f3_101 ?_
          obtain ⟨h_14, hf⟩ := chk_some hf
          refine r_sdld4 C0 C1 hI h_14 dJ6_getChars_ba4f3_102 ?_
          obtain ⟨h_15, hf⟩ := chk_some hf
          refine g_bast1 C0 hG hI h_15 dJ6_getChars_ba4f3_103 (fun H locs hG hI => ?_)
          obtain ⟨T_16, e_17⟩ : ∃ z : Mem, z = bT T_8 373 x5_12 (dTel.getD (ix (-x0)) 0) := ⟨_, rfl⟩
          rw [← e_17] at hG hI
          have C1 := hG.1
          have hf := lt_at e_17 hf
          refine lv_iload C0.1 C0.2.1 dJ6_getChars_ba4f3_104 (lv_at hl 1 rfl) ?_
          refine lv_if_eq (tgt := 118) C0.1 C0.2.1 dJ6_getChars_ba4f3_106 (by decide) (fun c_18 => ?_) (fun c_18 => ?_)
          · have hf := (if_pos c_18).symm.trans hf
            refine lv_iload C0.1 C0.2.1 dJ6_getChars_ba4f3_118 (lv_at hl 0 rfl) ?_
            exact eg_i C0 hG hI hr hlocks hf dJ6_getChars_ba4f3_120
          · have hf := (if_neg c_18).symm.trans hf
            exact nomatch hf
      · have hf := (if_neg c_3).symm.trans hf
        exact nomatch hf
    · have hf := (if_pos c_2).symm.trans hf
      refine lv_iload_n C0.1 C0.2.1 dJ6_getChars_ba4f3_19 rfl (lv_at hl 2 rfl) ?_
      refine lv_ineg C0.1 C0.2.1 dJ6_getChars_ba4f3_20 ?_
      refine lv_topi (fun x0_19 e_20 => ?_)
      have hf := lt_at e_20 hf
      refine lv_istore_n (lv' := [(0, .int x0_19), (6, .int 0), (5, .int x1), (1, .int x1), (2, .ref (r 371))]) C0.1 C0.2.1 dJ6_getChars_ba4f3_21 rfl hl (by decide) rfl (fun ls hl => ?_)
      refine lv_iload_n C0.1 C0.2.1 dJ6_getChars_ba4f3_22 rfl (lv_at hl 0 rfl) ?_
      refine lv_bipush (v := (-100)) C0.1 C0.2.1 dJ6_getChars_ba4f3_23 (by decide) ?_
      refine lv_icmp_gt (tgt := 72) C0.1 C0.2.1 dJ6_getChars_ba4f3_25 (by decide) (fun c_21 => ?_) (fun c_21 => ?_)
      · have hf := (if_pos c_21).symm.trans hf
        refine lv_aload_n C0.1 C0.2.1 dJ6_getChars_ba4f3_72 rfl (lv_at hl 4 rfl) ?_
        obtain ⟨x5_22, e_23⟩ : ∃ z : Int32, z = x1 + (-1) := ⟨_, rfl⟩
        have hf := lt_at e_23 hf
        refine lv_iinc (v := x5_22) (lv' := [(5, .int x5_22), (0, .int x0_19), (6, .int 0), (1, .int x1), (2, .ref (r 371))]) C0.1 C0.2.1 dJ6_getChars_ba4f3_73 hl (k := 2) rfl (by rw [e_23]; rfl) (by decide) rfl (fun ls hl => ?_)
        refine lv_iload C0.1 C0.2.1 dJ6_getChars_ba4f3_76 (lv_at hl 0 rfl) ?_
        refine r_sd3 C0 C1 hI w_1210 dJ6_getChars_ba4f3_78 ?_
        refine lv_iload_n C0.1 C0.2.1 dJ6_getChars_ba4f3_81 rfl (lv_at hl 1 rfl) ?_
        refine lv_ineg C0.1 C0.2.1 dJ6_getChars_ba4f3_82 ?_
        obtain ⟨h_24, hf⟩ := chk_some hf
        refine r_sdld3 C0 C1 hI h_24 dJ6_getChars_ba4f3_83 ?_
        obtain ⟨h_25, hf⟩ := chk_some hf
        refine g_bast1 C0 hG hI h_25 dJ6_getChars_ba4f3_84 (fun H locs hG hI => ?_)
        obtain ⟨T_26, e_27⟩ : ∃ z : Mem, z = bT T0 373 x5_22 (dOnl.getD (ix (-x0_19)) 0) := ⟨_, rfl⟩
        rw [← e_27] at hG hI
        have C1 := hG.1
        have hf := lt_at e_27 hf
        refine lv_iload_n C0.1 C0.2.1 dJ6_getChars_ba4f3_85 rfl (lv_at hl 1 rfl) ?_
        refine lv_bipush (v := (-9)) C0.1 C0.2.1 dJ6_getChars_ba4f3_86 (by decide) ?_
        refine lv_icmp_ge (tgt := 104) C0.1 C0.2.1 dJ6_getChars_ba4f3_88 (by decide) (fun c_28 => ?_) (fun c_28 => ?_)
        · have hf := (if_pos c_28).symm.trans hf
          refine lv_iload C0.1 C0.2.1 dJ6_getChars_ba4f3_104 (lv_at hl 2 rfl) ?_
          refine lv_if_eq (tgt := 118) C0.1 C0.2.1 dJ6_getChars_ba4f3_106 (by decide) (fun c_29 => ?_) (fun c_29 => ?_)
          · have hf := (if_pos c_29).symm.trans hf
            refine lv_iload C0.1 C0.2.1 dJ6_getChars_ba4f3_118 (lv_at hl 0 rfl) ?_
            exact eg_i C0 hG hI hr hlocks hf dJ6_getChars_ba4f3_120
          · have hf := (if_neg c_29).symm.trans hf
            exact nomatch hf
        · have hf := (if_neg c_28).symm.trans hf
          refine lv_aload_n C0.1 C0.2.1 dJ6_getChars_ba4f3_91 rfl (lv_at hl 4 rfl) ?_
          obtain ⟨x5_30, e_31⟩ : ∃ z : Int32, z = x5_22 + (-1) := ⟨_, rfl⟩
          have hf := lt_at e_31 hf
          refine lv_iinc (v := x5_30) (lv' := [(5, .int x5_30), (0, .int x0_19), (6, .int 0), (1, .int x1), (2, .ref (r 371))]) C0.1 C0.2.1 dJ6_getChars_ba4f3_92 hl (k := 0) rfl (by rw [e_31]; rfl) (by decide) rfl (fun ls hl => ?_)
          refine lv_iload C0.1 C0.2.1 dJ6_getChars_ba4f3_95 (lv_at hl 0 rfl) ?_
          refine r_sd4 C0 C1 hI w_1212 dJ6_getChars_ba4f3_97 ?_
          refine lv_iload_n C0.1 C0.2.1 dJ6_getChars_ba4f3_100 rfl (lv_at hl 1 rfl) ?_
          refine lv_ineg C0.1 C0.2.1 dJ6_getChars_ba4f3_101 ?_
          obtain ⟨h_32, hf⟩ := chk_some hf
          refine r_sdld4 C0 C1 hI h_32 dJ6_getChars_ba4f3_102 ?_
          obtain ⟨h_33, hf⟩ := chk_some hf
          refine g_bast1 C0 hG hI h_33 dJ6_getChars_ba4f3_103 (fun H locs hG hI => ?_)
          obtain ⟨T_34, e_35⟩ : ∃ z : Mem, z = bT T_26 373 x5_30 (dTel.getD (ix (-x0_19)) 0) := ⟨_, rfl⟩
          rw [← e_35] at hG hI
          have C1 := hG.1
          have hf := lt_at e_35 hf
          refine lv_iload C0.1 C0.2.1 dJ6_getChars_ba4f3_104 (lv_at hl 2 rfl) ?_
          refine lv_if_eq (tgt := 118) C0.1 C0.2.1 dJ6_getChars_ba4f3_106 (by decide) (fun c_36 => ?_) (fun c_36 => ?_)
          · have hf := (if_pos c_36).symm.trans hf
            refine lv_iload C0.1 C0.2.1 dJ6_getChars_ba4f3_118 (lv_at hl 0 rfl) ?_
            exact eg_i C0 hG hI hr hlocks hf dJ6_getChars_ba4f3_120
          · have hf := (if_neg c_36).symm.trans hf
            exact nomatch hf
      · have hf := (if_neg c_21).symm.trans hf
        exact nomatch hf
  · have hf := (if_neg c_1).symm.trans hf
    refine lv_iconst (v := 1) C0.1 C0.2.1 dJ6_getChars_ba4f3_7 (by decide) ?_
    refine lv_goto (tgt := 12) C0.1 C0.2.1 dJ6_getChars_ba4f3_8 (by decide) ?_
    refine lv_istore (lv' := [(6, .int 1), (5, .int x1), (0, .int x0), (1, .int x1), (2, .ref (r 371))]) C0.1 C0.2.1 dJ6_getChars_ba4f3_12 hl (by decide) rfl (fun ls hl => ?_)
    refine lv_iload C0.1 C0.2.1 dJ6_getChars_ba4f3_14 (lv_at hl 0 rfl) ?_
    refine lv_if_ne (tgt := 22) C0.1 C0.2.1 dJ6_getChars_ba4f3_16 (by decide) (fun c_37 => ?_) (fun c_37 => ?_)
    · have hf := (if_neg c_37).symm.trans hf
      refine lv_iload_n C0.1 C0.2.1 dJ6_getChars_ba4f3_22 rfl (lv_at hl 2 rfl) ?_
      refine lv_bipush (v := (-100)) C0.1 C0.2.1 dJ6_getChars_ba4f3_23 (by decide) ?_
      refine lv_icmp_gt (tgt := 72) C0.1 C0.2.1 dJ6_getChars_ba4f3_25 (by decide) (fun c_38 => ?_) (fun c_38 => ?_)
      · have hf := (if_pos c_38).symm.trans hf
        refine lv_aload_n C0.1 C0.2.1 dJ6_getChars_ba4f3_72 rfl (lv_at hl 4 rfl) ?_
        obtain ⟨x5_39, e_40⟩ : ∃ z : Int32, z = x1 + (-1) := ⟨_, rfl⟩
        have hf := lt_at e_40 hf
        refine lv_iinc (v := x5_39) (lv' := [(5, .int x5_39), (6, .int 1), (0, .int x0), (1, .int x1), (2, .ref (r 371))]) C0.1 C0.2.1 dJ6_getChars_ba4f3_73 hl (k := 1) rfl (by rw [e_40]; rfl) (by decide) rfl (fun ls hl => ?_)
        refine lv_iload C0.1 C0.2.1 dJ6_getChars_ba4f3_76 (lv_at hl 0 rfl) ?_
        refine r_sd3 C0 C1 hI w_1210 dJ6_getChars_ba4f3_78 ?_
        refine lv_iload_n C0.1 C0.2.1 dJ6_getChars_ba4f3_81 rfl (lv_at hl 2 rfl) ?_
        refine lv_ineg C0.1 C0.2.1 dJ6_getChars_ba4f3_82 ?_
        obtain ⟨h_41, hf⟩ := chk_some hf
        refine r_sdld3 C0 C1 hI h_41 dJ6_getChars_ba4f3_83 ?_
        obtain ⟨h_42, hf⟩ := chk_some hf
        refine g_bast1 C0 hG hI h_42 dJ6_getChars_ba4f3_84 (fun H locs hG hI => ?_)
        obtain ⟨T_43, e_44⟩ : ∃ z : Mem, z = bT T0 373 x5_39 (dOnl.getD (ix (-x0)) 0) := ⟨_, rfl⟩
        rw [← e_44] at hG hI
        have C1 := hG.1
        have hf := lt_at e_44 hf
        refine lv_iload_n C0.1 C0.2.1 dJ6_getChars_ba4f3_85 rfl (lv_at hl 2 rfl) ?_
        refine lv_bipush (v := (-9)) C0.1 C0.2.1 dJ6_getChars_ba4f3_86 (by decide) ?_
        refine lv_icmp_ge (tgt := 104) C0.1 C0.2.1 dJ6_getChars_ba4f3_88 (by decide) (fun c_45 => ?_) (fun c_45 => ?_)
        · have hf := (if_pos c_45).symm.trans hf
          refine lv_iload C0.1 C0.2.1 dJ6_getChars_ba4f3_104 (lv_at hl 1 rfl) ?_
          refine lv_if_eq (tgt := 118) C0.1 C0.2.1 dJ6_getChars_ba4f3_106 (by decide) (fun c_46 => ?_) (fun c_46 => ?_)
          · have hf := (if_pos c_46).symm.trans hf
            refine lv_iload C0.1 C0.2.1 dJ6_getChars_ba4f3_118 (lv_at hl 0 rfl) ?_
            exact eg_i C0 hG hI hr hlocks hf dJ6_getChars_ba4f3_120
          · have hf := (if_neg c_46).symm.trans hf
            exact nomatch hf
        · have hf := (if_neg c_45).symm.trans hf
          refine lv_aload_n C0.1 C0.2.1 dJ6_getChars_ba4f3_91 rfl (lv_at hl 4 rfl) ?_
          obtain ⟨x5_47, e_48⟩ : ∃ z : Int32, z = x5_39 + (-1) := ⟨_, rfl⟩
          have hf := lt_at e_48 hf
          refine lv_iinc (v := x5_47) (lv' := [(5, .int x5_47), (6, .int 1), (0, .int x0), (1, .int x1), (2, .ref (r 371))]) C0.1 C0.2.1 dJ6_getChars_ba4f3_92 hl (k := 0) rfl (by rw [e_48]; rfl) (by decide) rfl (fun ls hl => ?_)
          refine lv_iload C0.1 C0.2.1 dJ6_getChars_ba4f3_95 (lv_at hl 0 rfl) ?_
          refine r_sd4 C0 C1 hI w_1212 dJ6_getChars_ba4f3_97 ?_
          refine lv_iload_n C0.1 C0.2.1 dJ6_getChars_ba4f3_100 rfl (lv_at hl 2 rfl) ?_
          refine lv_ineg C0.1 C0.2.1 dJ6_getChars_ba4f3_101 ?_
          obtain ⟨h_49, hf⟩ := chk_some hf
          refine r_sdld4 C0 C1 hI h_49 dJ6_getChars_ba4f3_102 ?_
          obtain ⟨h_50, hf⟩ := chk_some hf
          refine g_bast1 C0 hG hI h_50 dJ6_getChars_ba4f3_103 (fun H locs hG hI => ?_)
          obtain ⟨T_51, e_52⟩ : ∃ z : Mem, z = bT T_43 373 x5_47 (dTel.getD (ix (-x0)) 0) := ⟨_, rfl⟩
          rw [← e_52] at hG hI
          have C1 := hG.1
          have hf := lt_at e_52 hf
          refine lv_iload C0.1 C0.2.1 dJ6_getChars_ba4f3_104 (lv_at hl 1 rfl) ?_
          refine lv_if_eq (tgt := 118) C0.1 C0.2.1 dJ6_getChars_ba4f3_106 (by decide) (fun c_53 => ?_) (fun c_53 => ?_)
          · have hf := (if_pos c_53).symm.trans hf
            refine lv_iload C0.1 C0.2.1 dJ6_getChars_ba4f3_118 (lv_at hl 0 rfl) ?_
            exact eg_i C0 hG hI hr hlocks hf dJ6_getChars_ba4f3_120
          · have hf := (if_neg c_53).symm.trans hf
            exact nomatch hf
      · have hf := (if_neg c_38).symm.trans hf
        exact nomatch hf
    · have hf := (if_pos c_37).symm.trans hf
      refine lv_iload_n C0.1 C0.2.1 dJ6_getChars_ba4f3_19 rfl (lv_at hl 2 rfl) ?_
      refine lv_ineg C0.1 C0.2.1 dJ6_getChars_ba4f3_20 ?_
      refine lv_topi (fun x0_54 e_55 => ?_)
      have hf := lt_at e_55 hf
      refine lv_istore_n (lv' := [(0, .int x0_54), (6, .int 1), (5, .int x1), (1, .int x1), (2, .ref (r 371))]) C0.1 C0.2.1 dJ6_getChars_ba4f3_21 rfl hl (by decide) rfl (fun ls hl => ?_)
      refine lv_iload_n C0.1 C0.2.1 dJ6_getChars_ba4f3_22 rfl (lv_at hl 0 rfl) ?_
      refine lv_bipush (v := (-100)) C0.1 C0.2.1 dJ6_getChars_ba4f3_23 (by decide) ?_
      refine lv_icmp_gt (tgt := 72) C0.1 C0.2.1 dJ6_getChars_ba4f3_25 (by decide) (fun c_56 => ?_) (fun c_56 => ?_)
      · have hf := (if_pos c_56).symm.trans hf
        refine lv_aload_n C0.1 C0.2.1 dJ6_getChars_ba4f3_72 rfl (lv_at hl 4 rfl) ?_
        obtain ⟨x5_57, e_58⟩ : ∃ z : Int32, z = x1 + (-1) := ⟨_, rfl⟩
        have hf := lt_at e_58 hf
        refine lv_iinc (v := x5_57) (lv' := [(5, .int x5_57), (0, .int x0_54), (6, .int 1), (1, .int x1), (2, .ref (r 371))]) C0.1 C0.2.1 dJ6_getChars_ba4f3_73 hl (k := 2) rfl (by rw [e_58]; rfl) (by decide) rfl (fun ls hl => ?_)
        refine lv_iload C0.1 C0.2.1 dJ6_getChars_ba4f3_76 (lv_at hl 0 rfl) ?_
        refine r_sd3 C0 C1 hI w_1210 dJ6_getChars_ba4f3_78 ?_
        refine lv_iload_n C0.1 C0.2.1 dJ6_getChars_ba4f3_81 rfl (lv_at hl 1 rfl) ?_
        refine lv_ineg C0.1 C0.2.1 dJ6_getChars_ba4f3_82 ?_
        obtain ⟨h_59, hf⟩ := chk_some hf
        refine r_sdld3 C0 C1 hI h_59 dJ6_getChars_ba4f3_83 ?_
        obtain ⟨h_60, hf⟩ := chk_some hf
        refine g_bast1 C0 hG hI h_60 dJ6_getChars_ba4f3_84 (fun H locs hG hI => ?_)
        obtain ⟨T_61, e_62⟩ : ∃ z : Mem, z = bT T0 373 x5_57 (dOnl.getD (ix (-x0_54)) 0) := ⟨_, rfl⟩
        rw [← e_62] at hG hI
        have C1 := hG.1
        have hf := lt_at e_62 hf
        refine lv_iload_n C0.1 C0.2.1 dJ6_getChars_ba4f3_85 rfl (lv_at hl 1 rfl) ?_
        refine lv_bipush (v := (-9)) C0.1 C0.2.1 dJ6_getChars_ba4f3_86 (by decide) ?_
        refine lv_icmp_ge (tgt := 104) C0.1 C0.2.1 dJ6_getChars_ba4f3_88 (by decide) (fun c_63 => ?_) (fun c_63 => ?_)
        · have hf := (if_pos c_63).symm.trans hf
          refine lv_iload C0.1 C0.2.1 dJ6_getChars_ba4f3_104 (lv_at hl 2 rfl) ?_
          refine lv_if_eq (tgt := 118) C0.1 C0.2.1 dJ6_getChars_ba4f3_106 (by decide) (fun c_64 => ?_) (fun c_64 => ?_)
          · have hf := (if_pos c_64).symm.trans hf
            refine lv_iload C0.1 C0.2.1 dJ6_getChars_ba4f3_118 (lv_at hl 0 rfl) ?_
            exact eg_i C0 hG hI hr hlocks hf dJ6_getChars_ba4f3_120
          · have hf := (if_neg c_64).symm.trans hf
            exact nomatch hf
        · have hf := (if_neg c_63).symm.trans hf
          refine lv_aload_n C0.1 C0.2.1 dJ6_getChars_ba4f3_91 rfl (lv_at hl 4 rfl) ?_
          obtain ⟨x5_65, e_66⟩ : ∃ z : Int32, z = x5_57 + (-1) := ⟨_, rfl⟩
          have hf := lt_at e_66 hf
          refine lv_iinc (v := x5_65) (lv' := [(5, .int x5_65), (0, .int x0_54), (6, .int 1), (1, .int x1), (2, .ref (r 371))]) C0.1 C0.2.1 dJ6_getChars_ba4f3_92 hl (k := 0) rfl (by rw [e_66]; rfl) (by decide) rfl (fun ls hl => ?_)
          refine lv_iload C0.1 C0.2.1 dJ6_getChars_ba4f3_95 (lv_at hl 0 rfl) ?_
          refine r_sd4 C0 C1 hI w_1212 dJ6_getChars_ba4f3_97 ?_
          refine lv_iload_n C0.1 C0.2.1 dJ6_getChars_ba4f3_100 rfl (lv_at hl 1 rfl) ?_
          refine lv_ineg C0.1 C0.2.1 dJ6_getChars_ba4f3_101 ?_
          obtain ⟨h_67, hf⟩ := chk_some hf
          refine r_sdld4 C0 C1 hI h_67 dJ6_getChars_ba4f3_102 ?_
          obtain ⟨h_68, hf⟩ := chk_some hf
          refine g_bast1 C0 hG hI h_68 dJ6_getChars_ba4f3_103 (fun H locs hG hI => ?_)
          obtain ⟨T_69, e_70⟩ : ∃ z : Mem, z = bT T_61 373 x5_65 (dTel.getD (ix (-x0_54)) 0) := ⟨_, rfl⟩
          rw [← e_70] at hG hI
          have C1 := hG.1
          have hf := lt_at e_70 hf
          refine lv_iload C0.1 C0.2.1 dJ6_getChars_ba4f3_104 (lv_at hl 2 rfl) ?_
          refine lv_if_eq (tgt := 118) C0.1 C0.2.1 dJ6_getChars_ba4f3_106 (by decide) (fun c_71 => ?_) (fun c_71 => ?_)
          · have hf := (if_pos c_71).symm.trans hf
            refine lv_iload C0.1 C0.2.1 dJ6_getChars_ba4f3_118 (lv_at hl 0 rfl) ?_
            exact eg_i C0 hG hI hr hlocks hf dJ6_getChars_ba4f3_120
          · have hf := (if_neg c_71).symm.trans hf
            exact nomatch hf
      · have hf := (if_neg c_56).symm.trans hf
        exact nomatch hf

def Fg_J5_append_3fe6f_t (n : Nat) (T0 : Mem) (x1 : Int32) (M : Mem) : Option (Unit × Mem × Mem) :=
  ogu (Fg_J5_ensureCapacityInternal_d00df_t n T0 ((M 370 3) + 1) M) (fun T_2 M_3 => ob (F_J5_isLatin1_aae02_t n T_2 M_3) (fun r_7 => (if r_7 = 0 then none else ob (F_J1_canEncode_fc78d n x1 M_3) (fun r_10 => (if r_10 = 0 then none else lt' (up2 M_3 370 3 ((M_3 370 3) + 1)) (fun M_12 => chk (inb (M_3 370 3) (ix (T_2 374 0))) (lt' (bT T_2 372 (M_3 370 3) x1.toInt8.toInt32) (fun T_15 => some ((), T_15, M_12)))))))))
theorem hd_J5_append_3fe6f : yJ5_append_3fe6f.cls ≠ "java/lang/invoke/MethodHandle" ∧ yJ5_append_3fe6f.cls ≠ "java/lang/invoke/VarHandle" ∧ (parseMethodDescriptor yJ5_append_3fe6f.desc).map (fun d => d.parameters.length) = some 1 := ⟨by decide +kernel, by decide +kernel, by decide +kernel⟩
set_option maxHeartbeats 4000000 in
set_option maxRecDepth 100000 in
theorem cg_J5_append_3fe6f_t (l : Launch) (g : GG) (X : va_W) (r b : Nat → Nat) (sz n : Nat) (M : Mem) (T0 : Mem) (x1 : Int32)  {T' M' : Mem} (hf : Fg_J5_append_3fe6f_t n T0 x1 M = some ((), T', M')) : Met l yJ5_append_3fe6f (.code yJ5_append_3fe6f cJ5_append_3fe6f 2 (some (.object "java/lang/AbstractStringBuilder")) :: LWg) (rmD 4 1 80) (va_Pc [.ref (b 370), .int x1] (PreP g (xb g r T0 ++ X) 372 (shI g r b) b sz M)) (QgR g X (AA (xb g r T0 ++ X) b 372 sz) b sz (b 370) T' M') 1 80 (AA (xb g r T0 ++ X) b 372 sz) := by
  refine met_go (by decide +kernel) rfl (Nat.le_of_ble_eq_true rfl) ?_
  intro p e s m below meth c ls H locs C0 C1 hr hlocks hnm hsz hl hI
  subst hsz
  have hG := GX.go C1
  have hl : lv_has ls 2 [(0, .ref (b 370)), (1, .int x1)] := hl
  unfold Fg_J5_append_3fe6f_t at hf
  refine lv_aload_n C0.1 C0.2.1 dJ5_append_3fe6f_0 rfl (lv_at hl 0 rfl) ?_
  refine lv_aload_n C0.1 C0.2.1 dJ5_append_3fe6f_1 rfl (lv_at hl 0 rfl) ?_
  refine r_getA (C := RJ4) (T := TJ4) (N9 := 4) (ci := 1) C0 C1 hI iJ4 rfl 370 3 (kdlt13 (rfl : kdI 370 = 13)) (by decide) (shI_13 (rfl : kdI 370 = 13) _) rfl w_331 dJ5_append_3fe6f_2 ?_
  refine lv_iconst (v := 1) C0.1 C0.2.1 dJ5_append_3fe6f_5 (by decide) ?_
  refine lv_iadd C0.1 C0.2.1 dJ5_append_3fe6f_6 ?_
  obtain ⟨T_2, M_3, h_1, hf⟩ := ogu_some hf
  refine kg_v hG hI (q_U C0 C1 hI 370 (cg_J5_ensureCapacityInternal_d00df_t l g X r b H.size n M T0 ((M 370 3) + 1) h_1) RJ4 w_974 w_1801 w_9001 w_976 w_80 w_977 ⟨rfl, rfl⟩ hd_J5_ensureCapacityInternal_d00df ⟨Nat.le_of_ble_eq_true rfl, Nat.le_of_ble_eq_true rfl⟩ (kdlt13 (rfl : kdI 370 = 13)) (shI_13 (rfl : kdI 370 = 13) _) rfl rfl rfl hl.1 rfl (Nat.le_of_ble_eq_true rfl) dJ5_append_3fe6f_7 ⟨Nat.le_of_ble_eq_true rfl, Nat.le_of_ble_eq_true rfl⟩) (fun r_4 X_5 H locs hG hI => ?_)
  have C1 := hG.1
  refine lv_aload_n C0.1 C0.2.1 dJ5_append_3fe6f_10 rfl (lv_at hl 0 rfl) ?_
  obtain ⟨r_7, h_6, hf⟩ := ob_some hf
  refine k_i C1 hI (q_U C0 C1 hI 370 (c_J5_isLatin1_aae02_t l g X_5 r_4 b H.size n M_3 T_2 h_6) RJ4 w_1007 w_1009 w_1010 w_1008 w_80 w_1011 ⟨rfl, rfl⟩ hd_J5_isLatin1_aae02 ⟨Nat.le_of_ble_eq_true rfl, Nat.le_of_ble_eq_true rfl⟩ (kdlt13 (rfl : kdI 370 = 13)) (shI_13 (rfl : kdI 370 = 13) _) rfl rfl rfl hl.1 rfl (Nat.le_of_ble_eq_true rfl) dJ5_append_3fe6f_11 ⟨Nat.le_of_ble_eq_true rfl, Nat.le_of_ble_eq_true rfl⟩) (fun H locs hI => ?_)
  refine lv_if_eq (tgt := 45) C0.1 C0.2.1 dJ5_append_3fe6f_14 (by decide) (fun c_8 => ?_) (fun c_8 => ?_)
  · have hf := (if_pos c_8).symm.trans hf
    exact nomatch hf
  · have hf := (if_neg c_8).symm.trans hf
    refine lv_iload_n C0.1 C0.2.1 dJ5_append_3fe6f_17 rfl (lv_at hl 1 rfl) ?_
    obtain ⟨r_10, h_9, hf⟩ := ob_some hf
    refine k_i C1 hI (q_S C0 C1 hI (c_J1_canEncode_fc78d l g (xb g r_4 T_2 ++ X_5) r_4 b H.size n M_3 x1 h_9) w_1012 w_1013 w_90 w_1014 ⟨rfl, rfl⟩ hd_J1_canEncode_fc78d ⟨Nat.le_of_ble_eq_true rfl, Nat.le_of_ble_eq_true rfl⟩ rfl hl.1 rfl (Nat.le_of_ble_eq_true rfl) dJ5_append_3fe6f_18 ⟨Nat.le_of_ble_eq_true rfl, Nat.le_of_ble_eq_true rfl⟩) (fun H locs hI => ?_)
    refine lv_if_eq (tgt := 45) C0.1 C0.2.1 dJ5_append_3fe6f_21 (by decide) (fun c_11 => ?_) (fun c_11 => ?_)
    · have hf := (if_pos c_11).symm.trans hf
      exact nomatch hf
    · have hf := (if_neg c_11).symm.trans hf
      refine lv_aload_n C0.1 C0.2.1 dJ5_append_3fe6f_24 rfl (lv_at hl 0 rfl) ?_
      refine r_getA (C := RJ4) (T := TJ4) (N9 := 4) (ci := 1) C0 C1 hI iJ4 rfl 370 0 (kdlt13 (rfl : kdI 370 = 13)) (by decide) (shI_13 (rfl : kdI 370 = 13) _) rfl w_327 dJ5_append_3fe6f_25 ?_
      refine lv_aload_n C0.1 C0.2.1 dJ5_append_3fe6f_28 rfl (lv_at hl 0 rfl) ?_
      refine lv_dup C0.1 C0.2.1 dJ5_append_3fe6f_29 rfl ?_
      refine r_getA (C := RJ4) (T := TJ4) (N9 := 4) (ci := 1) C0 C1 hI iJ4 rfl 370 3 (kdlt13 (rfl : kdI 370 = 13)) (by decide) (shI_13 (rfl : kdI 370 = 13) _) rfl w_331 dJ5_append_3fe6f_30 ?_
      refine lv_dup_x1 C0.1 C0.2.1 dJ5_append_3fe6f_33 rfl rfl ?_
      refine lv_iconst (v := 1) C0.1 C0.2.1 dJ5_append_3fe6f_34 (by decide) ?_
      refine lv_iadd C0.1 C0.2.1 dJ5_append_3fe6f_35 ?_
      refine r_putA (C := RJ4) (T := TJ4) (N9 := 4) (ci := 1) (fs := fS r_4 370) (ty := .int) C0 C1 hI iJ4 tyJ4 tyJ4_ok nmJ4 rfl 370 3 (kdlt13 (rfl : kdI 370 = 13)) (by decide) (shI_13 (rfl : kdI 370 = 13)) rfl rfl (by decide +kernel) ⟨rfl, rfl⟩ (Nat.le_of_ble_eq_true rfl) w_331 dJ5_append_3fe6f_36 (fun H locs hI => ?_)
      obtain ⟨M_12, e_13⟩ : ∃ z : Mem, z = up2 M_3 370 3 ((M_3 370 3) + 1) := ⟨_, rfl⟩
      rw [← e_13] at hI
      have hf := lt_at e_13 hf
      refine lv_iload_n C0.1 C0.2.1 dJ5_append_3fe6f_39 rfl (lv_at hl 1 rfl) ?_
      refine lv_i2b C0.1 C0.2.1 dJ5_append_3fe6f_40 rfl ?_
      obtain ⟨h_14, hf⟩ := chk_some hf
      refine g_bast0 C0 hG hI h_14 dJ5_append_3fe6f_41 (fun H locs hG hI => ?_)
      obtain ⟨T_15, e_16⟩ : ∃ z : Mem, z = bT T_2 372 (M_3 370 3) x1.toInt8.toInt32 := ⟨_, rfl⟩
      rw [← e_16] at hG hI
      have C1 := hG.1
      have hf := lt_at e_16 hf
      refine lv_goto (tgt := 75) C0.1 C0.2.1 dJ5_append_3fe6f_42 (by decide) ?_
      refine lv_aload_n C0.1 C0.2.1 dJ5_append_3fe6f_75 rfl (lv_at hl 0 rfl) ?_
      exact eg_r C0 hG hI hr hlocks hf dJ5_append_3fe6f_76

def Fg_J5_append_3fe6f_l (n : Nat) (T0 : Mem) (x1 : Int32) (M : Mem) : Option (Unit × Mem × Mem) :=
  ogu (Fg_J5_ensureCapacityInternal_d00df_l n T0 ((M 371 3) + 1) M) (fun T_2 M_3 => ob (F_J5_isLatin1_aae02_l n T_2 M_3) (fun r_7 => (if r_7 = 0 then none else ob (F_J1_canEncode_fc78d n x1 M_3) (fun r_10 => (if r_10 = 0 then none else lt' (up2 M_3 371 3 ((M_3 371 3) + 1)) (fun M_12 => chk (inb (M_3 371 3) (ix (T_2 374 1))) (lt' (bT T_2 373 (M_3 371 3) x1.toInt8.toInt32) (fun T_15 => some ((), T_15, M_12)))))))))
set_option maxHeartbeats 4000000 in
set_option maxRecDepth 100000 in
theorem cg_J5_append_3fe6f_l (l : Launch) (g : GG) (X : va_W) (r b : Nat → Nat) (sz n : Nat) (M : Mem) (T0 : Mem) (x1 : Int32)  {T' M' : Mem} (hf : Fg_J5_append_3fe6f_l n T0 x1 M = some ((), T', M')) : Met l yJ5_append_3fe6f (.code yJ5_append_3fe6f cJ5_append_3fe6f 2 (some (.object "java/lang/AbstractStringBuilder")) :: LWg) (rmD 4 1 80) (va_Pc [.ref (b 371), .int x1] (PreP g (xb g r T0 ++ X) 372 (shI g r b) b sz M)) (QgR g X (AA (xb g r T0 ++ X) b 372 sz) b sz (b 371) T' M') 1 80 (AA (xb g r T0 ++ X) b 372 sz) := by
  refine met_go (by decide +kernel) rfl (Nat.le_of_ble_eq_true rfl) ?_
  intro p e s m below meth c ls H locs C0 C1 hr hlocks hnm hsz hl hI
  subst hsz
  have hG := GX.go C1
  have hl : lv_has ls 2 [(0, .ref (b 371)), (1, .int x1)] := hl
  unfold Fg_J5_append_3fe6f_l at hf
  refine lv_aload_n C0.1 C0.2.1 dJ5_append_3fe6f_0 rfl (lv_at hl 0 rfl) ?_
  refine lv_aload_n C0.1 C0.2.1 dJ5_append_3fe6f_1 rfl (lv_at hl 0 rfl) ?_
  refine r_getA (C := RJ4) (T := TJ4) (N9 := 4) (ci := 1) C0 C1 hI iJ4 rfl 371 3 (kdlt13 (rfl : kdI 371 = 13)) (by decide) (shI_13 (rfl : kdI 371 = 13) _) rfl w_331 dJ5_append_3fe6f_2 ?_
  refine lv_iconst (v := 1) C0.1 C0.2.1 dJ5_append_3fe6f_5 (by decide) ?_
  refine lv_iadd C0.1 C0.2.1 dJ5_append_3fe6f_6 ?_
  obtain ⟨T_2, M_3, h_1, hf⟩ := ogu_some hf
  refine kg_v hG hI (q_U C0 C1 hI 371 (cg_J5_ensureCapacityInternal_d00df_l l g X r b H.size n M T0 ((M 371 3) + 1) h_1) RJ4 w_974 w_1801 w_9001 w_976 w_80 w_977 ⟨rfl, rfl⟩ hd_J5_ensureCapacityInternal_d00df ⟨Nat.le_of_ble_eq_true rfl, Nat.le_of_ble_eq_true rfl⟩ (kdlt13 (rfl : kdI 371 = 13)) (shI_13 (rfl : kdI 371 = 13) _) rfl rfl rfl hl.1 rfl (Nat.le_of_ble_eq_true rfl) dJ5_append_3fe6f_7 ⟨Nat.le_of_ble_eq_true rfl, Nat.le_of_ble_eq_true rfl⟩) (fun r_4 X_5 H locs hG hI => ?_)
  have C1 := hG.1
  refine lv_aload_n C0.1 C0.2.1 dJ5_append_3fe6f_10 rfl (lv_at hl 0 rfl) ?_
  obtain ⟨r_7, h_6, hf⟩ := ob_some hf
  refine k_i C1 hI (q_U C0 C1 hI 371 (c_J5_isLatin1_aae02_l l g X_5 r_4 b H.size n M_3 T_2 h_6) RJ4 w_1007 w_1009 w_1010 w_1008 w_80 w_1011 ⟨rfl, rfl⟩ hd_J5_isLatin1_aae02 ⟨Nat.le_of_ble_eq_true rfl, Nat.le_of_ble_eq_true rfl⟩ (kdlt13 (rfl : kdI 371 = 13)) (shI_13 (rfl : kdI 371 = 13) _) rfl rfl rfl hl.1 rfl (Nat.le_of_ble_eq_true rfl) dJ5_append_3fe6f_11 ⟨Nat.le_of_ble_eq_true rfl, Nat.le_of_ble_eq_true rfl⟩) (fun H locs hI => ?_)
  refine lv_if_eq (tgt := 45) C0.1 C0.2.1 dJ5_append_3fe6f_14 (by decide) (fun c_8 => ?_) (fun c_8 => ?_)
  · have hf := (if_pos c_8).symm.trans hf
    exact nomatch hf
  · have hf := (if_neg c_8).symm.trans hf
    refine lv_iload_n C0.1 C0.2.1 dJ5_append_3fe6f_17 rfl (lv_at hl 1 rfl) ?_
    obtain ⟨r_10, h_9, hf⟩ := ob_some hf
    refine k_i C1 hI (q_S C0 C1 hI (c_J1_canEncode_fc78d l g (xb g r_4 T_2 ++ X_5) r_4 b H.size n M_3 x1 h_9) w_1012 w_1013 w_90 w_1014 ⟨rfl, rfl⟩ hd_J1_canEncode_fc78d ⟨Nat.le_of_ble_eq_true rfl, Nat.le_of_ble_eq_true rfl⟩ rfl hl.1 rfl (Nat.le_of_ble_eq_true rfl) dJ5_append_3fe6f_18 ⟨Nat.le_of_ble_eq_true rfl, Nat.le_of_ble_eq_true rfl⟩) (fun H locs hI => ?_)
    refine lv_if_eq (tgt := 45) C0.1 C0.2.1 dJ5_append_3fe6f_21 (by decide) (fun c_11 => ?_) (fun c_11 => ?_)
    · have hf := (if_pos c_11).symm.trans hf
      exact nomatch hf
    · have hf := (if_neg c_11).symm.trans hf
      refine lv_aload_n C0.1 C0.2.1 dJ5_append_3fe6f_24 rfl (lv_at hl 0 rfl) ?_
      refine r_getA (C := RJ4) (T := TJ4) (N9 := 4) (ci := 1) C0 C1 hI iJ4 rfl 371 0 (kdlt13 (rfl : kdI 371 = 13)) (by decide) (shI_13 (rfl : kdI 371 = 13) _) rfl w_327 dJ5_append_3fe6f_25 ?_
      refine lv_aload_n C0.1 C0.2.1 dJ5_append_3fe6f_28 rfl (lv_at hl 0 rfl) ?_
      refine lv_dup C0.1 C0.2.1 dJ5_append_3fe6f_29 rfl ?_
      refine r_getA (C := RJ4) (T := TJ4) (N9 := 4) (ci := 1) C0 C1 hI iJ4 rfl 371 3 (kdlt13 (rfl : kdI 371 = 13)) (by decide) (shI_13 (rfl : kdI 371 = 13) _) rfl w_331 dJ5_append_3fe6f_30 ?_
      refine lv_dup_x1 C0.1 C0.2.1 dJ5_append_3fe6f_33 rfl rfl ?_
      refine lv_iconst (v := 1) C0.1 C0.2.1 dJ5_append_3fe6f_34 (by decide) ?_
      refine lv_iadd C0.1 C0.2.1 dJ5_append_3fe6f_35 ?_
      refine r_putA (C := RJ4) (T := TJ4) (N9 := 4) (ci := 1) (fs := fS r_4 371) (ty := .int) C0 C1 hI iJ4 tyJ4 tyJ4_ok nmJ4 rfl 371 3 (kdlt13 (rfl : kdI 371 = 13)) (by decide) (shI_13 (rfl : kdI 371 = 13)) rfl rfl (by decide +kernel) ⟨rfl, rfl⟩ (Nat.le_of_ble_eq_true rfl) w_331 dJ5_append_3fe6f_36 (fun H locs hI => ?_)
      obtain ⟨M_12, e_13⟩ : ∃ z : Mem, z = up2 M_3 371 3 ((M_3 371 3) + 1) := ⟨_, rfl⟩
      rw [← e_13] at hI
      have hf := lt_at e_13 hf
      refine lv_iload_n C0.1 C0.2.1 dJ5_append_3fe6f_39 rfl (lv_at hl 1 rfl) ?_
      refine lv_i2b C0.1 C0.2.1 dJ5_append_3fe6f_40 rfl ?_
      obtain ⟨h_14, hf⟩ := chk_some hf
      refine g_bast1 C0 hG hI h_14 dJ5_append_3fe6f_41 (fun H locs hG hI => ?_)
      obtain ⟨T_15, e_16⟩ : ∃ z : Mem, z = bT T_2 373 (M_3 371 3) x1.toInt8.toInt32 := ⟨_, rfl⟩
      rw [← e_16] at hG hI
      have C1 := hG.1
      have hf := lt_at e_16 hf
      refine lv_goto (tgt := 75) C0.1 C0.2.1 dJ5_append_3fe6f_42 (by decide) ?_
      refine lv_aload_n C0.1 C0.2.1 dJ5_append_3fe6f_75 rfl (lv_at hl 0 rfl) ?_
      exact eg_r C0 hG hI hr hlocks hf dJ5_append_3fe6f_76

def Fg_J5_append_c97b9_t (n : Nat) (T0 : Mem) (x1 : Int32) (M : Mem) : Option (Unit × Mem × Mem) :=
  lt' (M 370 3) (fun x2_1 => ob (F_J6_stringSize_0f7a4 n x1 M) (fun r_4 => lt' (x2_1 + r_4) (fun x3_5 => ogu (Fg_J5_ensureCapacityInternal_d00df_t n T0 x3_5 M) (fun T_8 M_9 => ob (F_J5_isLatin1_aae02_t n T_8 M_9) (fun r_13 => (if r_13 = 0 then none else og (Fg_J6_getChars_ba4f3_t n T_8 x1 x3_5 M_9) (fun v_20 T_16 M_17 => lt' (up2 M_17 370 3 x3_5) (fun M_21 => some ((), T_16, M_21)))))))))
theorem hd_J5_append_c97b9 : yJ5_append_c97b9.cls ≠ "java/lang/invoke/MethodHandle" ∧ yJ5_append_c97b9.cls ≠ "java/lang/invoke/VarHandle" ∧ (parseMethodDescriptor yJ5_append_c97b9.desc).map (fun d => d.parameters.length) = some 1 := ⟨by decide +kernel, by decide +kernel, by decide +kernel⟩
set_option maxHeartbeats 4000000 in
set_option maxRecDepth 100000 in
theorem cg_J5_append_c97b9_t (l : Launch) (g : GG) (X : va_W) (r b : Nat → Nat) (sz n : Nat) (M : Mem) (T0 : Mem) (x1 : Int32)  {T' M' : Mem} (hf : Fg_J5_append_c97b9_t n T0 x1 M = some ((), T', M')) : Met l yJ5_append_c97b9 (.code yJ5_append_c97b9 cJ5_append_c97b9 4 (some (.object "java/lang/AbstractStringBuilder")) :: LWg) (rmD 4 1 80) (va_Pc [.ref (b 370), .int x1] (PreP g (xb g r T0 ++ X) 372 (shI g r b) b sz M)) (QgR g X (AA (xb g r T0 ++ X) b 372 sz) b sz (b 370) T' M') 1 80 (AA (xb g r T0 ++ X) b 372 sz) := by
  refine met_go (by decide +kernel) rfl (Nat.le_of_ble_eq_true rfl) ?_
  intro p e s m below meth c ls H locs C0 C1 hr hlocks hnm hsz hl hI
  subst hsz
  have hG := GX.go C1
  have hl : lv_has ls 4 [(0, .ref (b 370)), (1, .int x1)] := hl
  unfold Fg_J5_append_c97b9_t at hf
  refine lv_aload_n C0.1 C0.2.1 dJ5_append_c97b9_0 rfl (lv_at hl 0 rfl) ?_
  refine r_getA (C := RJ4) (T := TJ4) (N9 := 4) (ci := 1) C0 C1 hI iJ4 rfl 370 3 (kdlt13 (rfl : kdI 370 = 13)) (by decide) (shI_13 (rfl : kdI 370 = 13) _) rfl w_331 dJ5_append_c97b9_1 ?_
  refine lv_topi (fun x2_1 e_2 => ?_)
  have hf := lt_at e_2 hf
  refine lv_istore_n (lv' := [(2, .int x2_1), (0, .ref (b 370)), (1, .int x1)]) C0.1 C0.2.1 dJ5_append_c97b9_4 rfl hl (by decide) rfl (fun ls hl => ?_)
  refine lv_iload_n C0.1 C0.2.1 dJ5_append_c97b9_5 rfl (lv_at hl 0 rfl) ?_
  refine lv_iload_n C0.1 C0.2.1 dJ5_append_c97b9_6 rfl (lv_at hl 2 rfl) ?_
  obtain ⟨r_4, h_3, hf⟩ := ob_some hf
  refine k_i C1 hI (q_S C0 C1 hI (c_J6_stringSize_0f7a4 l g (xb g r T0 ++ X) r b H.size n M x1 h_3) w_1204 w_1205 w_98 w_1206 ⟨rfl, rfl⟩ hd_J6_stringSize_0f7a4 ⟨Nat.le_of_ble_eq_true rfl, Nat.le_of_ble_eq_true rfl⟩ rfl hl.1 rfl (Nat.le_of_ble_eq_true rfl) dJ5_append_c97b9_7 ⟨Nat.le_of_ble_eq_true rfl, Nat.le_of_ble_eq_true rfl⟩) (fun H locs hI => ?_)
  refine lv_iadd C0.1 C0.2.1 dJ5_append_c97b9_10 ?_
  refine lv_topi (fun x3_5 e_6 => ?_)
  have hf := lt_at e_6 hf
  refine lv_istore_n (lv' := [(3, .int x3_5), (2, .int x2_1), (0, .ref (b 370)), (1, .int x1)]) C0.1 C0.2.1 dJ5_append_c97b9_11 rfl hl (by decide) rfl (fun ls hl => ?_)
  refine lv_aload_n C0.1 C0.2.1 dJ5_append_c97b9_12 rfl (lv_at hl 2 rfl) ?_
  refine lv_iload_n C0.1 C0.2.1 dJ5_append_c97b9_13 rfl (lv_at hl 0 rfl) ?_
  obtain ⟨T_8, M_9, h_7, hf⟩ := ogu_some hf
  refine kg_v hG hI (q_U C0 C1 hI 370 (cg_J5_ensureCapacityInternal_d00df_t l g X r b H.size n M T0 x3_5 h_7) RJ4 w_974 w_1801 w_9001 w_976 w_80 w_977 ⟨rfl, rfl⟩ hd_J5_ensureCapacityInternal_d00df ⟨Nat.le_of_ble_eq_true rfl, Nat.le_of_ble_eq_true rfl⟩ (kdlt13 (rfl : kdI 370 = 13)) (shI_13 (rfl : kdI 370 = 13) _) rfl rfl rfl hl.1 rfl (Nat.le_of_ble_eq_true rfl) dJ5_append_c97b9_14 ⟨Nat.le_of_ble_eq_true rfl, Nat.le_of_ble_eq_true rfl⟩) (fun r_10 X_11 H locs hG hI => ?_)
  have C1 := hG.1
  refine lv_aload_n C0.1 C0.2.1 dJ5_append_c97b9_17 rfl (lv_at hl 2 rfl) ?_
  obtain ⟨r_13, h_12, hf⟩ := ob_some hf
  refine k_i C1 hI (q_U C0 C1 hI 370 (c_J5_isLatin1_aae02_t l g X_11 r_10 b H.size n M_9 T_8 h_12) RJ4 w_1007 w_1009 w_1010 w_1008 w_80 w_1011 ⟨rfl, rfl⟩ hd_J5_isLatin1_aae02 ⟨Nat.le_of_ble_eq_true rfl, Nat.le_of_ble_eq_true rfl⟩ (kdlt13 (rfl : kdI 370 = 13)) (shI_13 (rfl : kdI 370 = 13) _) rfl rfl rfl hl.1 rfl (Nat.le_of_ble_eq_true rfl) dJ5_append_c97b9_18 ⟨Nat.le_of_ble_eq_true rfl, Nat.le_of_ble_eq_true rfl⟩) (fun H locs hI => ?_)
  refine lv_if_eq (tgt := 37) C0.1 C0.2.1 dJ5_append_c97b9_21 (by decide) (fun c_14 => ?_) (fun c_14 => ?_)
  · have hf := (if_pos c_14).symm.trans hf
    exact nomatch hf
  · have hf := (if_neg c_14).symm.trans hf
    refine lv_iload_n C0.1 C0.2.1 dJ5_append_c97b9_24 rfl (lv_at hl 3 rfl) ?_
    refine lv_iload_n C0.1 C0.2.1 dJ5_append_c97b9_25 rfl (lv_at hl 0 rfl) ?_
    refine lv_aload_n C0.1 C0.2.1 dJ5_append_c97b9_26 rfl (lv_at hl 2 rfl) ?_
    refine r_getA (C := RJ4) (T := TJ4) (N9 := 4) (ci := 1) C0 C1 hI iJ4 rfl 370 0 (kdlt13 (rfl : kdI 370 = 13)) (by decide) (shI_13 (rfl : kdI 370 = 13) _) rfl w_327 dJ5_append_c97b9_27 ?_
    obtain ⟨v_20, T_16, M_17, h_15, hf⟩ := og_some hf
    refine kg_i hG hI (q_S C0 C1 hI (cg_J6_getChars_ba4f3_t l g X_11 r_10 b H.size n M_9 T_8 x1 x3_5 h_15) w_1207 w_1208 w_98 w_1209 ⟨rfl, rfl⟩ hd_J6_getChars_ba4f3 ⟨Nat.le_of_ble_eq_true rfl, Nat.le_of_ble_eq_true rfl⟩ rfl hl.1 rfl (Nat.le_of_ble_eq_true rfl) dJ5_append_c97b9_30 ⟨Nat.le_of_ble_eq_true rfl, Nat.le_of_ble_eq_true rfl⟩) (fun r_18 X_19 H locs hG hI => ?_)
    have C1 := hG.1
    refine lv_pop C0.1 C0.2.1 dJ5_append_c97b9_33 rfl ?_
    refine lv_goto (tgt := 48) C0.1 C0.2.1 dJ5_append_c97b9_34 (by decide) ?_
    refine lv_aload_n C0.1 C0.2.1 dJ5_append_c97b9_48 rfl (lv_at hl 2 rfl) ?_
    refine lv_iload_n C0.1 C0.2.1 dJ5_append_c97b9_49 rfl (lv_at hl 0 rfl) ?_
    refine r_putA (C := RJ4) (T := TJ4) (N9 := 4) (ci := 1) (fs := fS r_18 370) (ty := .int) C0 C1 hI iJ4 tyJ4 tyJ4_ok nmJ4 rfl 370 3 (kdlt13 (rfl : kdI 370 = 13)) (by decide) (shI_13 (rfl : kdI 370 = 13)) rfl rfl (by decide +kernel) ⟨rfl, rfl⟩ (Nat.le_of_ble_eq_true rfl) w_331 dJ5_append_c97b9_50 (fun H locs hI => ?_)
    obtain ⟨M_21, e_22⟩ : ∃ z : Mem, z = up2 M_17 370 3 x3_5 := ⟨_, rfl⟩
    rw [← e_22] at hI
    have hf := lt_at e_22 hf
    refine lv_aload_n C0.1 C0.2.1 dJ5_append_c97b9_53 rfl (lv_at hl 2 rfl) ?_
    exact eg_r C0 hG hI hr hlocks hf dJ5_append_c97b9_54

def Fg_J5_append_c97b9_l (n : Nat) (T0 : Mem) (x1 : Int32) (M : Mem) : Option (Unit × Mem × Mem) :=
  lt' (M 371 3) (fun x2_1 => ob (F_J6_stringSize_0f7a4 n x1 M) (fun r_4 => lt' (x2_1 + r_4) (fun x3_5 => ogu (Fg_J5_ensureCapacityInternal_d00df_l n T0 x3_5 M) (fun T_8 M_9 => ob (F_J5_isLatin1_aae02_l n T_8 M_9) (fun r_13 => (if r_13 = 0 then none else og (Fg_J6_getChars_ba4f3_l n T_8 x1 x3_5 M_9) (fun v_20 T_16 M_17 => lt' (up2 M_17 371 3 x3_5) (fun M_21 => some ((), T_16, M_21)))))))))
set_option maxHeartbeats 4000000 in
set_option maxRecDepth 100000 in
theorem cg_J5_append_c97b9_l (l : Launch) (g : GG) (X : va_W) (r b : Nat → Nat) (sz n : Nat) (M : Mem) (T0 : Mem) (x1 : Int32)  {T' M' : Mem} (hf : Fg_J5_append_c97b9_l n T0 x1 M = some ((), T', M')) : Met l yJ5_append_c97b9 (.code yJ5_append_c97b9 cJ5_append_c97b9 4 (some (.object "java/lang/AbstractStringBuilder")) :: LWg) (rmD 4 1 80) (va_Pc [.ref (b 371), .int x1] (PreP g (xb g r T0 ++ X) 372 (shI g r b) b sz M)) (QgR g X (AA (xb g r T0 ++ X) b 372 sz) b sz (b 371) T' M') 1 80 (AA (xb g r T0 ++ X) b 372 sz) := by
  refine met_go (by decide +kernel) rfl (Nat.le_of_ble_eq_true rfl) ?_
  intro p e s m below meth c ls H locs C0 C1 hr hlocks hnm hsz hl hI
  subst hsz
  have hG := GX.go C1
  have hl : lv_has ls 4 [(0, .ref (b 371)), (1, .int x1)] := hl
  unfold Fg_J5_append_c97b9_l at hf
  refine lv_aload_n C0.1 C0.2.1 dJ5_append_c97b9_0 rfl (lv_at hl 0 rfl) ?_
  refine r_getA (C := RJ4) (T := TJ4) (N9 := 4) (ci := 1) C0 C1 hI iJ4 rfl 371 3 (kdlt13 (rfl : kdI 371 = 13)) (by decide) (shI_13 (rfl : kdI 371 = 13) _) rfl w_331 dJ5_append_c97b9_1 ?_
  refine lv_topi (fun x2_1 e_2 => ?_)
  have hf := lt_at e_2 hf
  refine lv_istore_n (lv' := [(2, .int x2_1), (0, .ref (b 371)), (1, .int x1)]) C0.1 C0.2.1 dJ5_append_c97b9_4 rfl hl (by decide) rfl (fun ls hl => ?_)
  refine lv_iload_n C0.1 C0.2.1 dJ5_append_c97b9_5 rfl (lv_at hl 0 rfl) ?_
  refine lv_iload_n C0.1 C0.2.1 dJ5_append_c97b9_6 rfl (lv_at hl 2 rfl) ?_
  obtain ⟨r_4, h_3, hf⟩ := ob_some hf
  refine k_i C1 hI (q_S C0 C1 hI (c_J6_stringSize_0f7a4 l g (xb g r T0 ++ X) r b H.size n M x1 h_3) w_1204 w_1205 w_98 w_1206 ⟨rfl, rfl⟩ hd_J6_stringSize_0f7a4 ⟨Nat.le_of_ble_eq_true rfl, Nat.le_of_ble_eq_true rfl⟩ rfl hl.1 rfl (Nat.le_of_ble_eq_true rfl) dJ5_append_c97b9_7 ⟨Nat.le_of_ble_eq_true rfl, Nat.le_of_ble_eq_true rfl⟩) (fun H locs hI => ?_)
  refine lv_iadd C0.1 C0.2.1 dJ5_append_c97b9_10 ?_
  refine lv_topi (fun x3_5 e_6 => ?_)
  have hf := lt_at e_6 hf
  refine lv_istore_n (lv' := [(3, .int x3_5), (2, .int x2_1), (0, .ref (b 371)), (1, .int x1)]) C0.1 C0.2.1 dJ5_append_c97b9_11 rfl hl (by decide) rfl (fun ls hl => ?_)
  refine lv_aload_n C0.1 C0.2.1 dJ5_append_c97b9_12 rfl (lv_at hl 2 rfl) ?_
  refine lv_iload_n C0.1 C0.2.1 dJ5_append_c97b9_13 rfl (lv_at hl 0 rfl) ?_
  obtain ⟨T_8, M_9, h_7, hf⟩ := ogu_some hf
  refine kg_v hG hI (q_U C0 C1 hI 371 (cg_J5_ensureCapacityInternal_d00df_l l g X r b H.size n M T0 x3_5 h_7) RJ4 w_974 w_1801 w_9001 w_976 w_80 w_977 ⟨rfl, rfl⟩ hd_J5_ensureCapacityInternal_d00df ⟨Nat.le_of_ble_eq_true rfl, Nat.le_of_ble_eq_true rfl⟩ (kdlt13 (rfl : kdI 371 = 13)) (shI_13 (rfl : kdI 371 = 13) _) rfl rfl rfl hl.1 rfl (Nat.le_of_ble_eq_true rfl) dJ5_append_c97b9_14 ⟨Nat.le_of_ble_eq_true rfl, Nat.le_of_ble_eq_true rfl⟩) (fun r_10 X_11 H locs hG hI => ?_)
  have C1 := hG.1
  refine lv_aload_n C0.1 C0.2.1 dJ5_append_c97b9_17 rfl (lv_at hl 2 rfl) ?_
  obtain ⟨r_13, h_12, hf⟩ := ob_some hf
  refine k_i C1 hI (q_U C0 C1 hI 371 (c_J5_isLatin1_aae02_l l g X_11 r_10 b H.size n M_9 T_8 h_12) RJ4 w_1007 w_1009 w_1010 w_1008 w_80 w_1011 ⟨rfl, rfl⟩ hd_J5_isLatin1_aae02 ⟨Nat.le_of_ble_eq_true rfl, Nat.le_of_ble_eq_true rfl⟩ (kdlt13 (rfl : kdI 371 = 13)) (shI_13 (rfl : kdI 371 = 13) _) rfl rfl rfl hl.1 rfl (Nat.le_of_ble_eq_true rfl) dJ5_append_c97b9_18 ⟨Nat.le_of_ble_eq_true rfl, Nat.le_of_ble_eq_true rfl⟩) (fun H locs hI => ?_)
  refine lv_if_eq (tgt := 37) C0.1 C0.2.1 dJ5_append_c97b9_21 (by decide) (fun c_14 => ?_) (fun c_14 => ?_)
  · have hf := (if_pos c_14).symm.trans hf
    exact nomatch hf
  · have hf := (if_neg c_14).symm.trans hf
    refine lv_iload_n C0.1 C0.2.1 dJ5_append_c97b9_24 rfl (lv_at hl 3 rfl) ?_
    refine lv_iload_n C0.1 C0.2.1 dJ5_append_c97b9_25 rfl (lv_at hl 0 rfl) ?_
    refine lv_aload_n C0.1 C0.2.1 dJ5_append_c97b9_26 rfl (lv_at hl 2 rfl) ?_
    refine r_getA (C := RJ4) (T := TJ4) (N9 := 4) (ci := 1) C0 C1 hI iJ4 rfl 371 0 (kdlt13 (rfl : kdI 371 = 13)) (by decide) (shI_13 (rfl : kdI 371 = 13) _) rfl w_327 dJ5_append_c97b9_27 ?_
    obtain ⟨v_20, T_16, M_17, h_15, hf⟩ := og_some hf
    refine kg_i hG hI (q_S C0 C1 hI (cg_J6_getChars_ba4f3_l l g X_11 r_10 b H.size n M_9 T_8 x1 x3_5 h_15) w_1207 w_1208 w_98 w_1209 ⟨rfl, rfl⟩ hd_J6_getChars_ba4f3 ⟨Nat.le_of_ble_eq_true rfl, Nat.le_of_ble_eq_true rfl⟩ rfl hl.1 rfl (Nat.le_of_ble_eq_true rfl) dJ5_append_c97b9_30 ⟨Nat.le_of_ble_eq_true rfl, Nat.le_of_ble_eq_true rfl⟩) (fun r_18 X_19 H locs hG hI => ?_)
    have C1 := hG.1
    refine lv_pop C0.1 C0.2.1 dJ5_append_c97b9_33 rfl ?_
    refine lv_goto (tgt := 48) C0.1 C0.2.1 dJ5_append_c97b9_34 (by decide) ?_
    refine lv_aload_n C0.1 C0.2.1 dJ5_append_c97b9_48 rfl (lv_at hl 2 rfl) ?_
    refine lv_iload_n C0.1 C0.2.1 dJ5_append_c97b9_49 rfl (lv_at hl 0 rfl) ?_
    refine r_putA (C := RJ4) (T := TJ4) (N9 := 4) (ci := 1) (fs := fS r_18 371) (ty := .int) C0 C1 hI iJ4 tyJ4 tyJ4_ok nmJ4 rfl 371 3 (kdlt13 (rfl : kdI 371 = 13)) (by decide) (shI_13 (rfl : kdI 371 = 13)) rfl rfl (by decide +kernel) ⟨rfl, rfl⟩ (Nat.le_of_ble_eq_true rfl) w_331 dJ5_append_c97b9_50 (fun H locs hI => ?_)
    obtain ⟨M_21, e_22⟩ : ∃ z : Mem, z = up2 M_17 371 3 x3_5 := ⟨_, rfl⟩
    rw [← e_22] at hI
    have hf := lt_at e_22 hf
    refine lv_aload_n C0.1 C0.2.1 dJ5_append_c97b9_53 rfl (lv_at hl 2 rfl) ?_
    exact eg_r C0 hG hI hr hlocks hf dJ5_append_c97b9_54

def Fg_J4_append_cf468_t (n : Nat) (T0 : Mem) (x1 : Int32) (M : Mem) : Option (Unit × Mem × Mem) :=
  ogu (Fg_J5_append_3fe6f_t n T0 x1 M) (fun T_2 M_3 => some ((), T_2, M_3))
theorem hd_J4_append_cf468 : yJ4_append_cf468.cls ≠ "java/lang/invoke/MethodHandle" ∧ yJ4_append_cf468.cls ≠ "java/lang/invoke/VarHandle" ∧ (parseMethodDescriptor yJ4_append_cf468.desc).map (fun d => d.parameters.length) = some 1 := ⟨by decide +kernel, by decide +kernel, by decide +kernel⟩
set_option maxHeartbeats 4000000 in
set_option maxRecDepth 100000 in
theorem cg_J4_append_cf468_t (l : Launch) (g : GG) (X : va_W) (r b : Nat → Nat) (sz n : Nat) (M : Mem) (T0 : Mem) (x1 : Int32)  {T' M' : Mem} (hf : Fg_J4_append_cf468_t n T0 x1 M = some ((), T', M')) : Met l yJ4_append_cf468 (.code yJ4_append_cf468 cJ4_append_cf468 2 (some (.object "java/lang/StringBuilder")) :: LWg) (rmD 5 1 80) (va_Pc [.ref (b 370), .int x1] (PreP g (xb g r T0 ++ X) 372 (shI g r b) b sz M)) (QgR g X (AA (xb g r T0 ++ X) b 372 sz) b sz (b 370) T' M') 1 80 (AA (xb g r T0 ++ X) b 372 sz) := by
  refine met_go (by decide +kernel) rfl (Nat.le_of_ble_eq_true rfl) ?_
  intro p e s m below meth c ls H locs C0 C1 hr hlocks hnm hsz hl hI
  subst hsz
  have hG := GX.go C1
  have hl : lv_has ls 2 [(0, .ref (b 370)), (1, .int x1)] := hl
  unfold Fg_J4_append_cf468_t at hf
  refine lv_aload_n C0.1 C0.2.1 dJ4_append_cf468_0 rfl (lv_at hl 0 rfl) ?_
  refine lv_iload_n C0.1 C0.2.1 dJ4_append_cf468_1 rfl (lv_at hl 1 rfl) ?_
  obtain ⟨T_2, M_3, h_1, hf⟩ := ogu_some hf
  refine kg_r hG hI (q_SU C0 C1 hI 370 (cg_J5_append_3fe6f_t l g X r b H.size n M T0 x1 h_1) w_971 w_1800 w_340 w_972 w_80 w_973 ⟨rfl, rfl⟩ ⟨by decide, hd_J5_append_3fe6f.2.2⟩ ⟨Nat.le_of_ble_eq_true rfl, Nat.le_of_ble_eq_true rfl⟩ (kdlt13 (rfl : kdI 370 = 13)) (shI_13 (rfl : kdI 370 = 13) _) rfl rfl hl.1 rfl (Nat.le_of_ble_eq_true rfl) dJ4_append_cf468_2 ⟨Nat.le_of_ble_eq_true rfl, Nat.le_of_ble_eq_true rfl⟩) (fun r_4 X_5 H locs hG hI => ?_)
  have C1 := hG.1
  refine lv_pop C0.1 C0.2.1 dJ4_append_cf468_5 rfl ?_
  refine lv_aload_n C0.1 C0.2.1 dJ4_append_cf468_6 rfl (lv_at hl 0 rfl) ?_
  exact eg_r C0 hG hI hr hlocks hf dJ4_append_cf468_7

def Fg_J4_append_cf468_l (n : Nat) (T0 : Mem) (x1 : Int32) (M : Mem) : Option (Unit × Mem × Mem) :=
  ogu (Fg_J5_append_3fe6f_l n T0 x1 M) (fun T_2 M_3 => some ((), T_2, M_3))
set_option maxHeartbeats 4000000 in
set_option maxRecDepth 100000 in
theorem cg_J4_append_cf468_l (l : Launch) (g : GG) (X : va_W) (r b : Nat → Nat) (sz n : Nat) (M : Mem) (T0 : Mem) (x1 : Int32)  {T' M' : Mem} (hf : Fg_J4_append_cf468_l n T0 x1 M = some ((), T', M')) : Met l yJ4_append_cf468 (.code yJ4_append_cf468 cJ4_append_cf468 2 (some (.object "java/lang/StringBuilder")) :: LWg) (rmD 5 1 80) (va_Pc [.ref (b 371), .int x1] (PreP g (xb g r T0 ++ X) 372 (shI g r b) b sz M)) (QgR g X (AA (xb g r T0 ++ X) b 372 sz) b sz (b 371) T' M') 1 80 (AA (xb g r T0 ++ X) b 372 sz) := by
  refine met_go (by decide +kernel) rfl (Nat.le_of_ble_eq_true rfl) ?_
  intro p e s m below meth c ls H locs C0 C1 hr hlocks hnm hsz hl hI
  subst hsz
  have hG := GX.go C1
  have hl : lv_has ls 2 [(0, .ref (b 371)), (1, .int x1)] := hl
  unfold Fg_J4_append_cf468_l at hf
  refine lv_aload_n C0.1 C0.2.1 dJ4_append_cf468_0 rfl (lv_at hl 0 rfl) ?_
  refine lv_iload_n C0.1 C0.2.1 dJ4_append_cf468_1 rfl (lv_at hl 1 rfl) ?_
  obtain ⟨T_2, M_3, h_1, hf⟩ := ogu_some hf
  refine kg_r hG hI (q_SU C0 C1 hI 371 (cg_J5_append_3fe6f_l l g X r b H.size n M T0 x1 h_1) w_971 w_1800 w_340 w_972 w_80 w_973 ⟨rfl, rfl⟩ ⟨by decide, hd_J5_append_3fe6f.2.2⟩ ⟨Nat.le_of_ble_eq_true rfl, Nat.le_of_ble_eq_true rfl⟩ (kdlt13 (rfl : kdI 371 = 13)) (shI_13 (rfl : kdI 371 = 13) _) rfl rfl hl.1 rfl (Nat.le_of_ble_eq_true rfl) dJ4_append_cf468_2 ⟨Nat.le_of_ble_eq_true rfl, Nat.le_of_ble_eq_true rfl⟩) (fun r_4 X_5 H locs hG hI => ?_)
  have C1 := hG.1
  refine lv_pop C0.1 C0.2.1 dJ4_append_cf468_5 rfl ?_
  refine lv_aload_n C0.1 C0.2.1 dJ4_append_cf468_6 rfl (lv_at hl 0 rfl) ?_
  exact eg_r C0 hG hI hr hlocks hf dJ4_append_cf468_7

def Fg_J4_append_bf812_t (n : Nat) (T0 : Mem) (x1 : Int32) (M : Mem) : Option (Unit × Mem × Mem) :=
  ogu (Fg_J5_append_c97b9_t n T0 x1 M) (fun T_2 M_3 => some ((), T_2, M_3))
theorem hd_J4_append_bf812 : yJ4_append_bf812.cls ≠ "java/lang/invoke/MethodHandle" ∧ yJ4_append_bf812.cls ≠ "java/lang/invoke/VarHandle" ∧ (parseMethodDescriptor yJ4_append_bf812.desc).map (fun d => d.parameters.length) = some 1 := ⟨by decide +kernel, by decide +kernel, by decide +kernel⟩
set_option maxHeartbeats 4000000 in
set_option maxRecDepth 100000 in
theorem cg_J4_append_bf812_t (l : Launch) (g : GG) (X : va_W) (r b : Nat → Nat) (sz n : Nat) (M : Mem) (T0 : Mem) (x1 : Int32)  {T' M' : Mem} (hf : Fg_J4_append_bf812_t n T0 x1 M = some ((), T', M')) : Met l yJ4_append_bf812 (.code yJ4_append_bf812 cJ4_append_bf812 2 (some (.object "java/lang/StringBuilder")) :: LWg) (rmD 5 1 80) (va_Pc [.ref (b 370), .int x1] (PreP g (xb g r T0 ++ X) 372 (shI g r b) b sz M)) (QgR g X (AA (xb g r T0 ++ X) b 372 sz) b sz (b 370) T' M') 1 80 (AA (xb g r T0 ++ X) b 372 sz) := by
  refine met_go (by decide +kernel) rfl (Nat.le_of_ble_eq_true rfl) ?_
  intro p e s m below meth c ls H locs C0 C1 hr hlocks hnm hsz hl hI
  subst hsz
  have hG := GX.go C1
  have hl : lv_has ls 2 [(0, .ref (b 370)), (1, .int x1)] := hl
  unfold Fg_J4_append_bf812_t at hf
  refine lv_aload_n C0.1 C0.2.1 dJ4_append_bf812_0 rfl (lv_at hl 0 rfl) ?_
  refine lv_iload_n C0.1 C0.2.1 dJ4_append_bf812_1 rfl (lv_at hl 1 rfl) ?_
  obtain ⟨T_2, M_3, h_1, hf⟩ := ogu_some hf
  refine kg_r hG hI (q_SU C0 C1 hI 370 (cg_J5_append_c97b9_t l g X r b H.size n M T0 x1 h_1) w_1201 w_1810 w_340 w_1202 w_80 w_1203 ⟨rfl, rfl⟩ ⟨by decide, hd_J5_append_c97b9.2.2⟩ ⟨Nat.le_of_ble_eq_true rfl, Nat.le_of_ble_eq_true rfl⟩ (kdlt13 (rfl : kdI 370 = 13)) (shI_13 (rfl : kdI 370 = 13) _) rfl rfl hl.1 rfl (Nat.le_of_ble_eq_true rfl) dJ4_append_bf812_2 ⟨Nat.le_of_ble_eq_true rfl, Nat.le_of_ble_eq_true rfl⟩) (fun r_4 X_5 H locs hG hI => ?_)
  have C1 := hG.1
  refine lv_pop C0.1 C0.2.1 dJ4_append_bf812_5 rfl ?_
  refine lv_aload_n C0.1 C0.2.1 dJ4_append_bf812_6 rfl (lv_at hl 0 rfl) ?_
  exact eg_r C0 hG hI hr hlocks hf dJ4_append_bf812_7

def Fg_J4_append_bf812_l (n : Nat) (T0 : Mem) (x1 : Int32) (M : Mem) : Option (Unit × Mem × Mem) :=
  ogu (Fg_J5_append_c97b9_l n T0 x1 M) (fun T_2 M_3 => some ((), T_2, M_3))
set_option maxHeartbeats 4000000 in
set_option maxRecDepth 100000 in
theorem cg_J4_append_bf812_l (l : Launch) (g : GG) (X : va_W) (r b : Nat → Nat) (sz n : Nat) (M : Mem) (T0 : Mem) (x1 : Int32)  {T' M' : Mem} (hf : Fg_J4_append_bf812_l n T0 x1 M = some ((), T', M')) : Met l yJ4_append_bf812 (.code yJ4_append_bf812 cJ4_append_bf812 2 (some (.object "java/lang/StringBuilder")) :: LWg) (rmD 5 1 80) (va_Pc [.ref (b 371), .int x1] (PreP g (xb g r T0 ++ X) 372 (shI g r b) b sz M)) (QgR g X (AA (xb g r T0 ++ X) b 372 sz) b sz (b 371) T' M') 1 80 (AA (xb g r T0 ++ X) b 372 sz) := by
  refine met_go (by decide +kernel) rfl (Nat.le_of_ble_eq_true rfl) ?_
  intro p e s m below meth c ls H locs C0 C1 hr hlocks hnm hsz hl hI
  subst hsz
  have hG := GX.go C1
  have hl : lv_has ls 2 [(0, .ref (b 371)), (1, .int x1)] := hl
  unfold Fg_J4_append_bf812_l at hf
  refine lv_aload_n C0.1 C0.2.1 dJ4_append_bf812_0 rfl (lv_at hl 0 rfl) ?_
  refine lv_iload_n C0.1 C0.2.1 dJ4_append_bf812_1 rfl (lv_at hl 1 rfl) ?_
  obtain ⟨T_2, M_3, h_1, hf⟩ := ogu_some hf
  refine kg_r hG hI (q_SU C0 C1 hI 371 (cg_J5_append_c97b9_l l g X r b H.size n M T0 x1 h_1) w_1201 w_1810 w_340 w_1202 w_80 w_1203 ⟨rfl, rfl⟩ ⟨by decide, hd_J5_append_c97b9.2.2⟩ ⟨Nat.le_of_ble_eq_true rfl, Nat.le_of_ble_eq_true rfl⟩ (kdlt13 (rfl : kdI 371 = 13)) (shI_13 (rfl : kdI 371 = 13) _) rfl rfl hl.1 rfl (Nat.le_of_ble_eq_true rfl) dJ4_append_bf812_2 ⟨Nat.le_of_ble_eq_true rfl, Nat.le_of_ble_eq_true rfl⟩) (fun r_4 X_5 H locs hG hI => ?_)
  have C1 := hG.1
  refine lv_pop C0.1 C0.2.1 dJ4_append_bf812_5 rfl ?_
  refine lv_aload_n C0.1 C0.2.1 dJ4_append_bf812_6 rfl (lv_at hl 0 rfl) ?_
  exact eg_r C0 hG hI hr hlocks hf dJ4_append_bf812_7
