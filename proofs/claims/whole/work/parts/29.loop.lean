def SCall (n : Nat) (Rl : Nat → Mem → Mem → Mem → Prop) : Prop :=
  (∀ j T M Mm, j < 512 → Rl j T M Mm → Rl (j + 1) T M Mm) ∧ SC_addFrog n Rl ∧ SC_addPad n Rl ∧ SC_hop n Rl ∧ SC_dive n Rl ∧ SC_frogCount n Rl ∧ SC_pondOf n Rl ∧ SC_weightOf n Rl ∧ SC_padOf n Rl ∧ SC_padCount n Rl ∧ SC_frogsOn n Rl ∧ SC_padWeight n Rl ∧ SC_sittingCount n Rl ∧ SC_sittingCountBySet n Rl ∧ SC_addMotion n Rl ∧ SC_motionCount n Rl ∧ SC_isEntitled n Rl ∧ SC_signUp n Rl ∧ SC_strike n Rl ∧ SC_callNext n Rl ∧ SC_listLength n Rl ∧ SC_nextFrog n Rl ∧ SC_nextFrogByScan n Rl ∧ SC_frogsBefore n Rl ∧ SC_speeches n Rl ∧ SC_speechesOn n Rl ∧ SC_frogAtRank n Rl ∧ SC_supportClosure n Rl ∧ SC_isListClosed n Rl ∧ SC_closureWeight n Rl ∧ SC_entitledWeight n Rl ∧ SC_croak n Rl ∧ SC_decide n Rl ∧ SC_isDecided n Rl ∧ SC_isAdopted n Rl ∧ SC_croaksFor n Rl ∧ SC_croaksForByPonds n Rl ∧ SC_croaksAgainst n Rl ∧ SC_strongestFrog n Rl ∧ SC_shareFor n Rl ∧ SC_speechTotal n Rl ∧ SC_missedTotal n Rl ∧ SC_adoptedCount n Rl ∧ SC_append n Rl ∧ SC_run n Rl ∧ SC_errorPosition n Rl ∧ SC_failedCommand n Rl ∧ SC_describeList n Rl ∧ SC_lineAt n Rl ∧ SC_meanSittingWeight n Rl ∧ SC_isConsistent n Rl ∧ SC_undo n Rl ∧ SC_save n Rl ∧ SC_restore n Rl
theorem sub5 {L j : Nat} (hL : L ≤ 2560) (hj : j ≤ 512) (h : ¬ nI L - 5 < nI (5 * j)) : 5 * j + 5 ≤ L := by
  have h1 := Int32.not_lt.mp h
  have h2 := Int32.le_iff_toInt_le.mp h1
  have e5 : (5 : Int32) = nI 5 := rfl
  rw [e5, pk_sub_toInt (by omega) (by omega), nI_toInt (by omega)] at h2
  omega
theorem sub5' {L j : Nat} (hL : L ≤ 2560) (hj : j ≤ 512) (h : nI L - 5 < nI (5 * j)) : L < 5 * j + 5 := by
  have h2 := Int32.lt_iff_toInt_lt.mp h
  have e5 : (5 : Int32) = nI 5 := rfl
  rw [e5, pk_sub_toInt (by omega) (by omega), nI_toInt (by omega)] at h2
  omega
theorem in5 {L j : Nat} (hL : L ≤ 2560) (h : 5 * j + 5 ≤ L) : ∀ k : Int32, 0 ≤ k → k ≤ 4 → vp_in (nI (5 * j) + k) L := by
  intro k h0 h4
  obtain ⟨i, hi, rfl⟩ := nI_of2 (x := k) (M := 4) (n := 4) rfl (Int32.not_lt.mpr h0) h4
  rw [nI_add]
  exact vp_in_nI (by omega) (by omega)
set_option maxHeartbeats 8000000 in
theorem law_loop {p : Program} {l : Launch} (hl0 : l.stackTraces = false) {e : Env} {s : State} {m : MethodId} {args : Array Value} {below : List Frame} {meth : Method} {c : Code} {Q : State → Prop} (C0 : CallFix p m c code 9 s args LWg RL) {g : GG} (hC : CC g (AL s) s) {bs L : Nat} {xs : Nat → Int32} (hX : LX bs L xs s) (hL : L ≤ 2560) {b bm : Nat → Nat} {q1 q2 n : Nat} {Rl : Nat → Mem → Mem → Mem → Prop} (hS : SCall n Rl)
    (hend : ∀ (H : Heap) (locs : List Loc) (ls : Array Slot), va_S (AL s) s.heap H locs → W p l e room_1 s m args below meth c H locs 603072 7174250 Q (F0 m 2974 ls [])) :
    ∀ (k j : Nat), 512 ≤ j + k → j ≤ 512 → ∀ (r : Nat → Nat) (T M Mm : Mem) (o : Nat → Int64) (d : Nat → UInt64) (J : va_W) (H : Heap) (locs : List Loc) (ls : Array Slot), Rl j T M Mm → lv_has ls 9 [(5, .int (nI (5 * j))), (0, .ref bs), (1, .ref (b 0)), (2, .ref (bm 0)), (3, .ref q1), (4, .ref q2)] → KI g (AL s) s (LWc g r b bm q1 q2 T M Mm o d J) H locs →
      W p l e room_1 s m args below meth c H locs (386 + 40 * j) (8828 + 3200 * j) Q (F0 m 28 ls []) := by
  intro k
  induction k with
  | zero =>
    intro j hk hj r T M Mm o d J H locs ls hRl hl hI
    refine lv_iload C0.1 C0.2.1 dL_law_28 (lv_at hl 0 rfl) ?_
    refine lv_aload_n C0.1 C0.2.1 dL_law_30 rfl (lv_at hl 1 rfl) ?_
    refine l_len C0 hX hI dL_law_31 ?_
    refine lv_iconst (v := 5) C0.1 C0.2.1 dL_law_32 (by decide) ?_
    refine lv_isub C0.1 C0.2.1 dL_law_33 ?_
    refine lv_icmp_gt (tgt := 2974) C0.1 C0.2.1 dL_law_34 (by decide) (fun h => ?_) (fun h => ?_)
    · exact W.widen (k := 603072) (n := 7174250) (by omega) (by omega) (hend H locs ls hI.2.2)
    · exact absurd (sub5 hL hj h) (by omega)
  | succ k ih =>
    intro j hk hj r T M Mm o d J H locs ls hRl hl hI
    refine lv_iload C0.1 C0.2.1 dL_law_28 (lv_at hl 0 rfl) ?_
    refine lv_aload_n C0.1 C0.2.1 dL_law_30 rfl (lv_at hl 1 rfl) ?_
    refine l_len C0 hX hI dL_law_31 ?_
    refine lv_iconst (v := 5) C0.1 C0.2.1 dL_law_32 (by decide) ?_
    refine lv_isub C0.1 C0.2.1 dL_law_33 ?_
    refine lv_icmp_gt (tgt := 2974) C0.1 C0.2.1 dL_law_34 (by decide) (fun h => ?_) (fun h => ?_)
    · exact W.widen (k := 603072) (n := 7174250) (by omega) (by omega) (hend H locs ls hI.2.2)
    · have h5 := sub5 hL hj h
      have hj1 : j < 512 := by omega
      have hi := in5 hL h5
      have hk9 : ∀ (r : Nat → Nat) (T M Mm : Mem) (o : Nat → Int64) (d : Nat → UInt64) (J : va_W) (H : Heap) (locs : List Loc) (ls : Array Slot), Rl (j + 1) T M Mm → lv_has ls 9 [(5, .int (nI (5 * j))), (0, .ref bs), (1, .ref (b 0)), (2, .ref (bm 0)), (3, .ref q1), (4, .ref q2)] → KI g (AL s) s (LWc g r b bm q1 q2 T M Mm o d J) H locs → W p l e room_1 s m args below meth c H locs (386 + 40 * j + 40) (8828 + 3200 * j + 3200) Q (F0 m 2968 ls []) := by
        intro r T M Mm o d J H locs ls hRl hl hI
        refine lv_iinc (v := nI (5 * (j + 1))) (lv' := [(5, .int (nI (5 * (j + 1)))), (0, .ref bs), (1, .ref (b 0)), (2, .ref (bm 0)), (3, .ref q1), (4, .ref q2)]) C0.1 C0.2.1 dL_law_2968 hl (k := 0) rfl (by rw [show (nI (5 * (j + 1)) : Int32) = nI (5 * j) + nI 5 from by rw [nI_add]; rfl]; rfl) (by decide) rfl (fun ls hl => ?_)
        refine lv_goto (tgt := 28) C0.1 C0.2.1 dL_law_2971 (by decide) ?_
        have h9 := ih (j + 1) (by omega) (by omega) r T M Mm o d J H locs ls hRl hl hI
        rw [show 386 + 40 * (j + 1) = 386 + 40 * j + 40 by omega, show 8828 + 3200 * (j + 1) = 8828 + 3200 * j + 3200 by omega] at h9
        exact h9
      refine lv_aload_n C0.1 C0.2.1 dL_law_37 rfl (lv_at hl 1 rfl) ?_
      refine lv_iload C0.1 C0.2.1 dL_law_38 (lv_at hl 0 rfl) ?_
      refine l_xs C0 hX hI (vp_in_nI (by omega) (by omega)) dL_law_40 ?_
      refine lv_bipush (v := 63) C0.1 C0.2.1 dL_law_41 (by decide) ?_
      refine lv_iand C0.1 C0.2.1 dL_law_43 ?_
      refine lv_topi (fun z hz => ?_)
      by_cases c0 : z = 0
      · refine lv_tableIn (off := 228) (tgt := 272) C0.1 C0.2.1 dL_law_44 (by rw [c0]; decide) (by rw [c0]; decide) (by rw [c0]; rfl) (by decide) ?_
        exact law_addFrog hl0 C0 hC hX (by omega) (by omega) hi hj1 (hS.2.1) hRl hl hI hk9
      by_cases c1 : z = 1
      · refine lv_tableIn (off := 296) (tgt := 340) C0.1 C0.2.1 dL_law_44 (by rw [c1]; decide) (by rw [c1]; decide) (by rw [c1]; rfl) (by decide) ?_
        exact law_addPad hl0 C0 hC hX (by omega) (by omega) hi hj1 (hS.2.2.1) hRl hl hI hk9
      by_cases c2 : z = 2
      · refine lv_tableIn (off := 352) (tgt := 396) C0.1 C0.2.1 dL_law_44 (by rw [c2]; decide) (by rw [c2]; decide) (by rw [c2]; rfl) (by decide) ?_
        exact law_hop hl0 C0 hC hX (by omega) (by omega) hi hj1 (hS.2.2.2.1) hRl hl hI hk9
      by_cases c3 : z = 3
      · refine lv_tableIn (off := 420) (tgt := 464) C0.1 C0.2.1 dL_law_44 (by rw [c3]; decide) (by rw [c3]; decide) (by rw [c3]; rfl) (by decide) ?_
        exact law_dive hl0 C0 hC hX (by omega) (by omega) hi hj1 (hS.2.2.2.2.1) hRl hl hI hk9
      by_cases c4 : z = 4
      · refine lv_tableIn (off := 476) (tgt := 520) C0.1 C0.2.1 dL_law_44 (by rw [c4]; decide) (by rw [c4]; decide) (by rw [c4]; rfl) (by decide) ?_
        exact law_frogCount hl0 C0 hC hX (by omega) (by omega) hi hj1 (hS.2.2.2.2.2.1) hRl hl hI hk9
      by_cases c5 : z = 5
      · refine lv_tableIn (off := 489) (tgt := 533) C0.1 C0.2.1 dL_law_44 (by rw [c5]; decide) (by rw [c5]; decide) (by rw [c5]; rfl) (by decide) ?_
        exact law_pondOf hl0 C0 hC hX (by omega) (by omega) hi hj1 (hS.2.2.2.2.2.2.1) hRl hl hI hk9
      by_cases c6 : z = 6
      · refine lv_tableIn (off := 545) (tgt := 589) C0.1 C0.2.1 dL_law_44 (by rw [c6]; decide) (by rw [c6]; decide) (by rw [c6]; rfl) (by decide) ?_
        exact law_weightOf hl0 C0 hC hX (by omega) (by omega) hi hj1 (hS.2.2.2.2.2.2.2.1) hRl hl hI hk9
      by_cases c7 : z = 7
      · refine lv_tableIn (off := 601) (tgt := 645) C0.1 C0.2.1 dL_law_44 (by rw [c7]; decide) (by rw [c7]; decide) (by rw [c7]; rfl) (by decide) ?_
        exact law_padOf hl0 C0 hC hX (by omega) (by omega) hi hj1 (hS.2.2.2.2.2.2.2.2.1) hRl hl hI hk9
      by_cases c8 : z = 8
      · refine lv_tableIn (off := 657) (tgt := 701) C0.1 C0.2.1 dL_law_44 (by rw [c8]; decide) (by rw [c8]; decide) (by rw [c8]; rfl) (by decide) ?_
        exact law_padCount hl0 C0 hC hX (by omega) (by omega) hi hj1 (hS.2.2.2.2.2.2.2.2.2.1) hRl hl hI hk9
      by_cases c9 : z = 9
      · refine lv_tableIn (off := 670) (tgt := 714) C0.1 C0.2.1 dL_law_44 (by rw [c9]; decide) (by rw [c9]; decide) (by rw [c9]; rfl) (by decide) ?_
        exact law_frogsOn hl0 C0 hC hX (by omega) (by omega) hi hj1 (hS.2.2.2.2.2.2.2.2.2.2.1) hRl hl hI hk9
      by_cases c10 : z = 10
      · refine lv_tableIn (off := 726) (tgt := 770) C0.1 C0.2.1 dL_law_44 (by rw [c10]; decide) (by rw [c10]; decide) (by rw [c10]; rfl) (by decide) ?_
        exact law_padWeight hl0 C0 hC hX (by omega) (by omega) hi hj1 (hS.2.2.2.2.2.2.2.2.2.2.2.1) hRl hl hI hk9
      by_cases c11 : z = 11
      · refine lv_tableIn (off := 782) (tgt := 826) C0.1 C0.2.1 dL_law_44 (by rw [c11]; decide) (by rw [c11]; decide) (by rw [c11]; rfl) (by decide) ?_
        exact law_sittingCount hl0 C0 hC hX (by omega) (by omega) hi hj1 (hS.2.2.2.2.2.2.2.2.2.2.2.2.1) hRl hl hI hk9
      by_cases c12 : z = 12
      · refine lv_tableIn (off := 795) (tgt := 839) C0.1 C0.2.1 dL_law_44 (by rw [c12]; decide) (by rw [c12]; decide) (by rw [c12]; rfl) (by decide) ?_
        exact law_sittingCountBySet hl0 C0 hC hX (by omega) (by omega) hi hj1 (hS.2.2.2.2.2.2.2.2.2.2.2.2.2.1) hRl hl hI hk9
      by_cases c13 : z = 13
      · refine lv_tableIn (off := 808) (tgt := 852) C0.1 C0.2.1 dL_law_44 (by rw [c13]; decide) (by rw [c13]; decide) (by rw [c13]; rfl) (by decide) ?_
        exact law_addMotion hl0 C0 hC hX (by omega) (by omega) hi hj1 (hS.2.2.2.2.2.2.2.2.2.2.2.2.2.2.1) hRl hl hI hk9
      by_cases c14 : z = 14
      · refine lv_tableIn (off := 864) (tgt := 908) C0.1 C0.2.1 dL_law_44 (by rw [c14]; decide) (by rw [c14]; decide) (by rw [c14]; rfl) (by decide) ?_
        exact law_motionCount hl0 C0 hC hX (by omega) (by omega) hi hj1 (hS.2.2.2.2.2.2.2.2.2.2.2.2.2.2.2.1) hRl hl hI hk9
      by_cases c15 : z = 15
      · refine lv_tableIn (off := 877) (tgt := 921) C0.1 C0.2.1 dL_law_44 (by rw [c15]; decide) (by rw [c15]; decide) (by rw [c15]; rfl) (by decide) ?_
        exact law_isEntitled hl0 C0 hC hX (by omega) (by omega) hi hj1 (hS.2.2.2.2.2.2.2.2.2.2.2.2.2.2.2.2.1) hRl hl hI hk9
      by_cases c16 : z = 16
      · refine lv_tableIn (off := 952) (tgt := 996) C0.1 C0.2.1 dL_law_44 (by rw [c16]; decide) (by rw [c16]; decide) (by rw [c16]; rfl) (by decide) ?_
        exact law_signUp hl0 C0 hC hX (by omega) (by omega) hi hj1 (hS.2.2.2.2.2.2.2.2.2.2.2.2.2.2.2.2.2.1) hRl hl hI hk9
      by_cases c17 : z = 17
      · refine lv_tableIn (off := 1020) (tgt := 1064) C0.1 C0.2.1 dL_law_44 (by rw [c17]; decide) (by rw [c17]; decide) (by rw [c17]; rfl) (by decide) ?_
        exact law_strike hl0 C0 hC hX (by omega) (by omega) hi hj1 (hS.2.2.2.2.2.2.2.2.2.2.2.2.2.2.2.2.2.2.1) hRl hl hI hk9
      by_cases c18 : z = 18
      · refine lv_tableIn (off := 1088) (tgt := 1132) C0.1 C0.2.1 dL_law_44 (by rw [c18]; decide) (by rw [c18]; decide) (by rw [c18]; rfl) (by decide) ?_
        exact law_callNext hl0 C0 hC hX (by omega) (by omega) hi hj1 (hS.2.2.2.2.2.2.2.2.2.2.2.2.2.2.2.2.2.2.2.1) hRl hl hI hk9
      by_cases c19 : z = 19
      · refine lv_tableIn (off := 1151) (tgt := 1195) C0.1 C0.2.1 dL_law_44 (by rw [c19]; decide) (by rw [c19]; decide) (by rw [c19]; rfl) (by decide) ?_
        exact law_listLength hl0 C0 hC hX (by omega) (by omega) hi hj1 (hS.2.2.2.2.2.2.2.2.2.2.2.2.2.2.2.2.2.2.2.2.1) hRl hl hI hk9
      by_cases c20 : z = 20
      · refine lv_tableIn (off := 1207) (tgt := 1251) C0.1 C0.2.1 dL_law_44 (by rw [c20]; decide) (by rw [c20]; decide) (by rw [c20]; rfl) (by decide) ?_
        exact law_nextFrog hl0 C0 hC hX (by omega) (by omega) hi hj1 (hS.2.2.2.2.2.2.2.2.2.2.2.2.2.2.2.2.2.2.2.2.2.1) hRl hl hI hk9
      by_cases c21 : z = 21
      · refine lv_tableIn (off := 1263) (tgt := 1307) C0.1 C0.2.1 dL_law_44 (by rw [c21]; decide) (by rw [c21]; decide) (by rw [c21]; rfl) (by decide) ?_
        exact law_nextFrogByScan hl0 C0 hC hX (by omega) (by omega) hi hj1 (hS.2.2.2.2.2.2.2.2.2.2.2.2.2.2.2.2.2.2.2.2.2.2.1) hRl hl hI hk9
      by_cases c22 : z = 22
      · refine lv_tableIn (off := 1319) (tgt := 1363) C0.1 C0.2.1 dL_law_44 (by rw [c22]; decide) (by rw [c22]; decide) (by rw [c22]; rfl) (by decide) ?_
        exact law_frogsBefore hl0 C0 hC hX (by omega) (by omega) hi hj1 (hS.2.2.2.2.2.2.2.2.2.2.2.2.2.2.2.2.2.2.2.2.2.2.2.1) hRl hl hI hk9
      by_cases c23 : z = 23
      · refine lv_tableIn (off := 1387) (tgt := 1431) C0.1 C0.2.1 dL_law_44 (by rw [c23]; decide) (by rw [c23]; decide) (by rw [c23]; rfl) (by decide) ?_
        exact law_speeches hl0 C0 hC hX (by omega) (by omega) hi hj1 (hS.2.2.2.2.2.2.2.2.2.2.2.2.2.2.2.2.2.2.2.2.2.2.2.2.1) hRl hl hI hk9
      by_cases c24 : z = 24
      · refine lv_tableIn (off := 1443) (tgt := 1487) C0.1 C0.2.1 dL_law_44 (by rw [c24]; decide) (by rw [c24]; decide) (by rw [c24]; rfl) (by decide) ?_
        exact law_speechesOn hl0 C0 hC hX (by omega) (by omega) hi hj1 (hS.2.2.2.2.2.2.2.2.2.2.2.2.2.2.2.2.2.2.2.2.2.2.2.2.2.1) hRl hl hI hk9
      by_cases c25 : z = 25
      · refine lv_tableIn (off := 1499) (tgt := 1543) C0.1 C0.2.1 dL_law_44 (by rw [c25]; decide) (by rw [c25]; decide) (by rw [c25]; rfl) (by decide) ?_
        exact law_frogAtRank hl0 C0 hC hX (by omega) (by omega) hi hj1 (hS.2.2.2.2.2.2.2.2.2.2.2.2.2.2.2.2.2.2.2.2.2.2.2.2.2.2.1) hRl hl hI hk9
      by_cases c26 : z = 26
      · refine lv_tableIn (off := 1555) (tgt := 1599) C0.1 C0.2.1 dL_law_44 (by rw [c26]; decide) (by rw [c26]; decide) (by rw [c26]; rfl) (by decide) ?_
        exact law_supportClosure hl0 C0 hC hX (by omega) (by omega) hi hj1 (hS.2.2.2.2.2.2.2.2.2.2.2.2.2.2.2.2.2.2.2.2.2.2.2.2.2.2.2.1) hRl hl hI hk9
      by_cases c27 : z = 27
      · refine lv_tableIn (off := 1630) (tgt := 1674) C0.1 C0.2.1 dL_law_44 (by rw [c27]; decide) (by rw [c27]; decide) (by rw [c27]; rfl) (by decide) ?_
        exact law_isListClosed hl0 C0 hC hX (by omega) (by omega) hi hj1 (hS.2.2.2.2.2.2.2.2.2.2.2.2.2.2.2.2.2.2.2.2.2.2.2.2.2.2.2.2.1) hRl hl hI hk9
      by_cases c28 : z = 28
      · refine lv_tableIn (off := 1693) (tgt := 1737) C0.1 C0.2.1 dL_law_44 (by rw [c28]; decide) (by rw [c28]; decide) (by rw [c28]; rfl) (by decide) ?_
        exact law_closureWeight hl0 C0 hC hX (by omega) (by omega) hi hj1 (hS.2.2.2.2.2.2.2.2.2.2.2.2.2.2.2.2.2.2.2.2.2.2.2.2.2.2.2.2.2.1) hRl hl hI hk9
      by_cases c29 : z = 29
      · refine lv_tableIn (off := 1749) (tgt := 1793) C0.1 C0.2.1 dL_law_44 (by rw [c29]; decide) (by rw [c29]; decide) (by rw [c29]; rfl) (by decide) ?_
        exact law_entitledWeight hl0 C0 hC hX (by omega) (by omega) hi hj1 (hS.2.2.2.2.2.2.2.2.2.2.2.2.2.2.2.2.2.2.2.2.2.2.2.2.2.2.2.2.2.2.1) hRl hl hI hk9
      by_cases c30 : z = 30
      · refine lv_tableIn (off := 1805) (tgt := 1849) C0.1 C0.2.1 dL_law_44 (by rw [c30]; decide) (by rw [c30]; decide) (by rw [c30]; rfl) (by decide) ?_
        exact law_croak hl0 C0 hC hX (by omega) (by omega) hi hj1 (hS.2.2.2.2.2.2.2.2.2.2.2.2.2.2.2.2.2.2.2.2.2.2.2.2.2.2.2.2.2.2.2.1) hRl hl hI hk9
      by_cases c31 : z = 31
      · refine lv_tableIn (off := 1913) (tgt := 1957) C0.1 C0.2.1 dL_law_44 (by rw [c31]; decide) (by rw [c31]; decide) (by rw [c31]; rfl) (by decide) ?_
        exact law_decide hl0 C0 hC hX (by omega) (by omega) hi hj1 (hS.2.2.2.2.2.2.2.2.2.2.2.2.2.2.2.2.2.2.2.2.2.2.2.2.2.2.2.2.2.2.2.2.1) hRl hl hI hk9
      by_cases c32 : z = 32
      · refine lv_tableIn (off := 1976) (tgt := 2020) C0.1 C0.2.1 dL_law_44 (by rw [c32]; decide) (by rw [c32]; decide) (by rw [c32]; rfl) (by decide) ?_
        exact law_isDecided hl0 C0 hC hX (by omega) (by omega) hi hj1 (hS.2.2.2.2.2.2.2.2.2.2.2.2.2.2.2.2.2.2.2.2.2.2.2.2.2.2.2.2.2.2.2.2.2.1) hRl hl hI hk9
      by_cases c33 : z = 33
      · refine lv_tableIn (off := 2039) (tgt := 2083) C0.1 C0.2.1 dL_law_44 (by rw [c33]; decide) (by rw [c33]; decide) (by rw [c33]; rfl) (by decide) ?_
        exact law_isAdopted hl0 C0 hC hX (by omega) (by omega) hi hj1 (hS.2.2.2.2.2.2.2.2.2.2.2.2.2.2.2.2.2.2.2.2.2.2.2.2.2.2.2.2.2.2.2.2.2.2.1) hRl hl hI hk9
      by_cases c34 : z = 34
      · refine lv_tableIn (off := 2102) (tgt := 2146) C0.1 C0.2.1 dL_law_44 (by rw [c34]; decide) (by rw [c34]; decide) (by rw [c34]; rfl) (by decide) ?_
        exact law_croaksFor hl0 C0 hC hX (by omega) (by omega) hi hj1 (hS.2.2.2.2.2.2.2.2.2.2.2.2.2.2.2.2.2.2.2.2.2.2.2.2.2.2.2.2.2.2.2.2.2.2.2.1) hRl hl hI hk9
      by_cases c35 : z = 35
      · refine lv_tableIn (off := 2158) (tgt := 2202) C0.1 C0.2.1 dL_law_44 (by rw [c35]; decide) (by rw [c35]; decide) (by rw [c35]; rfl) (by decide) ?_
        exact law_croaksForByPonds hl0 C0 hC hX (by omega) (by omega) hi hj1 (hS.2.2.2.2.2.2.2.2.2.2.2.2.2.2.2.2.2.2.2.2.2.2.2.2.2.2.2.2.2.2.2.2.2.2.2.2.1) hRl hl hI hk9
      by_cases c36 : z = 36
      · refine lv_tableIn (off := 2214) (tgt := 2258) C0.1 C0.2.1 dL_law_44 (by rw [c36]; decide) (by rw [c36]; decide) (by rw [c36]; rfl) (by decide) ?_
        exact law_croaksAgainst hl0 C0 hC hX (by omega) (by omega) hi hj1 (hS.2.2.2.2.2.2.2.2.2.2.2.2.2.2.2.2.2.2.2.2.2.2.2.2.2.2.2.2.2.2.2.2.2.2.2.2.2.1) hRl hl hI hk9
      by_cases c37 : z = 37
      · refine lv_tableIn (off := 2270) (tgt := 2314) C0.1 C0.2.1 dL_law_44 (by rw [c37]; decide) (by rw [c37]; decide) (by rw [c37]; rfl) (by decide) ?_
        exact law_strongestFrog hl0 C0 hC hX (by omega) (by omega) hi hj1 (hS.2.2.2.2.2.2.2.2.2.2.2.2.2.2.2.2.2.2.2.2.2.2.2.2.2.2.2.2.2.2.2.2.2.2.2.2.2.2.1) hRl hl hI hk9
      by_cases c38 : z = 38
      · refine lv_tableIn (off := 2326) (tgt := 2370) C0.1 C0.2.1 dL_law_44 (by rw [c38]; decide) (by rw [c38]; decide) (by rw [c38]; rfl) (by decide) ?_
        exact law_shareFor hl0 C0 hC hX (by omega) (by omega) hi hj1 (hS.2.2.2.2.2.2.2.2.2.2.2.2.2.2.2.2.2.2.2.2.2.2.2.2.2.2.2.2.2.2.2.2.2.2.2.2.2.2.2.1) hRl hl hI hk9
      by_cases c39 : z = 39
      · refine lv_tableIn (off := 2404) (tgt := 2448) C0.1 C0.2.1 dL_law_44 (by rw [c39]; decide) (by rw [c39]; decide) (by rw [c39]; rfl) (by decide) ?_
        exact law_speechTotal hl0 C0 hC hX (by omega) (by omega) hi hj1 (hS.2.2.2.2.2.2.2.2.2.2.2.2.2.2.2.2.2.2.2.2.2.2.2.2.2.2.2.2.2.2.2.2.2.2.2.2.2.2.2.2.1) hRl hl hI hk9
      by_cases c40 : z = 40
      · refine lv_tableIn (off := 2417) (tgt := 2461) C0.1 C0.2.1 dL_law_44 (by rw [c40]; decide) (by rw [c40]; decide) (by rw [c40]; rfl) (by decide) ?_
        exact law_missedTotal hl0 C0 hC hX (by omega) (by omega) hi hj1 (hS.2.2.2.2.2.2.2.2.2.2.2.2.2.2.2.2.2.2.2.2.2.2.2.2.2.2.2.2.2.2.2.2.2.2.2.2.2.2.2.2.2.1) hRl hl hI hk9
      by_cases c41 : z = 41
      · refine lv_tableIn (off := 2430) (tgt := 2474) C0.1 C0.2.1 dL_law_44 (by rw [c41]; decide) (by rw [c41]; decide) (by rw [c41]; rfl) (by decide) ?_
        exact law_adoptedCount hl0 C0 hC hX (by omega) (by omega) hi hj1 (hS.2.2.2.2.2.2.2.2.2.2.2.2.2.2.2.2.2.2.2.2.2.2.2.2.2.2.2.2.2.2.2.2.2.2.2.2.2.2.2.2.2.2.1) hRl hl hI hk9
      by_cases c42 : z = 42
      · refine lv_tableIn (off := 2443) (tgt := 2487) C0.1 C0.2.1 dL_law_44 (by rw [c42]; decide) (by rw [c42]; decide) (by rw [c42]; rfl) (by decide) ?_
        exact law_append hl0 C0 hC hX (by omega) (by omega) hi hj1 (hS.2.2.2.2.2.2.2.2.2.2.2.2.2.2.2.2.2.2.2.2.2.2.2.2.2.2.2.2.2.2.2.2.2.2.2.2.2.2.2.2.2.2.2.1) hRl hl hI hk9
      by_cases c43 : z = 43
      · refine lv_tableIn (off := 2501) (tgt := 2545) C0.1 C0.2.1 dL_law_44 (by rw [c43]; decide) (by rw [c43]; decide) (by rw [c43]; rfl) (by decide) ?_
        exact law_run hl0 C0 hC hX (by omega) (by omega) hi hj1 (hS.2.2.2.2.2.2.2.2.2.2.2.2.2.2.2.2.2.2.2.2.2.2.2.2.2.2.2.2.2.2.2.2.2.2.2.2.2.2.2.2.2.2.2.2.1) hRl hl hI hk9
      by_cases c44 : z = 44
      · refine lv_tableIn (off := 2545) (tgt := 2589) C0.1 C0.2.1 dL_law_44 (by rw [c44]; decide) (by rw [c44]; decide) (by rw [c44]; rfl) (by decide) ?_
        exact law_errorPosition hl0 C0 hC hX (by omega) (by omega) hi hj1 (hS.2.2.2.2.2.2.2.2.2.2.2.2.2.2.2.2.2.2.2.2.2.2.2.2.2.2.2.2.2.2.2.2.2.2.2.2.2.2.2.2.2.2.2.2.2.1) hRl hl hI hk9
      by_cases c45 : z = 45
      · refine lv_tableIn (off := 2589) (tgt := 2633) C0.1 C0.2.1 dL_law_44 (by rw [c45]; decide) (by rw [c45]; decide) (by rw [c45]; rfl) (by decide) ?_
        exact law_failedCommand hl0 C0 hC hX (by omega) (by omega) hi hj1 (hS.2.2.2.2.2.2.2.2.2.2.2.2.2.2.2.2.2.2.2.2.2.2.2.2.2.2.2.2.2.2.2.2.2.2.2.2.2.2.2.2.2.2.2.2.2.2.1) hRl hl hI hk9
      by_cases c46 : z = 46
      · refine lv_tableIn (off := 2633) (tgt := 2677) C0.1 C0.2.1 dL_law_44 (by rw [c46]; decide) (by rw [c46]; decide) (by rw [c46]; rfl) (by decide) ?_
        exact law_describeList hl0 C0 hC hX (by omega) (by omega) hi hj1 (hS.2.2.2.2.2.2.2.2.2.2.2.2.2.2.2.2.2.2.2.2.2.2.2.2.2.2.2.2.2.2.2.2.2.2.2.2.2.2.2.2.2.2.2.2.2.2.2.1) hRl hl hI hk9
      by_cases c47 : z = 47
      · refine lv_tableIn (off := 2689) (tgt := 2733) C0.1 C0.2.1 dL_law_44 (by rw [c47]; decide) (by rw [c47]; decide) (by rw [c47]; rfl) (by decide) ?_
        exact law_lineAt hl0 C0 hC hX (by omega) (by omega) hi hj1 (hS.2.2.2.2.2.2.2.2.2.2.2.2.2.2.2.2.2.2.2.2.2.2.2.2.2.2.2.2.2.2.2.2.2.2.2.2.2.2.2.2.2.2.2.2.2.2.2.2.1) hRl hl hI hk9
      by_cases c48 : z = 48
      · refine lv_tableIn (off := 2745) (tgt := 2789) C0.1 C0.2.1 dL_law_44 (by rw [c48]; decide) (by rw [c48]; decide) (by rw [c48]; rfl) (by decide) ?_
        exact law_meanSittingWeight hl0 C0 hC hX (by omega) (by omega) hi hj1 (hS.2.2.2.2.2.2.2.2.2.2.2.2.2.2.2.2.2.2.2.2.2.2.2.2.2.2.2.2.2.2.2.2.2.2.2.2.2.2.2.2.2.2.2.2.2.2.2.2.2.1) hRl hl hI hk9
      by_cases c49 : z = 49
      · refine lv_tableIn (off := 2810) (tgt := 2854) C0.1 C0.2.1 dL_law_44 (by rw [c49]; decide) (by rw [c49]; decide) (by rw [c49]; rfl) (by decide) ?_
        exact law_isConsistent hl0 C0 hC hX (by omega) (by omega) hi hj1 (hS.2.2.2.2.2.2.2.2.2.2.2.2.2.2.2.2.2.2.2.2.2.2.2.2.2.2.2.2.2.2.2.2.2.2.2.2.2.2.2.2.2.2.2.2.2.2.2.2.2.2.1) hRl hl hI hk9
      by_cases c50 : z = 50
      · refine lv_tableIn (off := 2823) (tgt := 2867) C0.1 C0.2.1 dL_law_44 (by rw [c50]; decide) (by rw [c50]; decide) (by rw [c50]; rfl) (by decide) ?_
        exact law_undo hl0 C0 hC hX (by omega) (by omega) hi hj1 (hS.2.2.2.2.2.2.2.2.2.2.2.2.2.2.2.2.2.2.2.2.2.2.2.2.2.2.2.2.2.2.2.2.2.2.2.2.2.2.2.2.2.2.2.2.2.2.2.2.2.2.2.1) hRl hl hI hk9
      by_cases c51 : z = 51
      · refine lv_tableIn (off := 2867) (tgt := 2911) C0.1 C0.2.1 dL_law_44 (by rw [c51]; decide) (by rw [c51]; decide) (by rw [c51]; rfl) (by decide) ?_
        exact law_save hl0 C0 hC hX (by omega) (by omega) hi hj1 (hS.2.2.2.2.2.2.2.2.2.2.2.2.2.2.2.2.2.2.2.2.2.2.2.2.2.2.2.2.2.2.2.2.2.2.2.2.2.2.2.2.2.2.2.2.2.2.2.2.2.2.2.2.1) hRl hl hI hk9
      by_cases c52 : z = 52
      · refine lv_tableIn (off := 2880) (tgt := 2924) C0.1 C0.2.1 dL_law_44 (by rw [c52]; decide) (by rw [c52]; decide) (by rw [c52]; rfl) (by decide) ?_
        exact law_restore hl0 C0 hC hX (by omega) (by omega) hi hj1 (hS.2.2.2.2.2.2.2.2.2.2.2.2.2.2.2.2.2.2.2.2.2.2.2.2.2.2.2.2.2.2.2.2.2.2.2.2.2.2.2.2.2.2.2.2.2.2.2.2.2.2.2.2.2) hRl hl hI hk9
      have c0 := lv_neT c0 (show (0 : Int32).toInt = 0 from rfl)
      have c1 := lv_neT c1 (show (1 : Int32).toInt = 1 from rfl)
      have c2 := lv_neT c2 (show (2 : Int32).toInt = 2 from rfl)
      have c3 := lv_neT c3 (show (3 : Int32).toInt = 3 from rfl)
      have c4 := lv_neT c4 (show (4 : Int32).toInt = 4 from rfl)
      have c5 := lv_neT c5 (show (5 : Int32).toInt = 5 from rfl)
      have c6 := lv_neT c6 (show (6 : Int32).toInt = 6 from rfl)
      have c7 := lv_neT c7 (show (7 : Int32).toInt = 7 from rfl)
      have c8 := lv_neT c8 (show (8 : Int32).toInt = 8 from rfl)
      have c9 := lv_neT c9 (show (9 : Int32).toInt = 9 from rfl)
      have c10 := lv_neT c10 (show (10 : Int32).toInt = 10 from rfl)
      have c11 := lv_neT c11 (show (11 : Int32).toInt = 11 from rfl)
      have c12 := lv_neT c12 (show (12 : Int32).toInt = 12 from rfl)
      have c13 := lv_neT c13 (show (13 : Int32).toInt = 13 from rfl)
      have c14 := lv_neT c14 (show (14 : Int32).toInt = 14 from rfl)
      have c15 := lv_neT c15 (show (15 : Int32).toInt = 15 from rfl)
      have c16 := lv_neT c16 (show (16 : Int32).toInt = 16 from rfl)
      have c17 := lv_neT c17 (show (17 : Int32).toInt = 17 from rfl)
      have c18 := lv_neT c18 (show (18 : Int32).toInt = 18 from rfl)
      have c19 := lv_neT c19 (show (19 : Int32).toInt = 19 from rfl)
      have c20 := lv_neT c20 (show (20 : Int32).toInt = 20 from rfl)
      have c21 := lv_neT c21 (show (21 : Int32).toInt = 21 from rfl)
      have c22 := lv_neT c22 (show (22 : Int32).toInt = 22 from rfl)
      have c23 := lv_neT c23 (show (23 : Int32).toInt = 23 from rfl)
      have c24 := lv_neT c24 (show (24 : Int32).toInt = 24 from rfl)
      have c25 := lv_neT c25 (show (25 : Int32).toInt = 25 from rfl)
      have c26 := lv_neT c26 (show (26 : Int32).toInt = 26 from rfl)
      have c27 := lv_neT c27 (show (27 : Int32).toInt = 27 from rfl)
      have c28 := lv_neT c28 (show (28 : Int32).toInt = 28 from rfl)
      have c29 := lv_neT c29 (show (29 : Int32).toInt = 29 from rfl)
      have c30 := lv_neT c30 (show (30 : Int32).toInt = 30 from rfl)
      have c31 := lv_neT c31 (show (31 : Int32).toInt = 31 from rfl)
      have c32 := lv_neT c32 (show (32 : Int32).toInt = 32 from rfl)
      have c33 := lv_neT c33 (show (33 : Int32).toInt = 33 from rfl)
      have c34 := lv_neT c34 (show (34 : Int32).toInt = 34 from rfl)
      have c35 := lv_neT c35 (show (35 : Int32).toInt = 35 from rfl)
      have c36 := lv_neT c36 (show (36 : Int32).toInt = 36 from rfl)
      have c37 := lv_neT c37 (show (37 : Int32).toInt = 37 from rfl)
      have c38 := lv_neT c38 (show (38 : Int32).toInt = 38 from rfl)
      have c39 := lv_neT c39 (show (39 : Int32).toInt = 39 from rfl)
      have c40 := lv_neT c40 (show (40 : Int32).toInt = 40 from rfl)
      have c41 := lv_neT c41 (show (41 : Int32).toInt = 41 from rfl)
      have c42 := lv_neT c42 (show (42 : Int32).toInt = 42 from rfl)
      have c43 := lv_neT c43 (show (43 : Int32).toInt = 43 from rfl)
      have c44 := lv_neT c44 (show (44 : Int32).toInt = 44 from rfl)
      have c45 := lv_neT c45 (show (45 : Int32).toInt = 45 from rfl)
      have c46 := lv_neT c46 (show (46 : Int32).toInt = 46 from rfl)
      have c47 := lv_neT c47 (show (47 : Int32).toInt = 47 from rfl)
      have c48 := lv_neT c48 (show (48 : Int32).toInt = 48 from rfl)
      have c49 := lv_neT c49 (show (49 : Int32).toInt = 49 from rfl)
      have c50 := lv_neT c50 (show (50 : Int32).toInt = 50 from rfl)
      have c51 := lv_neT c51 (show (51 : Int32).toInt = 51 from rfl)
      have c52 := lv_neT c52 (show (52 : Int32).toInt = 52 from rfl)
      refine lv_tableOut (tgt := 2968) C0.1 C0.2.1 dL_law_44 (by omega) (by decide) ?_
      exact W.widen (by omega) (by omega) (hk9 r T M Mm o d J H locs ls (hS.1 _ _ _ _ hj1 hRl) hl hI)
