/-! ===== the start: what the law is given ===== -/
def flA : Cond → List Cond → List Cond
  | .and a b, acc => flA a (flA b acc)
  | c, acc => c :: acc
theorem flA_eq (T : Cond) : ∀ acc, flA T acc = flatC T ++ acc := by
  induction T with
  | and a b iha ihb => intro acc; simp only [flA, flatC, iha, ihb, List.append_assoc]
  | _ => intro acc; rfl
abbrev gB : Cond := Jvm.Cond.and given_1 narrow_1
theorem nb_list {α : Type} {args : Array Value} {s : State} (h : gB.before args s = true) {L : List α} {f : α → Cond} (idx : List Nat) (e : L.map (fun q => some (f q)) = idx.map (fun i => (flA gB [])[i]?)) : ∀ q ∈ L, (f q).before args s = true := by
  intro q hq
  have h1 : some (f q) ∈ L.map (fun q => some (f q)) := List.mem_map.mpr ⟨q, hq, rfl⟩
  rw [e] at h1
  obtain ⟨i, _, hi⟩ := List.mem_map.mp h1
  have h2 : f q ∈ flA gB [] := List.mem_of_getElem? hi
  rw [flA_eq, List.append_nil] at h2
  exact flat_of_before _ h _ h2
theorem tb_list {α : Type} {L : List α} {f : α → Cond} (idx : List Nat) (e : L.map (fun q => some (f q)) = idx.map (fun i => tables_1[i]?)) : ∀ q ∈ L, f q ∈ tables_1 := by
  intro q hq
  have h1 : some (f q) ∈ L.map (fun q => some (f q)) := List.mem_map.mpr ⟨q, hq, rfl⟩
  rw [e] at h1
  obtain ⟨i, _, hi⟩ := List.mem_map.mp h1
  exact List.mem_of_getElem? hi
theorem lt_in {n i : Nat} (h : i < n) : i ∈ List.range n := List.mem_range.mpr h
theorem ne_ctx {args : Array Value} {s : State} {t u : Term} {a b : Nat} (F : Term → Term) (hF : t.eval args s none [] s = u.eval args s none [] s → (F t).eval args s none [] s = (F u).eval args s none [] s) {z w : Int32} (h1 : (Cond.eq (F t) (.int z)).before args s = true) (h2 : (Cond.eq (F u) (.int w)).before args s = true) (hzw : z ≠ w) (ht : t.eval args s none [] s = some (.ref a)) (hu : u.eval args s none [] s = some (.ref b)) : (Cond.not (.eq t u)).before args s = true := by
  have hab : a ≠ b := by
    intro e
    subst e
    have e1 := va_eqv h1 (show (Term.int z).eval args s none [] s = some (.int z) from rfl)
    have e2 := va_eqv h2 (show (Term.int w).eval args s none [] s = some (.int w) from rfl)
    rw [hF (ht.trans hu.symm), e2] at e1
    injection e1 with e1
    injection e1 with e1
    exact hzw e1.symm
  simp [Cond.before, Cond.holds, Cond.value, ht, hu, hab]
theorem ctx_f {args : Array Value} {s : State} {t u : Term} {o n d : String} (e : t.eval args s none [] s = u.eval args s none [] s) : (Term.field t o n d).eval args s none [] s = (Term.field u o n d).eval args s none [] s := by simp only [Term.eval, e]
theorem ctx_l {args : Array Value} {s : State} {t u : Term} (e : t.eval args s none [] s = u.eval args s none [] s) : (Term.length t).eval args s none [] s = (Term.length u).eval args s none [] s := by simp only [Term.eval, e]
theorem ctx_e {args : Array Value} {s : State} {t u w : Term} (e : t.eval args s none [] s = u.eval args s none [] s) : (Term.elem t w).eval args s none [] s = (Term.elem u w).eval args s none [] s := by simp only [Term.eval, e]
theorem ex_ref {args : Array Value} {s : State} {t : Term} {C : String} (h : (Cond.exactly t C).before args s = true) : ∃ a, t.eval args s none [] s = some (.ref a) := by
  obtain ⟨a, c, cell, k, q, _⟩ := Cond.exactly_spec h
  exact ⟨a, q⟩
theorem sel_sub {C : String} {y z : MethodName} {s : State} {args : Array Value} (hy : y.cls ≠ "java/lang/invoke/MethodHandle" ∧ y.cls ≠ "java/lang/invoke/VarHandle") (hyz : z.cls = y.cls)
    (hsel : (Cond.selects C z z).before args s = true) (hpriv : (Cond.privateMethod y).before args s = true) (hinst : (Cond.instanceMethod y).before args s = true) : (Cond.selects C y y).before args s = true := by
  obtain ⟨c, r, mz, hc, _, hnz, _, mk, hmk, hni⟩ := Cond.selects_spec hsel
  obtain ⟨my, methM, hnamed, hmethM, -, -⟩ := Cond.instanceMethod_spec hinst
  have hfound : s.methodFound? y.cls y.name y.desc = some my := State.methodFound?_of_named hnamed hy
  have hcls : mz.cls = my.cls := by
    have e1 := findClass_of_methodNamed hnz
    have e2 := findClass_of_methodNamed hnamed
    rw [hyz] at e1
    exact Option.some.inj (e1.symm.trans e2)
  rw [hcls] at hmk
  have hsel : selectMethod {} s.vm c my = .method my := selectMethod_private hmethM (Cond.privateMethod_at hpriv my methM hnamed hmethM)
  simp only [Cond.before, Cond.holds, Cond.value, hc, hfound, hnamed, hsel, hmk]
  simp; exact hni
theorem tl_in {w : Cond} (h : w ∈ tables_1) : w ∈ lw_tbl := List.mem_append_right _ h
theorem arr_obj {C : String} {args : Array Value} {s : State} (h : (Cond.arrayOver (.object C)).before args s = true) : ∃ c, ArrOfT s c (.object C) ∧ va_RA s c (.object C) := by
  obtain ⟨comp, c, k, f1, f2, f3, f4, f5⟩ := Cond.arrayOver_spec h
  exact ⟨c, fun n z => ⟨fun k h => (by cases h), k, f3, comp, f4⟩, k, comp, f3, f4, f1, f5⟩
theorem arr_int {args : Array Value} {s : State} (h : (Cond.arrayClass .int).before args s = true) : ∃ c, ArrOfT s c .int ∧ va_RA s c .int := by
  obtain ⟨c, k, comp, h1, h2, h3⟩ := Cond.arrayClass_spec h
  exact ⟨c, fun n z => ⟨fun k h => (by cases h), k, h2, comp, h3⟩, h1⟩
theorem arr_byte {args : Array Value} {s : State} (h : (Cond.arrayClass .byte).before args s = true) : ∃ c, ArrOfT s c .byte ∧ va_RA s c .byte := by
  obtain ⟨c, k, comp, h1, h2, h3⟩ := Cond.arrayClass_spec h
  exact ⟨c, fun n z => ⟨fun k h => (by cases h), k, h2, comp, h3⟩, h1⟩
theorem arr_long {args : Array Value} {s : State} (h : (Cond.arrayClass .long).before args s = true) : ∃ c, ArrOfT s c .long ∧ va_RA s c .long := by
  obtain ⟨c, k, comp, h1, h2, h3⟩ := Cond.arrayClass_spec h
  exact ⟨c, fun n z => ⟨fun k h => (by cases h), k, h2, comp, h3⟩, h1⟩
theorem arr_double {args : Array Value} {s : State} (h : (Cond.arrayClass .double).before args s = true) : ∃ c, ArrOfT s c .double ∧ va_RA s c .double := by
  obtain ⟨c, k, comp, h1, h2, h3⟩ := Cond.arrayClass_spec h
  exact ⟨c, fun n z => ⟨fun k h => (by cases h), k, h2, comp, h3⟩, h1⟩
theorem tb_nestM : ∀ q ∈ (nestM), (Cond.methodLinkNest q.1 q.2.1 q.2.2.1 q.2.2.2) ∈ tables_1 := tb_list (L := nestM) (f := fun q => Cond.methodLinkNest q.1 q.2.1 q.2.2.1 q.2.2.2) [46, 53, 166, 172, 186, 199, 206, 318, 367, 545, 558, 562, 566, 578, 590, 602, 606, 616, 623, 658, 668, 672, 673, 684, 690, 701, 722, 733, 743, 758, 775, 787, 796, 797, 808, 814, 825, 829, 841, 857, 863, 867, 878, 884, 888, 899, 923, 924, 943, 959, 965, 995, 1003, 1017, 1023, 1027, 1031, 1039, 1040, 1220, 1283, 1467, 1486, 1551, 1563] (by decide +kernel)
theorem tb_nestF : ∀ q ∈ (nestF), (Cond.fieldLinkNest q.1 q.2.1 q.2.2.1 q.2.2.2.1 q.2.2.2.2.1 q.2.2.2.2.2) ∈ tables_1 := tb_list (L := nestF) (f := fun q => Cond.fieldLinkNest q.1 q.2.1 q.2.2.1 q.2.2.2.1 q.2.2.2.2.1 q.2.2.2.2.2) [58, 60, 61, 63, 64, 66, 67, 69, 70, 72, 73, 75, 76, 78, 79, 82, 83, 85, 86, 88, 89, 117, 119, 121, 123, 125, 127, 129, 132, 134, 136, 138, 176, 213, 214, 216, 218, 227, 229, 231, 2098] (by decide +kernel)
theorem tb_cast : ∀ q ∈ (castL), (Cond.castable q.1 q.2) ∈ tables_1 := tb_list (L := castL) (f := fun q => Cond.castable q.1 q.2) [388, 463, 483, 509, 526, 643, 1096, 1154, 2074, 2075] (by decide +kernel)
theorem tb_ao : ∀ q ∈ (aoL), (Cond.arrayOver (.object q)) ∈ tables_1 := tb_list (L := aoL) (f := fun q => Cond.arrayOver (.object q)) [51, 171, 204] (by decide +kernel)
theorem tb_dec : ∀ q ∈ (decL), (Cond.declares q) ∈ tables_1 := tb_list (L := decL) (f := fun q => Cond.declares q) [382, 389, 390, 391, 392, 393, 394, 644, 645] (by decide +kernel)
theorem tb_str : ∀ q ∈ (strL), (Cond.stringRef q.1 q.2.1 q.2.2) ∈ tables_1 := tb_list (L := strL) (f := fun q => Cond.stringRef q.1 q.2.1 q.2.2) [432, 458, 459, 460, 470, 477, 478, 479, 480, 490, 497, 498, 499, 500, 501, 502, 503, 516, 523, 533, 540, 951, 1080, 1111, 1119, 1462, 1501, 1509, 1517, 1533, 1542, 1550, 1562, 2099, 2110, 2111, 2112, 2113, 2114, 2115, 2116, 2117, 2118, 2119] (by decide +kernel)
theorem nb_ncast {args : Array Value} {s : State} (h : gB.before args s = true) : ∀ q ∈ (ncastL), (Cond.not (.castable q.1 q.2)).before args s = true := nb_list (L := ncastL) (f := fun q => Cond.not (.castable q.1 q.2)) h [374, 375, 376, 377, 378, 392, 393, 394, 395, 396, 411, 412, 413, 414, 415, 430, 431, 432, 433, 434, 449, 450, 451, 452, 453, 468, 469, 470, 471, 472] (by decide +kernel)
theorem nb_str {args : Array Value} {s : State} (h : gB.before args s = true) : ∀ q ∈ (strL), (Cond.exactly (.string q.1 q.2.1) "java/lang/String").before args s = true := nb_list (L := strL) (f := fun q => Cond.exactly (.string q.1 q.2.1) "java/lang/String") h [535, 560, 585, 609, 636, 669, 704, 736, 771, 813, 850, 879, 898, 932, 957, 993, 1033, 1058, 1085, 1123, 1154, 1180, 1205, 1242, 1293, 1434, 1468, 1487, 1516, 1541, 1571, 1596, 1626, 1650, 1661, 1670, 1681, 1691, 1703, 1715, 1729, 1739, 1750, 1765] (by decide +kernel)
theorem tb_lsR : ∀ q ∈ (List.range 23), (Cond.laysStatic RX7 (nmR.getD q "") "LFrogParliament$Refusal;") ∈ tables_1 := tb_list (L := List.range 23) (f := fun q => Cond.laysStatic RX7 (nmR.getD q "") "LFrogParliament$Refusal;") [372, 663, 710, 716, 374, 665, 689, 813, 1008, 852, 667, 718, 721, 742, 854, 856, 1014, 1016, 862, 964, 1022, 883, 553] (by decide +kernel)
theorem nb_exR {args : Array Value} {s : State} (h : gB.before args s = true) : ∀ q ∈ (List.range 23), (Cond.exactly (.static RX7 (nmR.getD q "") "LFrogParliament$Refusal;") RX7).before args s = true := nb_list (L := List.range 23) (f := fun q => Cond.exactly (.static RX7 (nmR.getD q "") "LFrogParliament$Refusal;") RX7) h [8, 43, 51, 53, 11, 45, 49, 61, 75, 63, 47, 55, 57, 59, 65, 67, 77, 79, 69, 73, 81, 71, 41] (by decide +kernel)
def ordR : List Int32 := [0, 1, 2, 3, 4, 5, 6, 7, 8, 9, 10, 11, 12, 13, 14, 15, 16, 17, 18, 19, 20, 21, 22]
theorem nb_orR {args : Array Value} {s : State} (h : gB.before args s = true) : ∀ q ∈ (List.range 23), (Cond.eq (.field (.static RX7 (nmR.getD q "") "LFrogParliament$Refusal;") "java/lang/Enum" "ordinal" "I") (.int (ordR.getD q 0))).before args s = true := nb_list (L := List.range 23) (f := fun q => Cond.eq (.field (.static RX7 (nmR.getD q "") "LFrogParliament$Refusal;") "java/lang/Enum" "ordinal" "I") (.int (ordR.getD q 0))) h [9, 44, 52, 54, 12, 46, 50, 62, 76, 64, 48, 56, 58, 60, 66, 68, 78, 80, 70, 74, 82, 72, 42] (by decide +kernel)
theorem tb_inR : ∀ q ∈ ([()]), ((fun _ => Cond.initialized RX7) q) ∈ tables_1 := tb_list (L := [()]) (f := fun q => (fun _ => Cond.initialized RX7) q) [20] (by decide +kernel)
theorem st_EnR {args : Array Value} {s : State} (hts : ∀ w ∈ lw_tbl, w.before args s = true) (h : gB.before args s = true) : ∃ ad : Nat → Nat, va_En RX7 "LFrogParliament$Refusal;" nmR [("java/lang/Enum", "ordinal", "I", ordR)] ad (AL s) s s.heap ∧ ∀ i, i < 23 → (Term.static RX7 (nmR.getD i "") "LFrogParliament$Refusal;").eval args s none [] s = some (.ref (ad i)) := by
  refine va_Enof2 (fun i hi => hts _ (tl_in (tb_lsR i (lt_in hi)))) (hts _ (tl_in (tb_inR () List.mem_cons_self))) (fun i hi => nb_exR h i (lt_in hi)) (fun q hq i hi => ?_) (fun i j hi hj hij => .inl ?_) (fun a ha => Nat.not_le.mpr ha)
  · rw [List.mem_singleton.mp hq]
    exact nb_orR h i (lt_in hi)
  · obtain ⟨a, ha⟩ := ex_ref (nb_exR h i (lt_in hi))
    obtain ⟨c, hc⟩ := ex_ref (nb_exR h j (lt_in hj))
    exact ne_ctx (fun t => .field t "java/lang/Enum" "ordinal" "I") (fun e => ctx_f e) (nb_orR h i (lt_in hi)) (nb_orR h j (lt_in hj)) ((by decide : ∀ i, i < 23 → ∀ j, j < 23 → i ≠ j → ordR.getD i 0 ≠ ordR.getD j 0) i hi j hj hij) ha hc
theorem tb_lsA : ∀ q ∈ (List.range 11), (Cond.laysStatic RX1 (nmA.getD q "") "LFrogParliament$Action;") ∈ tables_1 := tb_list (L := List.range 11) (f := fun q => Cond.laysStatic RX1 (nmA.getD q "") "LFrogParliament$Action;") [211, 2100, 2101, 2102, 2103, 2104, 2105, 2106, 2107, 2108, 2109] (by decide +kernel)
theorem nb_exA {args : Array Value} {s : State} (h : gB.before args s = true) : ∀ q ∈ (List.range 11), (Cond.exactly (.static RX1 (nmA.getD q "") "LFrogParliament$Action;") RX1).before args s = true := nb_list (L := List.range 11) (f := fun q => Cond.exactly (.static RX1 (nmA.getD q "") "LFrogParliament$Action;") RX1) h [4, 323, 327, 331, 335, 339, 343, 347, 351, 355, 359] (by decide +kernel)
def ordA : List Int32 := [0, 1, 2, 3, 4, 5, 6, 7, 8, 9, 10]
theorem nb_orA {args : Array Value} {s : State} (h : gB.before args s = true) : ∀ q ∈ (List.range 11), (Cond.eq (.field (.static RX1 (nmA.getD q "") "LFrogParliament$Action;") "java/lang/Enum" "ordinal" "I") (.int (ordA.getD q 0))).before args s = true := nb_list (L := List.range 11) (f := fun q => Cond.eq (.field (.static RX1 (nmA.getD q "") "LFrogParliament$Action;") "java/lang/Enum" "ordinal" "I") (.int (ordA.getD q 0))) h [5, 324, 328, 332, 336, 340, 344, 348, 352, 356, 360] (by decide +kernel)
theorem tb_inA : ∀ q ∈ ([()]), ((fun _ => Cond.initialized RX1) q) ∈ tables_1 := tb_list (L := [()]) (f := fun q => (fun _ => Cond.initialized RX1) q) [9] (by decide +kernel)
theorem st_EnA {args : Array Value} {s : State} (hts : ∀ w ∈ lw_tbl, w.before args s = true) (h : gB.before args s = true) : ∃ ad : Nat → Nat, va_En RX1 "LFrogParliament$Action;" nmA [("java/lang/Enum", "ordinal", "I", ordA)] ad (AL s) s s.heap ∧ ∀ i, i < 11 → (Term.static RX1 (nmA.getD i "") "LFrogParliament$Action;").eval args s none [] s = some (.ref (ad i)) := by
  refine va_Enof2 (fun i hi => hts _ (tl_in (tb_lsA i (lt_in hi)))) (hts _ (tl_in (tb_inA () List.mem_cons_self))) (fun i hi => nb_exA h i (lt_in hi)) (fun q hq i hi => ?_) (fun i j hi hj hij => .inl ?_) (fun a ha => Nat.not_le.mpr ha)
  · rw [List.mem_singleton.mp hq]
    exact nb_orA h i (lt_in hi)
  · obtain ⟨a, ha⟩ := ex_ref (nb_exA h i (lt_in hi))
    obtain ⟨c, hc⟩ := ex_ref (nb_exA h j (lt_in hj))
    exact ne_ctx (fun t => .field t "java/lang/Enum" "ordinal" "I") (fun e => ctx_f e) (nb_orA h i (lt_in hi)) (nb_orA h j (lt_in hj)) ((by decide : ∀ i, i < 11 → ∀ j, j < 11 → i ≠ j → ordA.getD i 0 ≠ ordA.getD j 0) i hi j hj hij) ha hc
theorem nb_el_sR {args : Array Value} {s : State} (h : gB.before args s = true) : ∀ q ∈ (List.range 23), (Cond.eq (.elem (.static RX0 "$SwitchMap$FrogParliament$Refusal" "[I") (.int (Int32.ofNat q))) (.int (swRl.getD q 0))).before args s = true := nb_list (L := List.range 23) (f := fun q => Cond.eq (.elem (.static RX0 "$SwitchMap$FrogParliament$Refusal" "[I") (.int (Int32.ofNat q))) (.int (swRl.getD q 0))) h [16, 17, 18, 19, 20, 21, 22, 23, 24, 25, 26, 27, 28, 29, 30, 31, 32, 33, 34, 35, 36, 37, 38] (by decide +kernel)
theorem nb_ar_sR {args : Array Value} {s : State} (h : gB.before args s = true) : ∀ q ∈ ([()]), ((fun _ => Cond.arrayOf (.static RX0 "$SwitchMap$FrogParliament$Refusal" "[I") .int) q).before args s = true := nb_list (L := [()]) (f := fun q => (fun _ => Cond.arrayOf (.static RX0 "$SwitchMap$FrogParliament$Refusal" "[I") .int) q) h [14] (by decide +kernel)
theorem nb_ln_sR {args : Array Value} {s : State} (h : gB.before args s = true) : ∀ q ∈ ([()]), ((fun _ => Cond.eq (.length (.static RX0 "$SwitchMap$FrogParliament$Refusal" "[I")) (.int 23)) q).before args s = true := nb_list (L := [()]) (f := fun q => (fun _ => Cond.eq (.length (.static RX0 "$SwitchMap$FrogParliament$Refusal" "[I")) (.int 23)) q) h [15] (by decide +kernel)
theorem tb_la_sR : ∀ q ∈ ([()]), ((fun _ => Cond.laysStatic RX0 "$SwitchMap$FrogParliament$Refusal" "[I") q) ∈ tables_1 := tb_list (L := [()]) (f := fun q => (fun _ => Cond.laysStatic RX0 "$SwitchMap$FrogParliament$Refusal" "[I") q) [379] (by decide +kernel)
theorem tb_ii_sR : ∀ q ∈ ([()]), ((fun _ => Cond.initialized RX0) q) ∈ tables_1 := tb_list (L := [()]) (f := fun q => (fun _ => Cond.initialized RX0) q) [21] (by decide +kernel)
theorem st_T_sR {args : Array Value} {s : State} (hts : ∀ w ∈ lw_tbl, w.before args s = true) (h : gB.before args s = true) : ∃ t : Nat, va_Z RX0 "$SwitchMap$FrogParliament$Refusal" "[I" (.ref t) (AL s) s s.heap ∧ va_T .int t 23 (fun j => .int (swRl.getD j 0)) (AL s) s s.heap := by
  obtain ⟨t, h1, h2⟩ := va_Tof (tm := .static RX0 "$SwitchMap$FrogParliament$Refusal" "[I") (ty := .int) (N := 23) (f := fun j => .int (swRl.getD j 0)) (A := AL s) (by decide) (nb_ar_sR h () List.mem_cons_self) (va_eqv (nb_ln_sR h () List.mem_cons_self) rfl) (fun j hj => va_eqv (nb_el_sR h j (lt_in hj)) rfl) (fun a ha => Nat.not_le.mpr ha)
  exact ⟨t, va_Zof (hts _ (tl_in (tb_la_sR () List.mem_cons_self))) (hts _ (tl_in (tb_ii_sR () List.mem_cons_self))) h1 (fun a ha => Nat.not_le.mpr ha), h2⟩
theorem nb_el_sA {args : Array Value} {s : State} (h : gB.before args s = true) : ∀ q ∈ (List.range 11), (Cond.eq (.elem (.static RX0 "$SwitchMap$FrogParliament$Action" "[I") (.int (Int32.ofNat q))) (.int (swAl.getD q 0))).before args s = true := nb_list (L := List.range 11) (f := fun q => Cond.eq (.elem (.static RX0 "$SwitchMap$FrogParliament$Action" "[I") (.int (Int32.ofNat q))) (.int (swAl.getD q 0))) h [312, 313, 314, 315, 316, 317, 318, 319, 320, 321, 322] (by decide +kernel)
theorem nb_ar_sA {args : Array Value} {s : State} (h : gB.before args s = true) : ∀ q ∈ ([()]), ((fun _ => Cond.arrayOf (.static RX0 "$SwitchMap$FrogParliament$Action" "[I") .int) q).before args s = true := nb_list (L := [()]) (f := fun q => (fun _ => Cond.arrayOf (.static RX0 "$SwitchMap$FrogParliament$Action" "[I") .int) q) h [310] (by decide +kernel)
theorem nb_ln_sA {args : Array Value} {s : State} (h : gB.before args s = true) : ∀ q ∈ ([()]), ((fun _ => Cond.eq (.length (.static RX0 "$SwitchMap$FrogParliament$Action" "[I")) (.int 11)) q).before args s = true := nb_list (L := [()]) (f := fun q => (fun _ => Cond.eq (.length (.static RX0 "$SwitchMap$FrogParliament$Action" "[I")) (.int 11)) q) h [311] (by decide +kernel)
theorem tb_la_sA : ∀ q ∈ ([()]), ((fun _ => Cond.laysStatic RX0 "$SwitchMap$FrogParliament$Action" "[I") q) ∈ tables_1 := tb_list (L := [()]) (f := fun q => (fun _ => Cond.laysStatic RX0 "$SwitchMap$FrogParliament$Action" "[I") q) [1472] (by decide +kernel)
theorem tb_ii_sA : ∀ q ∈ ([()]), ((fun _ => Cond.initialized RX0) q) ∈ tables_1 := tb_list (L := [()]) (f := fun q => (fun _ => Cond.initialized RX0) q) [21] (by decide +kernel)
theorem st_T_sA {args : Array Value} {s : State} (hts : ∀ w ∈ lw_tbl, w.before args s = true) (h : gB.before args s = true) : ∃ t : Nat, va_Z RX0 "$SwitchMap$FrogParliament$Action" "[I" (.ref t) (AL s) s s.heap ∧ va_T .int t 11 (fun j => .int (swAl.getD j 0)) (AL s) s s.heap := by
  obtain ⟨t, h1, h2⟩ := va_Tof (tm := .static RX0 "$SwitchMap$FrogParliament$Action" "[I") (ty := .int) (N := 11) (f := fun j => .int (swAl.getD j 0)) (A := AL s) (by decide) (nb_ar_sA h () List.mem_cons_self) (va_eqv (nb_ln_sA h () List.mem_cons_self) rfl) (fun j hj => va_eqv (nb_el_sA h j (lt_in hj)) rfl) (fun a ha => Nat.not_le.mpr ha)
  exact ⟨t, va_Zof (hts _ (tl_in (tb_la_sA () List.mem_cons_self))) (hts _ (tl_in (tb_ii_sA () List.mem_cons_self))) h1 (fun a ha => Nat.not_le.mpr ha), h2⟩
theorem nb_el_dO {args : Array Value} {s : State} (h : gB.before args s = true) : ∀ q ∈ (List.range 100), (Cond.eq (.elem (.static RJ6 "DigitOnes" "[B") (.int (Int32.ofNat q))) (.int (dOnl.getD q 0))).before args s = true := nb_list (L := List.range 100) (f := fun q => Cond.eq (.elem (.static RJ6 "DigitOnes" "[B") (.int (Int32.ofNat q))) (.int (dOnl.getD q 0))) h [106, 107, 108, 109, 110, 111, 112, 113, 114, 115, 116, 117, 118, 119, 120, 121, 122, 123, 124, 125, 126, 127, 128, 129, 130, 131, 132, 133, 134, 135, 136, 137, 138, 139, 140, 141, 142, 143, 144, 145, 146, 147, 148, 149, 150, 151, 152, 153, 154, 155, 156, 157, 158, 159, 160, 161, 162, 163, 164, 165, 166, 167, 168, 169, 170, 171, 172, 173, 174, 175, 176, 177, 178, 179, 180, 181, 182, 183, 184, 185, 186, 187, 188, 189, 190, 191, 192, 193, 194, 195, 196, 197, 198, 199, 200, 201, 202, 203, 204, 205] (by decide +kernel)
theorem nb_ar_dO {args : Array Value} {s : State} (h : gB.before args s = true) : ∀ q ∈ ([()]), ((fun _ => Cond.arrayOf (.static RJ6 "DigitOnes" "[B") .byte) q).before args s = true := nb_list (L := [()]) (f := fun q => (fun _ => Cond.arrayOf (.static RJ6 "DigitOnes" "[B") .byte) q) h [104] (by decide +kernel)
theorem nb_ln_dO {args : Array Value} {s : State} (h : gB.before args s = true) : ∀ q ∈ ([()]), ((fun _ => Cond.eq (.length (.static RJ6 "DigitOnes" "[B")) (.int 100)) q).before args s = true := nb_list (L := [()]) (f := fun q => (fun _ => Cond.eq (.length (.static RJ6 "DigitOnes" "[B")) (.int 100)) q) h [105] (by decide +kernel)
theorem tb_la_dO : ∀ q ∈ ([()]), ((fun _ => Cond.laysStatic RJ6 "DigitOnes" "[B") q) ∈ tables_1 := tb_list (L := [()]) (f := fun q => (fun _ => Cond.laysStatic RJ6 "DigitOnes" "[B") q) [1364] (by decide +kernel)
theorem tb_ii_dO : ∀ q ∈ ([()]), ((fun _ => Cond.initialized RJ6) q) ∈ tables_1 := tb_list (L := [()]) (f := fun q => (fun _ => Cond.initialized RJ6) q) [28] (by decide +kernel)
theorem st_T_dO {args : Array Value} {s : State} (hts : ∀ w ∈ lw_tbl, w.before args s = true) (h : gB.before args s = true) : ∃ t : Nat, va_Z RJ6 "DigitOnes" "[B" (.ref t) (AL s) s s.heap ∧ va_T .byte t 100 (fun j => .int (dOnl.getD j 0)) (AL s) s s.heap := by
  obtain ⟨t, h1, h2⟩ := va_Tof (tm := .static RJ6 "DigitOnes" "[B") (ty := .byte) (N := 100) (f := fun j => .int (dOnl.getD j 0)) (A := AL s) (by decide) (nb_ar_dO h () List.mem_cons_self) (va_eqv (nb_ln_dO h () List.mem_cons_self) rfl) (fun j hj => va_eqv (nb_el_dO h j (lt_in hj)) rfl) (fun a ha => Nat.not_le.mpr ha)
  exact ⟨t, va_Zof (hts _ (tl_in (tb_la_dO () List.mem_cons_self))) (hts _ (tl_in (tb_ii_dO () List.mem_cons_self))) h1 (fun a ha => Nat.not_le.mpr ha), h2⟩
theorem nb_el_dT {args : Array Value} {s : State} (h : gB.before args s = true) : ∀ q ∈ (List.range 100), (Cond.eq (.elem (.static RJ6 "DigitTens" "[B") (.int (Int32.ofNat q))) (.int (dTel.getD q 0))).before args s = true := nb_list (L := List.range 100) (f := fun q => Cond.eq (.elem (.static RJ6 "DigitTens" "[B") (.int (Int32.ofNat q))) (.int (dTel.getD q 0))) h [209, 210, 211, 212, 213, 214, 215, 216, 217, 218, 219, 220, 221, 222, 223, 224, 225, 226, 227, 228, 229, 230, 231, 232, 233, 234, 235, 236, 237, 238, 239, 240, 241, 242, 243, 244, 245, 246, 247, 248, 249, 250, 251, 252, 253, 254, 255, 256, 257, 258, 259, 260, 261, 262, 263, 264, 265, 266, 267, 268, 269, 270, 271, 272, 273, 274, 275, 276, 277, 278, 279, 280, 281, 282, 283, 284, 285, 286, 287, 288, 289, 290, 291, 292, 293, 294, 295, 296, 297, 298, 299, 300, 301, 302, 303, 304, 305, 306, 307, 308] (by decide +kernel)
theorem nb_ar_dT {args : Array Value} {s : State} (h : gB.before args s = true) : ∀ q ∈ ([()]), ((fun _ => Cond.arrayOf (.static RJ6 "DigitTens" "[B") .byte) q).before args s = true := nb_list (L := [()]) (f := fun q => (fun _ => Cond.arrayOf (.static RJ6 "DigitTens" "[B") .byte) q) h [207] (by decide +kernel)
theorem nb_ln_dT {args : Array Value} {s : State} (h : gB.before args s = true) : ∀ q ∈ ([()]), ((fun _ => Cond.eq (.length (.static RJ6 "DigitTens" "[B")) (.int 100)) q).before args s = true := nb_list (L := [()]) (f := fun q => (fun _ => Cond.eq (.length (.static RJ6 "DigitTens" "[B")) (.int 100)) q) h [208] (by decide +kernel)
theorem tb_la_dT : ∀ q ∈ ([()]), ((fun _ => Cond.laysStatic RJ6 "DigitTens" "[B") q) ∈ tables_1 := tb_list (L := [()]) (f := fun q => (fun _ => Cond.laysStatic RJ6 "DigitTens" "[B") q) [1366] (by decide +kernel)
theorem tb_ii_dT : ∀ q ∈ ([()]), ((fun _ => Cond.initialized RJ6) q) ∈ tables_1 := tb_list (L := [()]) (f := fun q => (fun _ => Cond.initialized RJ6) q) [28] (by decide +kernel)
theorem st_T_dT {args : Array Value} {s : State} (hts : ∀ w ∈ lw_tbl, w.before args s = true) (h : gB.before args s = true) : ∃ t : Nat, va_Z RJ6 "DigitTens" "[B" (.ref t) (AL s) s s.heap ∧ va_T .byte t 100 (fun j => .int (dTel.getD j 0)) (AL s) s s.heap := by
  obtain ⟨t, h1, h2⟩ := va_Tof (tm := .static RJ6 "DigitTens" "[B") (ty := .byte) (N := 100) (f := fun j => .int (dTel.getD j 0)) (A := AL s) (by decide) (nb_ar_dT h () List.mem_cons_self) (va_eqv (nb_ln_dT h () List.mem_cons_self) rfl) (fun j hj => va_eqv (nb_el_dT h j (lt_in hj)) rfl) (fun a ha => Nat.not_le.mpr ha)
  exact ⟨t, va_Zof (hts _ (tl_in (tb_la_dT () List.mem_cons_self))) (hts _ (tl_in (tb_ii_dT () List.mem_cons_self))) h1 (fun a ha => Nat.not_le.mpr ha), h2⟩
theorem nb_el_ac {args : Array Value} {s : State} (h : gB.before args s = true) : ∀ q ∈ (List.range 11), (Cond.eq (.elem (.static RX4 "ACTIONS" "[LFrogParliament$Action;") (.int (Int32.ofNat q))) (.static RX1 (nmA.getD q "") "LFrogParliament$Action;")).before args s = true := nb_list (L := List.range 11) (f := fun q => Cond.eq (.elem (.static RX4 "ACTIONS" "[LFrogParliament$Action;") (.int (Int32.ofNat q))) (.static RX1 (nmA.getD q "") "LFrogParliament$Action;")) h [92, 93, 94, 95, 96, 97, 98, 99, 100, 101, 102] (by decide +kernel)
theorem nb_ar_ac {args : Array Value} {s : State} (h : gB.before args s = true) : ∀ q ∈ ([()]), ((fun _ => Cond.arrayOf (.static RX4 "ACTIONS" "[LFrogParliament$Action;") (.object "FrogParliament$Action")) q).before args s = true := nb_list (L := [()]) (f := fun q => (fun _ => Cond.arrayOf (.static RX4 "ACTIONS" "[LFrogParliament$Action;") (.object "FrogParliament$Action")) q) h [89] (by decide +kernel)
theorem nb_ln_ac {args : Array Value} {s : State} (h : gB.before args s = true) : ∀ q ∈ ([()]), ((fun _ => Cond.eq (.length (.static RX4 "ACTIONS" "[LFrogParliament$Action;")) (.int 11)) q).before args s = true := nb_list (L := [()]) (f := fun q => (fun _ => Cond.eq (.length (.static RX4 "ACTIONS" "[LFrogParliament$Action;")) (.int 11)) q) h [90] (by decide +kernel)
theorem tb_la_ac : ∀ q ∈ ([()]), ((fun _ => Cond.laysStatic RX4 "ACTIONS" "[LFrogParliament$Action;") q) ∈ tables_1 := tb_list (L := [()]) (f := fun q => (fun _ => Cond.laysStatic RX4 "ACTIONS" "[LFrogParliament$Action;") q) [1229] (by decide +kernel)
theorem tb_ii_ac : ∀ q ∈ ([()]), ((fun _ => Cond.initialized RX4) q) ∈ tables_1 := tb_list (L := [()]) (f := fun q => (fun _ => Cond.initialized RX4) q) [6] (by decide +kernel)
theorem st_ac {args : Array Value} {s : State} (hts : ∀ w ∈ lw_tbl, w.before args s = true) (h : gB.before args s = true) {ad : Nat → Nat} (had : ∀ i, i < 11 → (Term.static RX1 (nmA.getD i "") "LFrogParliament$Action;").eval args s none [] s = some (.ref (ad i))) : ∃ t : Nat, va_Z RX4 "ACTIONS" "[LFrogParliament$Action;" (.ref t) (AL s) s s.heap ∧ va_T (.object "FrogParliament$Action") t 11 (fun j => .ref (ad j)) (AL s) s s.heap := by
  obtain ⟨t, h1, h2⟩ := va_Tof (tm := .static RX4 "ACTIONS" "[LFrogParliament$Action;") (ty := .object "FrogParliament$Action") (N := 11) (f := fun j => .ref (ad j)) (A := AL s) (by decide) (nb_ar_ac h () List.mem_cons_self) (va_eqv (nb_ln_ac h () List.mem_cons_self) rfl) (fun j hj => va_eqv (nb_el_ac h j (lt_in hj)) (had j hj)) (fun a ha => Nat.not_le.mpr ha)
  exact ⟨t, va_Zof (hts _ (tl_in (tb_la_ac () List.mem_cons_self))) (hts _ (tl_in (tb_ii_ac () List.mem_cons_self))) h1 (fun a ha => Nat.not_le.mpr ha), h2⟩
def fmE : List Nat := [61, 67, 70, 73, 76, 79, 82, 85, 88, 91, 94]
theorem nb_s1 {args : Array Value} {s : State} (h : gB.before args s = true) : ∀ q ∈ (List.range 11), (Cond.exactly (.string RX1 (fmE.getD q 0)) "java/lang/String").before args s = true := nb_list (L := List.range 11) (f := fun q => Cond.exactly (.string RX1 (fmE.getD q 0)) "java/lang/String") h [1650, 1661, 1670, 1681, 1691, 1703, 1715, 1729, 1739, 1750, 1765] (by decide +kernel)
theorem nb_s2 {args : Array Value} {s : State} (h : gB.before args s = true) : ∀ q ∈ (List.range 11), (Cond.eq (.field (.string RX1 (fmE.getD q 0)) "java/lang/String" "coder" "B") (.int 0)).before args s = true := nb_list (L := List.range 11) (f := fun q => Cond.eq (.field (.string RX1 (fmE.getD q 0)) "java/lang/String" "coder" "B") (.int 0)) h [1651, 1662, 1671, 1682, 1692, 1704, 1716, 1730, 1740, 1751, 1766] (by decide +kernel)
theorem nb_s3 {args : Array Value} {s : State} (h : gB.before args s = true) : ∀ q ∈ (List.range 11), (Cond.arrayOf (.field (.string RX1 (fmE.getD q 0)) "java/lang/String" "value" "[B") .byte).before args s = true := nb_list (L := List.range 11) (f := fun q => Cond.arrayOf (.field (.string RX1 (fmE.getD q 0)) "java/lang/String" "value" "[B") .byte) h [1652, 1663, 1672, 1683, 1693, 1705, 1717, 1731, 1741, 1752, 1767] (by decide +kernel)
theorem nb_s4 {args : Array Value} {s : State} (h : gB.before args s = true) : ∀ q ∈ (List.range 11), (Cond.eq (.length (.field (.string RX1 (fmE.getD q 0)) "java/lang/String" "value" "[B")) (.int (Int32.ofNat (fLenl.getD q 0)))).before args s = true := nb_list (L := List.range 11) (f := fun q => Cond.eq (.length (.field (.string RX1 (fmE.getD q 0)) "java/lang/String" "value" "[B")) (.int (Int32.ofNat (fLenl.getD q 0)))) h [1653, 1664, 1673, 1684, 1694, 1706, 1718, 1732, 1742, 1753, 1768] (by decide +kernel)
def fmP : List (Nat × Nat) := (List.range 11).flatMap (fun i => (List.range (fLenl.getD i 0)).map (fun j => (i, j)))
theorem nb_s5 {args : Array Value} {s : State} (h : gB.before args s = true) : ∀ q ∈ (fmP), (Cond.eq (.elem (.field (.string RX1 (fmE.getD q.1 0)) "java/lang/String" "value" "[B") (.int (Int32.ofNat q.2))) (.int ((fBytl.getD q.1 []).getD q.2 0))).before args s = true := nb_list (L := fmP) (f := fun q => Cond.eq (.elem (.field (.string RX1 (fmE.getD q.1 0)) "java/lang/String" "value" "[B") (.int (Int32.ofNat q.2))) (.int ((fBytl.getD q.1 []).getD q.2 0))) h [1654, 1655, 1656, 1657, 1658, 1659, 1660, 1665, 1666, 1667, 1668, 1669, 1674, 1675, 1676, 1677, 1678, 1679, 1680, 1685, 1686, 1687, 1688, 1689, 1690, 1695, 1696, 1697, 1698, 1699, 1700, 1701, 1702, 1707, 1708, 1709, 1710, 1711, 1712, 1713, 1714, 1719, 1720, 1721, 1722, 1723, 1724, 1725, 1726, 1727, 1728, 1733, 1734, 1735, 1736, 1737, 1738, 1743, 1744, 1745, 1746, 1747, 1748, 1749, 1754, 1755, 1756, 1757, 1758, 1759, 1760, 1761, 1762, 1763, 1764, 1769, 1770, 1771, 1772, 1773, 1774, 1775, 1776] (by decide +kernel)
theorem nb_s6 {args : Array Value} {s : State} (h : gB.before args s = true) : ∀ q ∈ (List.range 11), (Cond.eq (.field (.static RX1 (nmA.getD q "") "LFrogParliament$Action;") RX1 "form" "Ljava/lang/String;") (.string RX1 (fmE.getD q 0))).before args s = true := nb_list (L := List.range 11) (f := fun q => Cond.eq (.field (.static RX1 (nmA.getD q "") "LFrogParliament$Action;") RX1 "form" "Ljava/lang/String;") (.string RX1 (fmE.getD q 0))) h [6, 325, 329, 333, 337, 341, 345, 349, 353, 357, 361] (by decide +kernel)
theorem fmP_in : ∀ i, i < 11 → ∀ j, j < 11 → j < fLenl.getD i 0 → (i, j) ∈ fmP := fun i hi j _ h => List.mem_flatMap.mpr ⟨i, lt_in hi, List.mem_map.mpr ⟨j, lt_in h, rfl⟩⟩
theorem fl_11 : ∀ i, i < 11 → fLenl.getD i 0 ≤ 11 ∧ 0 < fLenl.getD i 0 := by decide
theorem st_fm {args : Array Value} {s : State} (h : gB.before args s = true) {ad : Nat → Nat} (had : ∀ i, i < 11 → (Term.static RX1 (nmA.getD i "") "LFrogParliament$Action;").eval args s none [] s = some (.ref (ad i))) : ∃ adK adV : Nat → Nat, vk_S 11 fLenl fBytl adK adV (AL s) s s.heap ∧ va_Ef 11 RX1 "form" "Ljava/lang/String;" (fun i => .ref (adK i)) ad (AL s) s s.heap := by
  have hel : ∀ i, i < 11 → ∀ j, j < fLenl.getD i 0 → (Cond.eq (.elem (.field (.string RX1 (fmE.getD i 0)) "java/lang/String" "value" "[B") (.int (Int32.ofNat j))) (.int ((fBytl.getD i []).getD j 0))).before args s = true := fun i hi j hj => nb_s5 h (i, j) (fmP_in i hi j (by have := (fl_11 i hi).1; omega) hj)
  obtain ⟨adK, adV, k1, k2⟩ := vk_Sof (N := 11) (tm := fun i => .string RX1 (fmE.getD i 0)) (len := fLenl) (byt := fBytl) (A := AL s) (fun i hi => by have := (fl_11 i hi).1; omega) (fun i hi => nb_s1 h i (lt_in hi)) (fun i hi => nb_s2 h i (lt_in hi)) (fun i hi => nb_s3 h i (lt_in hi)) (fun i hi => nb_s4 h i (lt_in hi)) hel (fun i j hi hj hij => by
    left
    obtain ⟨a, ha⟩ := ex_ref (nb_s1 h i (lt_in hi))
    obtain ⟨c, hc⟩ := ex_ref (nb_s1 h j (lt_in hj))
    by_cases e : fLenl.getD i 0 = fLenl.getD j 0
    · exact ne_ctx (fun t => .elem (.field t "java/lang/String" "value" "[B") (.int (Int32.ofNat 0))) (fun e => ctx_e (ctx_f e)) (hel i hi 0 (fl_11 i hi).2) (hel j hj 0 (fl_11 j hj).2) ((by decide +kernel : ∀ i, i < 11 → ∀ j, j < 11 → i ≠ j → fLenl.getD i 0 = fLenl.getD j 0 → (fBytl.getD i []).getD 0 0 ≠ (fBytl.getD j []).getD 0 0) i hi j hj hij e) ha hc
    · exact ne_ctx (fun t => .length (.field t "java/lang/String" "value" "[B")) (fun e => ctx_l (ctx_f e)) (nb_s4 h i (lt_in hi)) (nb_s4 h j (lt_in hj)) ((by decide +kernel : ∀ i, i < 11 → ∀ j, j < 11 → fLenl.getD i 0 ≠ fLenl.getD j 0 → Int32.ofNat (fLenl.getD i 0) ≠ Int32.ofNat (fLenl.getD j 0)) i hi j hj e) ha hc) (fun a ha => Nat.not_le.mpr ha)
  exact ⟨adK, adV, k1, va_Efof had (fun i hi => nb_s6 h i (lt_in hi)) k2 (fun a ha => Nat.not_le.mpr ha)⟩
theorem nb_rf_us {args : Array Value} {s : State} (h : gB.before args s = true) : ∀ q ∈ ([()]), ((fun _ => Cond.isRef (.static "java/lang/Throwable" "UNASSIGNED_STACK" "[Ljava/lang/StackTraceElement;")) q).before args s = true := nb_list (L := [()]) (f := fun q => (fun _ => Cond.isRef (.static "java/lang/Throwable" "UNASSIGNED_STACK" "[Ljava/lang/StackTraceElement;")) q) h [39] (by decide +kernel)
theorem tb_la_us : ∀ q ∈ ([()]), ((fun _ => Cond.laysStatic "java/lang/Throwable" "UNASSIGNED_STACK" "[Ljava/lang/StackTraceElement;") q) ∈ tables_1 := tb_list (L := [()]) (f := fun q => (fun _ => Cond.laysStatic "java/lang/Throwable" "UNASSIGNED_STACK" "[Ljava/lang/StackTraceElement;") q) [413] (by decide +kernel)
theorem tb_ii_us : ∀ q ∈ ([()]), ((fun _ => Cond.initialized "java/lang/Throwable") q) ∈ tables_1 := tb_list (L := [()]) (f := fun q => (fun _ => Cond.initialized "java/lang/Throwable") q) [15] (by decide +kernel)
theorem st_q_us {args : Array Value} {s : State} (hts : ∀ w ∈ lw_tbl, w.before args s = true) (h : gB.before args s = true) : vx_Zq "java/lang/Throwable" "UNASSIGNED_STACK" "[Ljava/lang/StackTraceElement;" (AL s) s s.heap := vx_Zqof (hts _ (tl_in (tb_la_us () List.mem_cons_self))) (hts _ (tl_in (tb_ii_us () List.mem_cons_self))) (nb_rf_us h () List.mem_cons_self) (fun a ha => Nat.not_le.mpr ha)
theorem nb_rf_ss {args : Array Value} {s : State} (h : gB.before args s = true) : ∀ q ∈ ([()]), ((fun _ => Cond.isRef (.static "java/lang/Throwable" "SUPPRESSED_SENTINEL" "Ljava/util/List;")) q).before args s = true := nb_list (L := [()]) (f := fun q => (fun _ => Cond.isRef (.static "java/lang/Throwable" "SUPPRESSED_SENTINEL" "Ljava/util/List;")) q) h [40] (by decide +kernel)
theorem tb_la_ss : ∀ q ∈ ([()]), ((fun _ => Cond.laysStatic "java/lang/Throwable" "SUPPRESSED_SENTINEL" "Ljava/util/List;") q) ∈ tables_1 := tb_list (L := [()]) (f := fun q => (fun _ => Cond.laysStatic "java/lang/Throwable" "SUPPRESSED_SENTINEL" "Ljava/util/List;") q) [415] (by decide +kernel)
theorem tb_ii_ss : ∀ q ∈ ([()]), ((fun _ => Cond.initialized "java/lang/Throwable") q) ∈ tables_1 := tb_list (L := [()]) (f := fun q => (fun _ => Cond.initialized "java/lang/Throwable") q) [15] (by decide +kernel)
theorem st_q_ss {args : Array Value} {s : State} (hts : ∀ w ∈ lw_tbl, w.before args s = true) (h : gB.before args s = true) : vx_Zq "java/lang/Throwable" "SUPPRESSED_SENTINEL" "Ljava/util/List;" (AL s) s s.heap := vx_Zqof (hts _ (tl_in (tb_la_ss () List.mem_cons_self))) (hts _ (tl_in (tb_ii_ss () List.mem_cons_self))) (nb_rf_ss h () List.mem_cons_self) (fun a ha => Nat.not_le.mpr ha)
theorem nb_rf_sf {args : Array Value} {s : State} (h : gB.before args s = true) : ∀ q ∈ ([()]), ((fun _ => Cond.isRef (.static "jdk/internal/util/Preconditions" "SIOOBE_FORMATTER" "Ljava/util/function/BiFunction;")) q).before args s = true := nb_list (L := [()]) (f := fun q => (fun _ => Cond.isRef (.static "jdk/internal/util/Preconditions" "SIOOBE_FORMATTER" "Ljava/util/function/BiFunction;")) q) h [83] (by decide +kernel)
theorem tb_la_sf : ∀ q ∈ ([()]), ((fun _ => Cond.laysStatic "jdk/internal/util/Preconditions" "SIOOBE_FORMATTER" "Ljava/util/function/BiFunction;") q) ∈ tables_1 := tb_list (L := [()]) (f := fun q => (fun _ => Cond.laysStatic "jdk/internal/util/Preconditions" "SIOOBE_FORMATTER" "Ljava/util/function/BiFunction;") q) [1188] (by decide +kernel)
theorem tb_ii_sf : ∀ q ∈ ([()]), ((fun _ => Cond.initialized "jdk/internal/util/Preconditions") q) ∈ tables_1 := tb_list (L := [()]) (f := fun q => (fun _ => Cond.initialized "jdk/internal/util/Preconditions") q) [34] (by decide +kernel)
theorem st_q_sf {args : Array Value} {s : State} (hts : ∀ w ∈ lw_tbl, w.before args s = true) (h : gB.before args s = true) : vx_Zq "jdk/internal/util/Preconditions" "SIOOBE_FORMATTER" "Ljava/util/function/BiFunction;" (AL s) s s.heap := vx_Zqof (hts _ (tl_in (tb_la_sf () List.mem_cons_self))) (hts _ (tl_in (tb_ii_sf () List.mem_cons_self))) (nb_rf_sf h () List.mem_cons_self) (fun a ha => Nat.not_le.mpr ha)
theorem nb_cs {args : Array Value} {s : State} (h : gB.before args s = true) : ∀ q ∈ ([()]), ((fun _ => Cond.eq (.static RJ0 "COMPACT_STRINGS" "Z") (.int 1)) q).before args s = true := nb_list (L := [()]) (f := fun q => (fun _ => Cond.eq (.static RJ0 "COMPACT_STRINGS" "Z") (.int 1)) q) h [7] (by decide +kernel)
theorem tb_la_cs : ∀ q ∈ ([()]), ((fun _ => Cond.laysStatic RJ0 "COMPACT_STRINGS" "Z") q) ∈ tables_1 := tb_list (L := [()]) (f := fun q => (fun _ => Cond.laysStatic RJ0 "COMPACT_STRINGS" "Z") q) [249] (by decide +kernel)
theorem tb_ii_cs : ∀ q ∈ ([()]), ((fun _ => Cond.initialized RJ0) q) ∈ tables_1 := tb_list (L := [()]) (f := fun q => (fun _ => Cond.initialized RJ0) q) [12] (by decide +kernel)
theorem st_ST {args : Array Value} {s : State} (hts : ∀ w ∈ lw_tbl, w.before args s = true) (h : gB.before args s = true) : ∃ r : Nat → Nat → Nat, ∀ (D : va_G) (c : Nat → ClassId), ST (D, c, r) (AL s) s s.heap := by
  obtain ⟨a0, e0, _⟩ := st_EnR hts h
  obtain ⟨a1, e1, f1⟩ := st_EnA hts h
  obtain ⟨t0, g0, g1⟩ := st_T_sR hts h
  obtain ⟨t1, g2, g3⟩ := st_T_sA hts h
  obtain ⟨t2, g4, g5⟩ := st_ac hts h f1
  obtain ⟨k, v, g6, g7⟩ := st_fm h f1
  obtain ⟨t3, g8, g9⟩ := st_T_dO hts h
  obtain ⟨t4, g10, g11⟩ := st_T_dT hts h
  exact ⟨fun i => if i = 0 then a0 else if i = 1 then a1 else if i = 2 then (fun j => if j = 0 then t0 else if j = 1 then t1 else if j = 2 then t2 else if j = 3 then t3 else t4) else if i = 3 then k else v, fun D c => ⟨e0, e1, g0, g1, g2, g3, g4, g5, g7, g6, st_q_us hts h, st_q_ss hts h, va_Zof (hts _ (tl_in (tb_la_cs () List.mem_cons_self))) (hts _ (tl_in (tb_ii_cs () List.mem_cons_self))) (va_eqi (nb_cs h () List.mem_cons_self)) (fun a ha => Nat.not_le.mpr ha), g8, g9, g10, g11, st_q_sf hts h⟩⟩
theorem st_NW {args : Array Value} {s : State} (hts : ∀ w ∈ lw_tbl, w.before args s = true) (h : gB.before args s = true) : NW s :=
  ⟨fun q hq => va_Nw.of rfl (hts _ (tl_in (tb_nestM q hq))), fun q hq => va_Nw.of rfl (hts _ (tl_in (tb_nestF q hq))), fun q hq => va_Nw.of rfl (hts _ (tl_in (tb_cast q hq))), fun q hq => va_Nc.of (nb_ncast h q hq), fun C hC => va_AO.of (hts _ (tl_in (tb_ao C hC))), fun x hx => va_Nw.of rfl (hts _ (tl_in (tb_dec x hx))), fun q hq => by
    obtain ⟨a, ha⟩ := ex_ref (nb_str h q hq)
    exact ⟨a, vk_R.of (hts _ (tl_in (tb_str q hq))) ha⟩⟩
theorem tb_u0 : ∀ q ∈ (List.range 4), (u_lay RJ0 TJ0 q) ∈ tables_1 := tb_list (L := List.range 4) (f := fun q => u_lay RJ0 TJ0 q) [648, 650, 1423, 1425] (by decide +kernel)
theorem tb_v0 : ∀ q ∈ ([()]), ((fun _ => Cond.instantiable RJ0 4) q) ∈ tables_1 := tb_list (L := [()]) (f := fun q => (fun _ => Cond.instantiable RJ0 4) q) [647] (by decide +kernel)
theorem st_u0 {args : Array Value} {s : State} (hts : ∀ w ∈ lw_tbl, w.before args s = true) : ∃ (cC : ClassId) (iS : Nat → Nat), u_Kn s RJ0 TJ0 4 cC iS := u_known (n := 4) hts (fun w hw => by
  obtain ⟨k, hk, rfl⟩ := List.mem_map.mp hw
  exact tl_in (tb_u0 k hk)) (hts _ (tl_in (tb_v0 () List.mem_cons_self)))
theorem tb_u1 : ∀ q ∈ (List.range 4), (u_lay RJ4 TJ4 q) ∈ tables_1 := tb_list (L := List.range 4) (f := fun q => u_lay RJ4 TJ4 q) [262, 264, 266, 268] (by decide +kernel)
theorem tb_v1 : ∀ q ∈ ([()]), ((fun _ => Cond.instantiable RJ4 4) q) ∈ tables_1 := tb_list (L := [()]) (f := fun q => (fun _ => Cond.instantiable RJ4 4) q) [240] (by decide +kernel)
theorem st_u1 {args : Array Value} {s : State} (hts : ∀ w ∈ lw_tbl, w.before args s = true) : ∃ (cC : ClassId) (iS : Nat → Nat), u_Kn s RJ4 TJ4 4 cC iS := u_known (n := 4) hts (fun w hw => by
  obtain ⟨k, hk, rfl⟩ := List.mem_map.mp hw
  exact tl_in (tb_u1 k hk)) (hts _ (tl_in (tb_v1 () List.mem_cons_self)))
theorem tb_u2 : ∀ q ∈ (List.range 6), (u_lay RJx00060 TJx00060 q) ∈ tables_1 := tb_list (L := List.range 6) (f := fun q => u_lay RJx00060 TJx00060 q) [636, 637, 638, 639, 640, 641] (by decide +kernel)
theorem tb_v2 : ∀ q ∈ ([()]), ((fun _ => Cond.instantiable RJx00060 6) q) ∈ tables_1 := tb_list (L := [()]) (f := fun q => (fun _ => Cond.instantiable RJx00060 6) q) [632] (by decide +kernel)
theorem st_u2 {args : Array Value} {s : State} (hts : ∀ w ∈ lw_tbl, w.before args s = true) : ∃ (cC : ClassId) (iS : Nat → Nat), u_Kn s RJx00060 TJx00060 6 cC iS := u_known (n := 6) hts (fun w hw => by
  obtain ⟨k, hk, rfl⟩ := List.mem_map.mp hw
  exact tl_in (tb_u2 k hk)) (hts _ (tl_in (tb_v2 () List.mem_cons_self)))
theorem tb_u3 : ∀ q ∈ (List.range 6), (u_lay RJx7c733 TJx7c733 q) ∈ tables_1 := tb_list (L := List.range 6) (f := fun q => u_lay RJx7c733 TJx7c733 q) [1429, 1430, 1431, 1432, 1433, 1434] (by decide +kernel)
theorem tb_v3 : ∀ q ∈ ([()]), ((fun _ => Cond.instantiable RJx7c733 6) q) ∈ tables_1 := tb_list (L := [()]) (f := fun q => (fun _ => Cond.instantiable RJx7c733 6) q) [1304] (by decide +kernel)
theorem st_u3 {args : Array Value} {s : State} (hts : ∀ w ∈ lw_tbl, w.before args s = true) : ∃ (cC : ClassId) (iS : Nat → Nat), u_Kn s RJx7c733 TJx7c733 6 cC iS := u_known (n := 6) hts (fun w hw => by
  obtain ⟨k, hk, rfl⟩ := List.mem_map.mp hw
  exact tl_in (tb_u3 k hk)) (hts _ (tl_in (tb_v3 () List.mem_cons_self)))
theorem tb_u4 : ∀ q ∈ (List.range 12), (u_lay RX2 TX2 q) ∈ tables_1 := tb_list (L := List.range 12) (f := fun q => u_lay RX2 TX2 q) [139, 141, 143, 145, 147, 149, 151, 153, 155, 157, 159, 161] (by decide +kernel)
theorem tb_v4 : ∀ q ∈ ([()]), ((fun _ => Cond.instantiable RX2 12) q) ∈ tables_1 := tb_list (L := [()]) (f := fun q => (fun _ => Cond.instantiable RX2 12) q) [45] (by decide +kernel)
theorem st_u4 {args : Array Value} {s : State} (hts : ∀ w ∈ lw_tbl, w.before args s = true) : ∃ (cC : ClassId) (iS : Nat → Nat), u_Kn s RX2 TX2 12 cC iS := u_known (n := 12) hts (fun w hw => by
  obtain ⟨k, hk, rfl⟩ := List.mem_map.mp hw
  exact tl_in (tb_u4 k hk)) (hts _ (tl_in (tb_v4 () List.mem_cons_self)))
theorem tb_u5 : ∀ q ∈ (List.range 3), (u_lay RX3 TX3 q) ∈ tables_1 := tb_list (L := List.range 3) (f := fun q => u_lay RX3 TX3 q) [219, 221, 223] (by decide +kernel)
theorem tb_v5 : ∀ q ∈ ([()]), ((fun _ => Cond.instantiable RX3 3) q) ∈ tables_1 := tb_list (L := [()]) (f := fun q => (fun _ => Cond.instantiable RX3 3) q) [205] (by decide +kernel)
theorem st_u5 {args : Array Value} {s : State} (hts : ∀ w ∈ lw_tbl, w.before args s = true) : ∃ (cC : ClassId) (iS : Nat → Nat), u_Kn s RX3 TX3 3 cC iS := u_known (n := 3) hts (fun w hw => by
  obtain ⟨k, hk, rfl⟩ := List.mem_map.mp hw
  exact tl_in (tb_u5 k hk)) (hts _ (tl_in (tb_v5 () List.mem_cons_self)))
theorem tb_u6 : ∀ q ∈ (List.range 3), (u_lay RX4 TX4 q) ∈ tables_1 := tb_list (L := List.range 3) (f := fun q => u_lay RX4 TX4 q) [232, 234, 236] (by decide +kernel)
theorem tb_v6 : ∀ q ∈ ([()]), ((fun _ => Cond.instantiable RX4 3) q) ∈ tables_1 := tb_list (L := [()]) (f := fun q => (fun _ => Cond.instantiable RX4 3) q) [198] (by decide +kernel)
theorem st_u6 {args : Array Value} {s : State} (hts : ∀ w ∈ lw_tbl, w.before args s = true) : ∃ (cC : ClassId) (iS : Nat → Nat), u_Kn s RX4 TX4 3 cC iS := u_known (n := 3) hts (fun w hw => by
  obtain ⟨k, hk, rfl⟩ := List.mem_map.mp hw
  exact tl_in (tb_u6 k hk)) (hts _ (tl_in (tb_v6 () List.mem_cons_self)))
theorem tb_u7 : ∀ q ∈ (List.range 3), (u_lay RX5 TX5 q) ∈ tables_1 := tb_list (L := List.range 3) (f := fun q => u_lay RX5 TX5 q) [177, 179, 181] (by decide +kernel)
theorem tb_v7 : ∀ q ∈ ([()]), ((fun _ => Cond.instantiable RX5 3) q) ∈ tables_1 := tb_list (L := [()]) (f := fun q => (fun _ => Cond.instantiable RX5 3) q) [165] (by decide +kernel)
theorem st_u7 {args : Array Value} {s : State} (hts : ∀ w ∈ lw_tbl, w.before args s = true) : ∃ (cC : ClassId) (iS : Nat → Nat), u_Kn s RX5 TX5 3 cC iS := u_known (n := 3) hts (fun w hw => by
  obtain ⟨k, hk, rfl⟩ := List.mem_map.mp hw
  exact tl_in (tb_u7 k hk)) (hts _ (tl_in (tb_v7 () List.mem_cons_self)))
theorem tb_u8 : ∀ q ∈ (List.range 12), (u_lay RX6 TX6 q) ∈ tables_1 := tb_list (L := List.range 12) (f := fun q => u_lay RX6 TX6 q) [90, 92, 94, 96, 98, 100, 102, 104, 106, 108, 110, 112] (by decide +kernel)
theorem tb_v8 : ∀ q ∈ ([()]), ((fun _ => Cond.instantiable RX6 12) q) ∈ tables_1 := tb_list (L := [()]) (f := fun q => (fun _ => Cond.instantiable RX6 12) q) [52] (by decide +kernel)
theorem st_u8 {args : Array Value} {s : State} (hts : ∀ w ∈ lw_tbl, w.before args s = true) : ∃ (cC : ClassId) (iS : Nat → Nat), u_Kn s RX6 TX6 12 cC iS := u_known (n := 12) hts (fun w hw => by
  obtain ⟨k, hk, rfl⟩ := List.mem_map.mp hw
  exact tl_in (tb_u8 k hk)) (hts _ (tl_in (tb_v8 () List.mem_cons_self)))
theorem tb_u9 : ∀ q ∈ (List.range 2), (u_lay RX8 TX8 q) ∈ tables_1 := tb_list (L := List.range 2) (f := fun q => u_lay RX8 TX8 q) [192, 194] (by decide +kernel)
theorem tb_v9 : ∀ q ∈ ([()]), ((fun _ => Cond.instantiable RX8 2) q) ∈ tables_1 := tb_list (L := [()]) (f := fun q => (fun _ => Cond.instantiable RX8 2) q) [185] (by decide +kernel)
theorem st_u9 {args : Array Value} {s : State} (hts : ∀ w ∈ lw_tbl, w.before args s = true) : ∃ (cC : ClassId) (iS : Nat → Nat), u_Kn s RX8 TX8 2 cC iS := u_known (n := 2) hts (fun w hw => by
  obtain ⟨k, hk, rfl⟩ := List.mem_map.mp hw
  exact tl_in (tb_u9 k hk)) (hts _ (tl_in (tb_v9 () List.mem_cons_self)))
theorem tb_u10 : ∀ q ∈ (List.range 11), (u_lay RX9 TX9 q) ∈ tables_1 := tb_list (L := List.range 11) (f := fun q => u_lay RX9 TX9 q) [283, 285, 287, 289, 291, 293, 295, 297, 299, 301, 303] (by decide +kernel)
theorem tb_v10 : ∀ q ∈ ([()]), ((fun _ => Cond.instantiable RX9 11) q) ∈ tables_1 := tb_list (L := [()]) (f := fun q => (fun _ => Cond.instantiable RX9 11) q) [37] (by decide +kernel)
theorem st_u10 {args : Array Value} {s : State} (hts : ∀ w ∈ lw_tbl, w.before args s = true) : ∃ (cC : ClassId) (iS : Nat → Nat), u_Kn s RX9 TX9 11 cC iS := u_known (n := 11) hts (fun w hw => by
  obtain ⟨k, hk, rfl⟩ := List.mem_map.mp hw
  exact tl_in (tb_u10 k hk)) (hts _ (tl_in (tb_v10 () List.mem_cons_self)))
theorem tb_u11 : ∀ q ∈ (List.range 20), (u_lay RX10 TX10 q) ∈ tables_1 := tb_list (L := List.range 20) (f := fun q => u_lay RX10 TX10 q) [1593, 1595, 1597, 1599, 1601, 1603, 1605, 1607, 1609, 1611, 1613, 1615, 1617, 1619, 1621, 1623, 1625, 1627, 1629, 1631] (by decide +kernel)
theorem tb_v11 : ∀ q ∈ ([()]), ((fun _ => Cond.instantiable RX10 20) q) ∈ tables_1 := tb_list (L := [()]) (f := fun q => (fun _ => Cond.instantiable RX10 20) q) [1568] (by decide +kernel)
theorem st_u11 {args : Array Value} {s : State} (hts : ∀ w ∈ lw_tbl, w.before args s = true) : ∃ (cC : ClassId) (iS : Nat → Nat), u_Kn s RX10 TX10 20 cC iS := u_known (n := 20) hts (fun w hw => by
  obtain ⟨k, hk, rfl⟩ := List.mem_map.mp hw
  exact tl_in (tb_u11 k hk)) (hts _ (tl_in (tb_v11 () List.mem_cons_self)))
theorem tb_a_int : ∀ q ∈ ([()]), ((fun _ => Cond.arrayClass .int) q) ∈ tables_1 := tb_list (L := [()]) (f := fun q => (fun _ => Cond.arrayClass .int) q) [115] (by decide +kernel)
theorem tb_a_byte : ∀ q ∈ ([()]), ((fun _ => Cond.arrayClass .byte) q) ∈ tables_1 := tb_list (L := [()]) (f := fun q => (fun _ => Cond.arrayClass .byte) q) [271] (by decide +kernel)
theorem tb_a_long : ∀ q ∈ ([()]), ((fun _ => Cond.arrayClass .long) q) ∈ tables_1 := tb_list (L := [()]) (f := fun q => (fun _ => Cond.arrayClass .long) q) [2058] (by decide +kernel)
theorem tb_a_double : ∀ q ∈ ([()]), ((fun _ => Cond.arrayClass .double) q) ∈ tables_1 := tb_list (L := [()]) (f := fun q => (fun _ => Cond.arrayClass .double) q) [2059] (by decide +kernel)
theorem st_K {args : Array Value} {s : State} (hts : ∀ w ∈ lw_tbl, w.before args s = true) : ∃ (D : va_G) (cA : Nat → ClassId), va_K D vwCl [(cA 0, .int), (cA 1, .object "FrogParliament$Motion"), (cA 2, .object "FrogParliament$Assembly"), (cA 3, .object "FrogParliament$Command"), (cA 4, .byte), (cA 5, .long), (cA 6, .double)] s := by
  have hu : ∀ c : Nat, ∃ p : ClassId × (Nat → Nat), ∀ q : vw_C, vwCl[c]? = some q → u_Kn s q.1 q.2.1 q.2.2 p.1 p.2 := by
    intro c
    match c with
    | 0 => obtain ⟨a, i, h⟩ := st_u0 hts; exact ⟨(a, i), fun q hq => by cases hq; exact h⟩
    | 1 => obtain ⟨a, i, h⟩ := st_u1 hts; exact ⟨(a, i), fun q hq => by cases hq; exact h⟩
    | 2 => obtain ⟨a, i, h⟩ := st_u2 hts; exact ⟨(a, i), fun q hq => by cases hq; exact h⟩
    | 3 => obtain ⟨a, i, h⟩ := st_u3 hts; exact ⟨(a, i), fun q hq => by cases hq; exact h⟩
    | 4 => obtain ⟨a, i, h⟩ := st_u4 hts; exact ⟨(a, i), fun q hq => by cases hq; exact h⟩
    | 5 => obtain ⟨a, i, h⟩ := st_u5 hts; exact ⟨(a, i), fun q hq => by cases hq; exact h⟩
    | 6 => obtain ⟨a, i, h⟩ := st_u6 hts; exact ⟨(a, i), fun q hq => by cases hq; exact h⟩
    | 7 => obtain ⟨a, i, h⟩ := st_u7 hts; exact ⟨(a, i), fun q hq => by cases hq; exact h⟩
    | 8 => obtain ⟨a, i, h⟩ := st_u8 hts; exact ⟨(a, i), fun q hq => by cases hq; exact h⟩
    | 9 => obtain ⟨a, i, h⟩ := st_u9 hts; exact ⟨(a, i), fun q hq => by cases hq; exact h⟩
    | 10 => obtain ⟨a, i, h⟩ := st_u10 hts; exact ⟨(a, i), fun q hq => by cases hq; exact h⟩
    | 11 => obtain ⟨a, i, h⟩ := st_u11 hts; exact ⟨(a, i), fun q hq => by cases hq; exact h⟩
    | n + 12 => exact ⟨(default, fun _ => 0), fun q hq => nomatch hq⟩
  obtain ⟨P, hP⟩ := Classical.axiomOfChoice hu
  obtain ⟨c0, h0⟩ := arr_int (hts _ (tl_in (tb_a_int () List.mem_cons_self)))
  obtain ⟨c1, h1⟩ := arr_obj (hts _ (tl_in (tb_ao "FrogParliament$Motion" (List.mem_of_getElem? (i := 0) rfl))))
  obtain ⟨c2, h2⟩ := arr_obj (hts _ (tl_in (tb_ao "FrogParliament$Assembly" (List.mem_of_getElem? (i := 1) rfl))))
  obtain ⟨c3, h3⟩ := arr_obj (hts _ (tl_in (tb_ao "FrogParliament$Command" (List.mem_of_getElem? (i := 2) rfl))))
  obtain ⟨c4, h4⟩ := arr_byte (hts _ (tl_in (tb_a_byte () List.mem_cons_self)))
  obtain ⟨c5, h5⟩ := arr_long (hts _ (tl_in (tb_a_long () List.mem_cons_self)))
  obtain ⟨c6, h6⟩ := arr_double (hts _ (tl_in (tb_a_double () List.mem_cons_self)))
  refine ⟨(fun c => (P c).1, fun c => (P c).2), fun k => if k = 0 then c0 else if k = 1 then c1 else if k = 2 then c2 else if k = 3 then c3 else if k = 4 then c4 else if k = 5 then c5 else c6, fun c q hq => hP c q hq, fun k q hq => ?_⟩
  match k, hq with
  | 0, hq => cases hq; exact h0
  | 1, hq => cases hq; exact h1
  | 2, hq => cases hq; exact h2
  | 3, hq => cases hq; exact h3
  | 4, hq => cases hq; exact h4
  | 5, hq => cases hq; exact h5
  | 6, hq => cases hq; exact h6
  | n + 7, hq => exact nomatch hq
theorem st_CC {args : Array Value} {s : State} (hts : ∀ w ∈ lw_tbl, w.before args s = true) (h : gB.before args s = true) : ∃ g : GG, CC g (AL s) s := by
  obtain ⟨D, cA, hK⟩ := st_K hts
  obtain ⟨r, hr⟩ := st_ST hts h
  exact ⟨(D, cA, r), hK, fun q hq => hq, hr D cA, st_NW hts h⟩
theorem tb_z : ∀ q ∈ ([()]), ((fun _ => Cond.selects RJ4 yJ5_isLatin1_aae02 yJ5_isLatin1_aae02) q) ∈ tables_1 := tb_list (L := [()]) (f := fun q => (fun _ => Cond.selects RJ4 yJ5_isLatin1_aae02 yJ5_isLatin1_aae02) q) [1163] (by decide +kernel)
theorem tb_y1 : ∀ q ∈ ([()]), ((fun _ => Cond.privateMethod yJ5_ensureCapacityInternal_d00df) q) ∈ tables_1 := tb_list (L := [()]) (f := fun q => (fun _ => Cond.privateMethod yJ5_ensureCapacityInternal_d00df) q) [1128] (by decide +kernel)
theorem tb_y2 : ∀ q ∈ ([()]), ((fun _ => Cond.instanceMethod yJ5_ensureCapacityInternal_d00df) q) ∈ tables_1 := tb_list (L := [()]) (f := fun q => (fun _ => Cond.instanceMethod yJ5_ensureCapacityInternal_d00df) q) [1129] (by decide +kernel)
theorem tb_y3 : ∀ q ∈ ([()]), ((fun _ => Cond.privateMethod yJ5_newCapacity_0f7a4) q) ∈ tables_1 := tb_list (L := [()]) (f := fun q => (fun _ => Cond.privateMethod yJ5_newCapacity_0f7a4) q) [1132] (by decide +kernel)
theorem tb_y4 : ∀ q ∈ ([()]), ((fun _ => Cond.instanceMethod yJ5_newCapacity_0f7a4) q) ∈ tables_1 := tb_list (L := [()]) (f := fun q => (fun _ => Cond.instanceMethod yJ5_newCapacity_0f7a4) q) [1133] (by decide +kernel)
theorem st_LWg {args : Array Value} {s : State} (hts : ∀ w ∈ lw_tbl, w.before args s = true) : ∀ w ∈ LWg, w.before args s = true := by
  intro w hw
  rcases List.mem_append.mp (List.mem_filter.mp hw).1 with h | h
  · exact hts w h
  · rcases List.mem_cons.mp h with rfl | h
    · exact sel_sub (z := yJ5_isLatin1_aae02) ⟨by decide +kernel, by decide +kernel⟩ (by decide +kernel) (hts _ (tl_in (tb_z () List.mem_cons_self))) (hts _ (tl_in (tb_y1 () List.mem_cons_self))) (hts _ (tl_in (tb_y2 () List.mem_cons_self)))
    · rw [List.mem_singleton.mp h]
      exact sel_sub (z := yJ5_isLatin1_aae02) ⟨by decide +kernel, by decide +kernel⟩ (by decide +kernel) (hts _ (tl_in (tb_z () List.mem_cons_self))) (hts _ (tl_in (tb_y3 () List.mem_cons_self))) (hts _ (tl_in (tb_y4 () List.mem_cons_self)))
