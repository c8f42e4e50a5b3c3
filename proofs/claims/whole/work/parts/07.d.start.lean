theorem xl_1 {w : Cond} (j : Nat) (h : tables_1_1[j]? = some w) : w ∈ lw_tbl := List.mem_append_right _ (List.mem_append_left _ (List.mem_of_getElem? h))
theorem xl_2 {w : Cond} (j : Nat) (h : tables_1_2[j]? = some w) : w ∈ lw_tbl := List.mem_append_right _ (List.mem_append_right _ (List.mem_append_left _ (List.mem_of_getElem? h)))
theorem xl_3 {w : Cond} (j : Nat) (h : tables_1_3[j]? = some w) : w ∈ lw_tbl := List.mem_append_right _ (List.mem_append_right _ (List.mem_append_right _ (List.mem_append_left _ (List.mem_of_getElem? h))))
theorem xl_4 {w : Cond} (j : Nat) (h : tables_1_4[j]? = some w) : w ∈ lw_tbl := List.mem_append_right _ (List.mem_append_right _ (List.mem_append_right _ (List.mem_append_right _ (List.mem_append_left _ (List.mem_of_getElem? h)))))
theorem xl_5 {w : Cond} (j : Nat) (h : tables_1_5[j]? = some w) : w ∈ lw_tbl := List.mem_append_right _ (List.mem_append_right _ (List.mem_append_right _ (List.mem_append_right _ (List.mem_append_right _ (List.mem_append_left _ (List.mem_of_getElem? h))))))
theorem xl_6 {w : Cond} (j : Nat) (h : tables_1_6[j]? = some w) : w ∈ lw_tbl := List.mem_append_right _ (List.mem_append_right _ (List.mem_append_right _ (List.mem_append_right _ (List.mem_append_right _ (List.mem_append_right _ (List.mem_of_getElem? h))))))
theorem xn_f : ∀ q ∈ xc_nf, Cond.fieldLinkNest q.1 q.2.1 q.2.2.1 q.2.2.2.1 q.2.2.2.2.1 q.2.2.2.2.2 ∈ lw_tbl := List.forall_mem_cons.mpr ⟨xl_1 54 rfl, List.forall_mem_cons.mpr ⟨xl_1 55 rfl, List.forall_mem_cons.mpr ⟨xl_1 56 rfl, List.forall_mem_cons.mpr ⟨xl_1 58 rfl, List.forall_mem_cons.mpr ⟨xl_1 60 rfl, List.forall_mem_cons.mpr ⟨xl_1 62 rfl, List.forall_mem_cons.mpr ⟨xl_1 63 rfl, List.forall_mem_cons.mpr ⟨xl_1 64 rfl, List.forall_mem_cons.mpr ⟨xl_1 66 rfl, List.forall_mem_cons.mpr ⟨xl_1 79 rfl, List.forall_mem_cons.mpr ⟨xl_1 80 rfl, List.forall_mem_cons.mpr ⟨xl_1 81 rfl, List.forall_mem_cons.mpr ⟨xl_1 83 rfl, List.forall_mem_cons.mpr ⟨xl_1 84 rfl, List.forall_mem_cons.mpr ⟨xl_1 85 rfl, List.forall_mem_cons.mpr ⟨xl_1 87 rfl, List.forall_mem_cons.mpr ⟨xl_1 88 rfl, List.forall_mem_cons.mpr ⟨xl_1 89 rfl, List.forall_mem_cons.mpr ⟨xl_1 91 rfl, List.forall_mem_cons.mpr ⟨xl_1 92 rfl, List.forall_mem_cons.mpr ⟨xl_1 93 rfl, List.forall_mem_cons.mpr ⟨xl_1 95 rfl, List.forall_mem_cons.mpr ⟨xl_1 96 rfl, List.forall_mem_cons.mpr ⟨xl_1 98 rfl, List.forall_mem_cons.mpr ⟨xl_1 99 rfl, List.forall_mem_cons.mpr ⟨xl_1 100 rfl, List.forall_mem_cons.mpr ⟨xl_1 102 rfl, List.forall_mem_cons.mpr ⟨xl_1 104 rfl, List.forall_mem_cons.mpr ⟨xl_1 106 rfl, List.forall_mem_cons.mpr ⟨xl_1 108 rfl, List.forall_mem_cons.mpr ⟨xl_1 109 rfl, List.forall_mem_cons.mpr ⟨xl_1 111 rfl, List.forall_mem_cons.mpr ⟨xl_1 113 rfl, List.forall_mem_cons.mpr ⟨xl_1 115 rfl, List.forall_mem_cons.mpr ⟨xl_1 117 rfl, List.forall_mem_cons.mpr ⟨xl_1 119 rfl, List.forall_mem_cons.mpr ⟨xl_1 218 rfl, List.forall_mem_cons.mpr ⟨xl_1 220 rfl, List.forall_mem_cons.mpr ⟨xl_2 0 rfl, List.forall_mem_cons.mpr ⟨xl_2 5 rfl, List.forall_mem_cons.mpr ⟨xl_2 7 rfl, List.forall_mem_cons.mpr ⟨xl_2 9 rfl, List.forall_mem_cons.mpr ⟨xl_2 11 rfl, List.forall_mem_cons.mpr ⟨xl_2 41 rfl, List.forall_mem_cons.mpr ⟨xl_2 45 rfl, fun _ h => absurd h List.not_mem_nil⟩⟩⟩⟩⟩⟩⟩⟩⟩⟩⟩⟩⟩⟩⟩⟩⟩⟩⟩⟩⟩⟩⟩⟩⟩⟩⟩⟩⟩⟩⟩⟩⟩⟩⟩⟩⟩⟩⟩⟩⟩⟩⟩⟩⟩
theorem xn_m : ∀ q ∈ xc_nm, Cond.methodLinkNest q.1 q.2.1 q.2.2.1 q.2.2.2 ∈ lw_tbl := List.forall_mem_cons.mpr ⟨xl_1 28 rfl, List.forall_mem_cons.mpr ⟨xl_1 43 rfl, List.forall_mem_cons.mpr ⟨xl_1 49 rfl, List.forall_mem_cons.mpr ⟨xl_1 162 rfl, List.forall_mem_cons.mpr ⟨xl_1 167 rfl, List.forall_mem_cons.mpr ⟨xl_1 213 rfl, List.forall_mem_cons.mpr ⟨xl_1 234 rfl, List.forall_mem_cons.mpr ⟨xl_2 33 rfl, List.forall_mem_cons.mpr ⟨xl_2 38 rfl, List.forall_mem_cons.mpr ⟨xl_3 15 rfl, fun _ h => absurd h List.not_mem_nil⟩⟩⟩⟩⟩⟩⟩⟩⟩⟩
theorem xs_arr {ty : FieldType} {args : Array Value} {s : State} (h : (Cond.arrayClass ty).before args s = true) : ∃ cB : ClassId, ArrOfT s cB ty ∧ s.vm.findClass ("[" ++ ty.toString) = some cB := by
  obtain ⟨cB, k, comp, h1, h2, h3⟩ := Cond.arrayClass_spec h
  exact ⟨cB, fun n z => ⟨fun k h => (by cases h), k, h2, comp, h3⟩, h1⟩
theorem xs_t0 {args : Array Value} {s : State} {A : Nat → Prop} (hs : ∀ w ∈ flatC (Jvm.Cond.and given_1 narrow_1), w.before args s = true) (hA : ∀ a : Nat, a < s.heap.size → ¬ A a) : ∃ t : Nat, ((.static "NobodyFirst$Reader" "HOW_MANY" "[I") : Term).eval args s none [] s = some (.ref t) ∧ va_T .int t 8 (fun k => .int (nb_tab0 k)) A s s.heap := by
  refine va_Tof (by decide) (hs (.arrayOf (.static "NobodyFirst$Reader" "HOW_MANY" "[I") .int) (by decide +kernel)) (va_eqt (z := 8) (hs (.eq (.length (.static "NobodyFirst$Reader" "HOW_MANY" "[I")) (.int 8)) (by decide +kernel))) (fun j hj => ?_) hA
  rcases (show j = 0 ∨ j = 1 ∨ j = 2 ∨ j = 3 ∨ j = 4 ∨ j = 5 ∨ j = 6 ∨ j = 7 by omega) with rfl | rfl | rfl | rfl | rfl | rfl | rfl | rfl
  · exact va_eqt (z := 4) (hs (.eq (.elem (.static "NobodyFirst$Reader" "HOW_MANY" "[I") (.int 0)) (.int 4)) (by decide +kernel))
  · exact va_eqt (z := 2) (hs (.eq (.elem (.static "NobodyFirst$Reader" "HOW_MANY" "[I") (.int 1)) (.int 2)) (by decide +kernel))
  · exact va_eqt (z := 1) (hs (.eq (.elem (.static "NobodyFirst$Reader" "HOW_MANY" "[I") (.int 2)) (.int 1)) (by decide +kernel))
  · exact va_eqt (z := 2) (hs (.eq (.elem (.static "NobodyFirst$Reader" "HOW_MANY" "[I") (.int 3)) (.int 2)) (by decide +kernel))
  · exact va_eqt (z := 1) (hs (.eq (.elem (.static "NobodyFirst$Reader" "HOW_MANY" "[I") (.int 4)) (.int 1)) (by decide +kernel))
  · exact va_eqt (z := 2) (hs (.eq (.elem (.static "NobodyFirst$Reader" "HOW_MANY" "[I") (.int 5)) (.int 2)) (by decide +kernel))
  · exact va_eqt (z := 3) (hs (.eq (.elem (.static "NobodyFirst$Reader" "HOW_MANY" "[I") (.int 6)) (.int 3)) (by decide +kernel))
  · exact va_eqt (z := 3) (hs (.eq (.elem (.static "NobodyFirst$Reader" "HOW_MANY" "[I") (.int 7)) (.int 3)) (by decide +kernel))
theorem xs_t1 {args : Array Value} {s : State} {A : Nat → Prop} (hs : ∀ w ∈ flatC (Jvm.Cond.and given_1 narrow_1), w.before args s = true) (hA : ∀ a : Nat, a < s.heap.size → ¬ A a) : ∃ t : Nat, ((.static "NobodyFirst$Reader" "LEAST" "[I") : Term).eval args s none [] s = some (.ref t) ∧ va_T .int t 32 (fun k => .int (nb_tab1 k)) A s s.heap := by
  refine va_Tof (by decide) (hs (.arrayOf (.static "NobodyFirst$Reader" "LEAST" "[I") .int) (by decide +kernel)) (va_eqt (z := 32) (hs (.eq (.length (.static "NobodyFirst$Reader" "LEAST" "[I")) (.int 32)) (by decide +kernel))) (fun j hj => ?_) hA
  rcases (show j = 0 ∨ j = 1 ∨ j = 2 ∨ j = 3 ∨ j = 4 ∨ j = 5 ∨ j = 6 ∨ j = 7 ∨ j = 8 ∨ j = 9 ∨ j = 10 ∨ j = 11 ∨ j = 12 ∨ j = 13 ∨ j = 14 ∨ j = 15 ∨ j = 16 ∨ j = 17 ∨ j = 18 ∨ j = 19 ∨ j = 20 ∨ j = 21 ∨ j = 22 ∨ j = 23 ∨ j = 24 ∨ j = 25 ∨ j = 26 ∨ j = 27 ∨ j = 28 ∨ j = 29 ∨ j = 30 ∨ j = 31 by omega) with rfl | rfl | rfl | rfl | rfl | rfl | rfl | rfl | rfl | rfl | rfl | rfl | rfl | rfl | rfl | rfl | rfl | rfl | rfl | rfl | rfl | rfl | rfl | rfl | rfl | rfl | rfl | rfl | rfl | rfl | rfl | rfl
  · exact va_eqt (z := 0) (hs (.eq (.elem (.static "NobodyFirst$Reader" "LEAST" "[I") (.int 0)) (.int 0)) (by decide +kernel))
  · exact va_eqt (z := 0) (hs (.eq (.elem (.static "NobodyFirst$Reader" "LEAST" "[I") (.int 1)) (.int 0)) (by decide +kernel))
  · exact va_eqt (z := 0) (hs (.eq (.elem (.static "NobodyFirst$Reader" "LEAST" "[I") (.int 2)) (.int 0)) (by decide +kernel))
  · exact va_eqt (z := 0) (hs (.eq (.elem (.static "NobodyFirst$Reader" "LEAST" "[I") (.int 3)) (.int 0)) (by decide +kernel))
  · exact va_eqt (z := 0) (hs (.eq (.elem (.static "NobodyFirst$Reader" "LEAST" "[I") (.int 4)) (.int 0)) (by decide +kernel))
  · exact va_eqt (z := 1) (hs (.eq (.elem (.static "NobodyFirst$Reader" "LEAST" "[I") (.int 5)) (.int 1)) (by decide +kernel))
  · exact va_eqt (z := 0) (hs (.eq (.elem (.static "NobodyFirst$Reader" "LEAST" "[I") (.int 6)) (.int 0)) (by decide +kernel))
  · exact va_eqt (z := 0) (hs (.eq (.elem (.static "NobodyFirst$Reader" "LEAST" "[I") (.int 7)) (.int 0)) (by decide +kernel))
  · exact va_eqt (z := 0) (hs (.eq (.elem (.static "NobodyFirst$Reader" "LEAST" "[I") (.int 8)) (.int 0)) (by decide +kernel))
  · exact va_eqt (z := 0) (hs (.eq (.elem (.static "NobodyFirst$Reader" "LEAST" "[I") (.int 9)) (.int 0)) (by decide +kernel))
  · exact va_eqt (z := 0) (hs (.eq (.elem (.static "NobodyFirst$Reader" "LEAST" "[I") (.int 10)) (.int 0)) (by decide +kernel))
  · exact va_eqt (z := 0) (hs (.eq (.elem (.static "NobodyFirst$Reader" "LEAST" "[I") (.int 11)) (.int 0)) (by decide +kernel))
  · exact va_eqt (z := 0) (hs (.eq (.elem (.static "NobodyFirst$Reader" "LEAST" "[I") (.int 12)) (.int 0)) (by decide +kernel))
  · exact va_eqt (z := 0) (hs (.eq (.elem (.static "NobodyFirst$Reader" "LEAST" "[I") (.int 13)) (.int 0)) (by decide +kernel))
  · exact va_eqt (z := 0) (hs (.eq (.elem (.static "NobodyFirst$Reader" "LEAST" "[I") (.int 14)) (.int 0)) (by decide +kernel))
  · exact va_eqt (z := 0) (hs (.eq (.elem (.static "NobodyFirst$Reader" "LEAST" "[I") (.int 15)) (.int 0)) (by decide +kernel))
  · exact va_eqt (z := 0) (hs (.eq (.elem (.static "NobodyFirst$Reader" "LEAST" "[I") (.int 16)) (.int 0)) (by decide +kernel))
  · exact va_eqt (z := 0) (hs (.eq (.elem (.static "NobodyFirst$Reader" "LEAST" "[I") (.int 17)) (.int 0)) (by decide +kernel))
  · exact va_eqt (z := 0) (hs (.eq (.elem (.static "NobodyFirst$Reader" "LEAST" "[I") (.int 18)) (.int 0)) (by decide +kernel))
  · exact va_eqt (z := 0) (hs (.eq (.elem (.static "NobodyFirst$Reader" "LEAST" "[I") (.int 19)) (.int 0)) (by decide +kernel))
  · exact va_eqt (z := 1) (hs (.eq (.elem (.static "NobodyFirst$Reader" "LEAST" "[I") (.int 20)) (.int 1)) (by decide +kernel))
  · exact va_eqt (z := 0) (hs (.eq (.elem (.static "NobodyFirst$Reader" "LEAST" "[I") (.int 21)) (.int 0)) (by decide +kernel))
  · exact va_eqt (z := 0) (hs (.eq (.elem (.static "NobodyFirst$Reader" "LEAST" "[I") (.int 22)) (.int 0)) (by decide +kernel))
  · exact va_eqt (z := 0) (hs (.eq (.elem (.static "NobodyFirst$Reader" "LEAST" "[I") (.int 23)) (.int 0)) (by decide +kernel))
  · exact va_eqt (z := 1) (hs (.eq (.elem (.static "NobodyFirst$Reader" "LEAST" "[I") (.int 24)) (.int 1)) (by decide +kernel))
  · exact va_eqt (z := 0) (hs (.eq (.elem (.static "NobodyFirst$Reader" "LEAST" "[I") (.int 25)) (.int 0)) (by decide +kernel))
  · exact va_eqt (z := 0) (hs (.eq (.elem (.static "NobodyFirst$Reader" "LEAST" "[I") (.int 26)) (.int 0)) (by decide +kernel))
  · exact va_eqt (z := 0) (hs (.eq (.elem (.static "NobodyFirst$Reader" "LEAST" "[I") (.int 27)) (.int 0)) (by decide +kernel))
  · exact va_eqt (z := 0) (hs (.eq (.elem (.static "NobodyFirst$Reader" "LEAST" "[I") (.int 28)) (.int 0)) (by decide +kernel))
  · exact va_eqt (z := 0) (hs (.eq (.elem (.static "NobodyFirst$Reader" "LEAST" "[I") (.int 29)) (.int 0)) (by decide +kernel))
  · exact va_eqt (z := 0) (hs (.eq (.elem (.static "NobodyFirst$Reader" "LEAST" "[I") (.int 30)) (.int 0)) (by decide +kernel))
  · exact va_eqt (z := 0) (hs (.eq (.elem (.static "NobodyFirst$Reader" "LEAST" "[I") (.int 31)) (.int 0)) (by decide +kernel))
theorem xs_t2 {args : Array Value} {s : State} {A : Nat → Prop} (hs : ∀ w ∈ flatC (Jvm.Cond.and given_1 narrow_1), w.before args s = true) (hA : ∀ a : Nat, a < s.heap.size → ¬ A a) : ∃ t : Nat, ((.static "NobodyFirst$Reader" "MOST" "[I") : Term).eval args s none [] s = some (.ref t) ∧ va_T .int t 32 (fun k => .int (nb_tab2 k)) A s s.heap := by
  refine va_Tof (by decide) (hs (.arrayOf (.static "NobodyFirst$Reader" "MOST" "[I") .int) (by decide +kernel)) (va_eqt (z := 32) (hs (.eq (.length (.static "NobodyFirst$Reader" "MOST" "[I")) (.int 32)) (by decide +kernel))) (fun j hj => ?_) hA
  rcases (show j = 0 ∨ j = 1 ∨ j = 2 ∨ j = 3 ∨ j = 4 ∨ j = 5 ∨ j = 6 ∨ j = 7 ∨ j = 8 ∨ j = 9 ∨ j = 10 ∨ j = 11 ∨ j = 12 ∨ j = 13 ∨ j = 14 ∨ j = 15 ∨ j = 16 ∨ j = 17 ∨ j = 18 ∨ j = 19 ∨ j = 20 ∨ j = 21 ∨ j = 22 ∨ j = 23 ∨ j = 24 ∨ j = 25 ∨ j = 26 ∨ j = 27 ∨ j = 28 ∨ j = 29 ∨ j = 30 ∨ j = 31 by omega) with rfl | rfl | rfl | rfl | rfl | rfl | rfl | rfl | rfl | rfl | rfl | rfl | rfl | rfl | rfl | rfl | rfl | rfl | rfl | rfl | rfl | rfl | rfl | rfl | rfl | rfl | rfl | rfl | rfl | rfl | rfl | rfl
  · exact va_eqt (z := 3) (hs (.eq (.elem (.static "NobodyFirst$Reader" "MOST" "[I") (.int 0)) (.int 3)) (by decide +kernel))
  · exact va_eqt (z := 359) (hs (.eq (.elem (.static "NobodyFirst$Reader" "MOST" "[I") (.int 1)) (.int 359)) (by decide +kernel))
  · exact va_eqt (z := 199) (hs (.eq (.elem (.static "NobodyFirst$Reader" "MOST" "[I") (.int 2)) (.int 199)) (by decide +kernel))
  · exact va_eqt (z := 5) (hs (.eq (.elem (.static "NobodyFirst$Reader" "MOST" "[I") (.int 3)) (.int 5)) (by decide +kernel))
  · exact va_eqt (z := 359) (hs (.eq (.elem (.static "NobodyFirst$Reader" "MOST" "[I") (.int 4)) (.int 359)) (by decide +kernel))
  · exact va_eqt (z := 99) (hs (.eq (.elem (.static "NobodyFirst$Reader" "MOST" "[I") (.int 5)) (.int 99)) (by decide +kernel))
  · exact va_eqt (z := 0) (hs (.eq (.elem (.static "NobodyFirst$Reader" "MOST" "[I") (.int 6)) (.int 0)) (by decide +kernel))
  · exact va_eqt (z := 0) (hs (.eq (.elem (.static "NobodyFirst$Reader" "MOST" "[I") (.int 7)) (.int 0)) (by decide +kernel))
  · exact va_eqt (z := 359) (hs (.eq (.elem (.static "NobodyFirst$Reader" "MOST" "[I") (.int 8)) (.int 359)) (by decide +kernel))
  · exact va_eqt (z := 0) (hs (.eq (.elem (.static "NobodyFirst$Reader" "MOST" "[I") (.int 9)) (.int 0)) (by decide +kernel))
  · exact va_eqt (z := 0) (hs (.eq (.elem (.static "NobodyFirst$Reader" "MOST" "[I") (.int 10)) (.int 0)) (by decide +kernel))
  · exact va_eqt (z := 0) (hs (.eq (.elem (.static "NobodyFirst$Reader" "MOST" "[I") (.int 11)) (.int 0)) (by decide +kernel))
  · exact va_eqt (z := 99) (hs (.eq (.elem (.static "NobodyFirst$Reader" "MOST" "[I") (.int 12)) (.int 99)) (by decide +kernel))
  · exact va_eqt (z := 60) (hs (.eq (.elem (.static "NobodyFirst$Reader" "MOST" "[I") (.int 13)) (.int 60)) (by decide +kernel))
  · exact va_eqt (z := 0) (hs (.eq (.elem (.static "NobodyFirst$Reader" "MOST" "[I") (.int 14)) (.int 0)) (by decide +kernel))
  · exact va_eqt (z := 0) (hs (.eq (.elem (.static "NobodyFirst$Reader" "MOST" "[I") (.int 15)) (.int 0)) (by decide +kernel))
  · exact va_eqt (z := 359) (hs (.eq (.elem (.static "NobodyFirst$Reader" "MOST" "[I") (.int 16)) (.int 359)) (by decide +kernel))
  · exact va_eqt (z := 0) (hs (.eq (.elem (.static "NobodyFirst$Reader" "MOST" "[I") (.int 17)) (.int 0)) (by decide +kernel))
  · exact va_eqt (z := 0) (hs (.eq (.elem (.static "NobodyFirst$Reader" "MOST" "[I") (.int 18)) (.int 0)) (by decide +kernel))
  · exact va_eqt (z := 0) (hs (.eq (.elem (.static "NobodyFirst$Reader" "MOST" "[I") (.int 19)) (.int 0)) (by decide +kernel))
  · exact va_eqt (z := 99) (hs (.eq (.elem (.static "NobodyFirst$Reader" "MOST" "[I") (.int 20)) (.int 99)) (by decide +kernel))
  · exact va_eqt (z := 999) (hs (.eq (.elem (.static "NobodyFirst$Reader" "MOST" "[I") (.int 21)) (.int 999)) (by decide +kernel))
  · exact va_eqt (z := 0) (hs (.eq (.elem (.static "NobodyFirst$Reader" "MOST" "[I") (.int 22)) (.int 0)) (by decide +kernel))
  · exact va_eqt (z := 0) (hs (.eq (.elem (.static "NobodyFirst$Reader" "MOST" "[I") (.int 23)) (.int 0)) (by decide +kernel))
  · exact va_eqt (z := 3) (hs (.eq (.elem (.static "NobodyFirst$Reader" "MOST" "[I") (.int 24)) (.int 3)) (by decide +kernel))
  · exact va_eqt (z := 99) (hs (.eq (.elem (.static "NobodyFirst$Reader" "MOST" "[I") (.int 25)) (.int 99)) (by decide +kernel))
  · exact va_eqt (z := 99) (hs (.eq (.elem (.static "NobodyFirst$Reader" "MOST" "[I") (.int 26)) (.int 99)) (by decide +kernel))
  · exact va_eqt (z := 0) (hs (.eq (.elem (.static "NobodyFirst$Reader" "MOST" "[I") (.int 27)) (.int 0)) (by decide +kernel))
  · exact va_eqt (z := 7) (hs (.eq (.elem (.static "NobodyFirst$Reader" "MOST" "[I") (.int 28)) (.int 7)) (by decide +kernel))
  · exact va_eqt (z := 359) (hs (.eq (.elem (.static "NobodyFirst$Reader" "MOST" "[I") (.int 29)) (.int 359)) (by decide +kernel))
  · exact va_eqt (z := 1) (hs (.eq (.elem (.static "NobodyFirst$Reader" "MOST" "[I") (.int 30)) (.int 1)) (by decide +kernel))
  · exact va_eqt (z := 0) (hs (.eq (.elem (.static "NobodyFirst$Reader" "MOST" "[I") (.int 31)) (.int 0)) (by decide +kernel))
theorem xs_t3 {args : Array Value} {s : State} {A : Nat → Prop} (hs : ∀ w ∈ flatC (Jvm.Cond.and given_1 narrow_1), w.before args s = true) (hA : ∀ a : Nat, a < s.heap.size → ¬ A a) : ∃ t : Nat, ((.field (.string "NobodyFirst$Reader" 24) "java/lang/String" "value" "[B") : Term).eval args s none [] s = some (.ref t) ∧ va_T .byte t 8 (fun k => .int (nb_tab3 k)) A s s.heap := by
  refine va_Tof (by decide) (hs (.arrayOf (.field (.string "NobodyFirst$Reader" 24) "java/lang/String" "value" "[B") .byte) (by decide +kernel)) (va_eqt (z := 8) (hs (.eq (.length (.field (.string "NobodyFirst$Reader" 24) "java/lang/String" "value" "[B")) (.int 8)) (by decide +kernel))) (fun j hj => ?_) hA
  rcases (show j = 0 ∨ j = 1 ∨ j = 2 ∨ j = 3 ∨ j = 4 ∨ j = 5 ∨ j = 6 ∨ j = 7 by omega) with rfl | rfl | rfl | rfl | rfl | rfl | rfl | rfl
  · exact va_eqt (z := 103) (hs (.eq (.elem (.field (.string "NobodyFirst$Reader" 24) "java/lang/String" "value" "[B") (.int 0)) (.int 103)) (by decide +kernel))
  · exact va_eqt (z := 115) (hs (.eq (.elem (.field (.string "NobodyFirst$Reader" 24) "java/lang/String" "value" "[B") (.int 1)) (.int 115)) (by decide +kernel))
  · exact va_eqt (z := 119) (hs (.eq (.elem (.field (.string "NobodyFirst$Reader" 24) "java/lang/String" "value" "[B") (.int 2)) (.int 119)) (by decide +kernel))
  · exact va_eqt (z := 108) (hs (.eq (.elem (.field (.string "NobodyFirst$Reader" 24) "java/lang/String" "value" "[B") (.int 3)) (.int 108)) (by decide +kernel))
  · exact va_eqt (z := 98) (hs (.eq (.elem (.field (.string "NobodyFirst$Reader" 24) "java/lang/String" "value" "[B") (.int 4)) (.int 98)) (by decide +kernel))
  · exact va_eqt (z := 99) (hs (.eq (.elem (.field (.string "NobodyFirst$Reader" 24) "java/lang/String" "value" "[B") (.int 5)) (.int 99)) (by decide +kernel))
  · exact va_eqt (z := 117) (hs (.eq (.elem (.field (.string "NobodyFirst$Reader" 24) "java/lang/String" "value" "[B") (.int 6)) (.int 117)) (by decide +kernel))
  · exact va_eqt (z := 121) (hs (.eq (.elem (.field (.string "NobodyFirst$Reader" 24) "java/lang/String" "value" "[B") (.int 7)) (.int 121)) (by decide +kernel))
set_option maxHeartbeats 4000000 in
set_option maxRecDepth 100000 in
theorem xs_Z {s : State} {b : Nat} {A : Nat → Prop} (hts0 : ∀ w ∈ lw_tbl, w.before #[Value.ref b] s = true) (hgv : (Jvm.Cond.and given_1 narrow_1).before #[Value.ref b] s = true) (hA : ∀ a : Nat, a < s.heap.size → ¬ A a) : ∃ tb : Nat → Nat, xc_Z A tb s s.heap := by
  have hs := flat_of_before _ hgv
  obtain ⟨t0, e0, h0⟩ := xs_t0 hs hA
  obtain ⟨t1, e1, h1⟩ := xs_t1 hs hA
  obtain ⟨t2, e2, h2⟩ := xs_t2 hs hA
  obtain ⟨t4, e4, h4⟩ := xs_t3 hs hA
  obtain ⟨t3, c3, cA3, kA3, q1, q2, q3, q4, q5, q6, -⟩ := Cond.exactly_spec (args := #[Value.ref b]) (first := s) (o := none) (s := s) (idx := []) (t := .string "NobodyFirst$Reader" 24) (cls := "java/lang/String") (hs (.exactly (.string "NobodyFirst$Reader" 24) "java/lang/String") (by decide +kernel))
  refine ⟨fun k => [t0, t1, t2, t3, t4].getD k 0, fun q hq => va_Nw.of rfl (hts0 _ (xn_f q hq)), fun q hq => va_Nw.of rfl (hts0 _ (xn_m q hq)), ⟨va_Zref (hts0 _ (xl_2 217 rfl)) (hts0 _ (xl_1 2 rfl)) e0 hA, h0⟩, ⟨va_Zref (hts0 _ (xl_2 223 rfl)) (hts0 _ (xl_1 2 rfl)) e1 hA, h1⟩, ⟨va_Zref (hts0 _ (xl_2 225 rfl)) (hts0 _ (xl_1 2 rfl)) e2 hA, h2⟩, ?_, ?_, ?_, ?_, h4, ?_⟩
  · exact vk_R.of (hts0 _ (xl_2 127 rfl)) q1
  · exact ⟨cA3, q3, q5, by rw [q6]; exact q2, hA t3 (Array.getElem?_eq_some_iff.mp q3).1⟩
  · exact vk_OFof q1 (va_eqt (z := 0) (hs (.eq (.field (.string "NobodyFirst$Reader" 24) "java/lang/String" "coder" "B") (.int 0)) (by decide +kernel))) hA
  · exact vk_OFof q1 e4 hA
  · exact va_Zof (hts0 _ (xl_2 141 rfl)) (hts0 _ (xl_1 12 rfl)) (va_eqi (z := 1) (hs (.eq (.static "java/lang/String" "COMPACT_STRINGS" "Z") (.int 1)) (by decide +kernel))) hA
theorem xs_pre7 {s : State} {H : Heap} {D : va_G} {cA : Nat → ClassId} {tb : Nat → Nat} {a : Nat} {ws : va_W} {A0 A : Nat → Prop} {locs : List Loc} (hK : va_K D vwCl (nb_ty cA) s) (hP : va_P D vwCl ws H) (hD : va_D A ws) (hZ : xc_Z A0 tb s s.heap) (hS : va_S A0 s.heap H locs) (hF : ∀ q, va_A ws H.size q → A0 q) (hA0 : ∀ q, q < s.heap.size → ¬ A0 q) : PreS s H (va_Pc [.ref a] (fun U => U.heap.size = H.size ∧ va_P D vwCl ws U.heap ∧ va_K D vwCl (nb_ty cA) U ∧ va_D (fun _ => True) ws ∧ xc_Z (va_A ws H.size) tb U U.heap)) (.ref a :: []) :=
  ⟨fun b U g mk q => by
    obtain ⟨q0, q1, qP, qK, qD, qZ⟩ := q
    exact ⟨q0, q1, qP, va_K.moved (u := U) (U := U.calling g mk b) (Vm.Alike.refl U.vm) qK, qD, xc_Zok.2.1 U (U.calling g mk b) U.heap rfl qZ⟩,
   fun U hU hw => ⟨rfl, by rw [hU], by rw [hU]; exact hP, va_K.moved hw.alike hK, hD.weaken (fun _ _ _ _ => trivial), by
    rw [hU]
    exact xc_Zok.2.2 U s.heap H (fun q h1 _ => hS.2.1 q h1 (hA0 q h1)) (xc_Zok.1 s U s.heap hw (xc_Z_narrow hZ hF))⟩⟩
theorem xs_pre8 {s : State} {H : Heap} {D : va_G} {cA : Nat → ClassId} {a : Nat} {ws : va_W} {A : Nat → Prop} (hK : va_K D vwCl (nb_ty cA) s) (hP : va_P D vwCl ws H) (hD : va_D A ws) : PreS s H (va_Pc [.ref a] (fun U => U.heap.size = H.size ∧ va_P D vwCl ws U.heap ∧ va_K D vwCl (nb_ty cA) U ∧ va_D (fun _ => True) ws)) (.ref a :: []) :=
  ⟨fun b U g mk q => by
    obtain ⟨q0, q1, qP, qK, qD⟩ := q
    exact ⟨q0, q1, qP, va_K.moved (u := U) (U := U.calling g mk b) (Vm.Alike.refl U.vm) qK, qD⟩,
   fun U hU hw => ⟨rfl, by rw [hU], by rw [hU]; exact hP, va_K.moved hw.alike hK, hD.weaken (fun _ _ _ _ => trivial)⟩⟩
set_option maxHeartbeats 4000000 in
set_option maxRecDepth 100000 in
theorem start_open (Rel : nb_St → nb_St → Prop) (hp : xp_All Rel) (hinit : ∃ (N : Nat) (σ τ : nb_St), fX7_init N = some σ ∧ fX8_init N = some τ ∧ Rel σ τ) {p : Program} {e : Env} {s : State} {m : MethodId} {below : List Frame} {meth : Method} {c : Code} (l : Launch) {b L : Nat} {xs : Nat → Int32} (hL : L ≤ 2048) (C0 : lw_At p s m meth c b L xs) : W p l e room_1 s m #[Value.ref b] below meth c s.heap [] 0 0 (lw_Z below #[Value.ref b] s) (entryFrame m ([Value.ref b] : List Value).toArray 4) := by
  obtain ⟨hx, hb, hr, hml, hown, hts0, hX, hbl, hlocks, hgv⟩ := id C0
  have hts : ∀ w ∈ xT, w.before #[Value.ref b] s = true := fun w h => hts0 w (List.mem_filter.mp h).1
  have hA : ∀ q : Nat, s.heap.size ≤ q → (fun q : Nat => s.heap.size ≤ q) q := fun _ h => h
  have hA0 : ∀ q : Nat, q < s.heap.size → ¬ (fun q : Nat => s.heap.size ≤ q) q := fun q h => Nat.not_le.mpr h
  obtain ⟨tb, hZ⟩ := xs_Z (A := fun q : Nat => s.heap.size ≤ q) hts0 hgv hA0
  obtain ⟨c0, iS0, hKn0⟩ := u_known (C := RX0) (T := TX0) (N := 14) (n := 14) hts inT_X0 (hts _ tw1_161)
  obtain ⟨c1, iS1, hKn1⟩ := u_known (C := RX1) (T := TX1) (N := 9) (n := 9) hts inT_X1 (hts _ tw1_233)
  obtain ⟨c2, iS2, hKn2⟩ := u_known (C := RX2) (T := TX2) (N := 4) (n := 4) hts inT_X2 (hts _ tw1_212)
  obtain ⟨c3, iS3, hKn3⟩ := u_known (C := RX3) (T := TX3) (N := 5) (n := 5) hts inT_X3 (hts _ tw2_32)
  obtain ⟨c4, iS4, hKn4⟩ := u_known (C := RX4) (T := TX4) (N := 18) (n := 18) hts inT_X4 (hts _ tw1_42)
  obtain ⟨c5, iS5, hKn5⟩ := u_known (C := RX5) (T := TX5) (N := 2) (n := 2) hts inT_X5 (hts _ tw1_27)
  obtain ⟨c6, iS6, hKn6⟩ := u_known (C := RX6) (T := TX6) (N := 5) (n := 5) hts inT_X6 (hts _ tw1_48)
  obtain ⟨c7, iS7, hKn7⟩ := u_known (C := RX7) (T := TX7) (N := 9) (n := 9) hts inT_X7 (hts _ tw1_19)
  obtain ⟨c8, iS8, hKn8⟩ := u_known (C := RX8) (T := TX8) (N := 40) (n := 40) hts inT_X8 (hts _ tw4_114)
  obtain ⟨b0, hb0, hf0⟩ := xs_arr (hts _ tw1_40)
  obtain ⟨b1, hb1, hf1⟩ := xs_arr (hts _ tw1_39)
  obtain ⟨b2, hb2, hf2⟩ := xs_arr (hts _ tw2_57)
  obtain ⟨D, hKc⟩ : ∃ D : va_G, ∀ (k : Nat) (q : vw_C), vwCl[k]? = some q → u_Kn s q.1 q.2.1 q.2.2 (D.1 k) (D.2 k) := by
    refine ⟨(fun k => if k = 0 then c0 else if k = 1 then c1 else if k = 2 then c2 else if k = 3 then c3 else if k = 4 then c4 else if k = 5 then c5 else if k = 6 then c6 else if k = 7 then c7 else c8, fun k => if k = 0 then iS0 else if k = 1 then iS1 else if k = 2 then iS2 else if k = 3 then iS3 else if k = 4 then iS4 else if k = 5 then iS5 else if k = 6 then iS6 else if k = 7 then iS7 else iS8), ?_⟩
    intro k q hq
    match k, hq with
    | 0, hq => cases hq; exact hKn0
    | 1, hq => cases hq; exact hKn1
    | 2, hq => cases hq; exact hKn2
    | 3, hq => cases hq; exact hKn3
    | 4, hq => cases hq; exact hKn4
    | 5, hq => cases hq; exact hKn5
    | 6, hq => cases hq; exact hKn6
    | 7, hq => cases hq; exact hKn7
    | 8, hq => cases hq; exact hKn8
    | k + 9, hq => simp [vwCl] at hq
  obtain ⟨cA, hc0, hc1, hc2⟩ : ∃ cA : Nat → ClassId, cA 0 = b0 ∧ cA 1 = b1 ∧ cA 2 = b2 := ⟨fun k => if k = 0 then b0 else if k = 1 then b1 else b2, rfl, rfl, rfl⟩
  have hK : va_K D vwCl (nb_ty cA) s := by
    refine ⟨hKc, fun k q hq => ?_⟩
    match k, hq with
    | 0, hq => cases hq; rw [hc0]; exact ⟨hb0, hf0⟩
    | 1, hq => cases hq; rw [hc1]; exact ⟨hb1, hf1⟩
    | 2, hq => cases hq; rw [hc2]; exact ⟨hb2, hf2⟩
    | k + 3, hq => simp [nb_ty] at hq
  obtain ⟨N, σ, τ, hfx, hfm, hR⟩ := hinit
  have hS : va_S (fun q : Nat => s.heap.size ≤ q) s.heap s.heap [] := va_S.rf
  have hP : va_P D vwCl [] s.heap := fun k q h => by simp at h
  have hD : va_D (fun q : Nat => s.heap.size ≤ q) [] := ⟨fun i j p q h => by simp at h, fun k q h => by simp at h⟩
  have hl := lv_entry ([.ref b]) (n := 4) (Nat.le_of_ble_eq_true rfl)
  rw [lg_entry_eq]
  generalize (lg_sl ([.ref b]) ++ List.replicate (4 - (lg_sl ([.ref b])).length) Slot.unset).toArray = ls at hl ⊢
  have hl : lv_has ls 4 [(0, .ref b)] := hl
  refine va_new (ci := 7) (fs := [.null, .int 0, .null, .null, .null, .null, .null, .null, .null]) (C := RX7) (T := TX7) (N := 9) hx hb hts inT_X7 tyX7 tyX7_ok hown (hts _ tw1_18) (hts _ tw1_19) (hts _ tw1_1) hK hP hD hS hA rfl (fun j hj => by rcases (show j = 0 ∨ j = 1 ∨ j = 2 ∨ j = 3 ∨ j = 4 ∨ j = 5 ∨ j = 6 ∨ j = 7 ∨ j = 8 by omega) with rfl | rfl | rfl | rfl | rfl | rfl | rfl | rfl | rfl <;> rfl) (Nat.le_of_ble_eq_true rfl) (Nat.le_of_ble_eq_true rfl) dL_law_0 (fun q0 H hP hD hS => ?_)
  have hP : va_P D vwCl [(q0, .inr (7, [.null, .int 0, .null, .null, .null, .null, .null, .null, .null]))] H := hP
  have hD : va_D (fun q : Nat => s.heap.size ≤ q) [(q0, .inr (7, [.null, .int 0, .null, .null, .null, .null, .null, .null, .null]))] := hD
  refine W.widen (k := 1) (n := 9) (Nat.le_of_ble_eq_true rfl) (Nat.le_of_ble_eq_true rfl) ?_
  refine lv_dup hx hb dL_law_3 rfl ?_
  have hFc : ∀ q, va_A [(q0, .inr (7, [.null, .int 0, .null, .null, .null, .null, .null, .null, .null]))] H.size q → (fun q : Nat => s.heap.size ≤ q) q := nb_freeL (wr := []) hD hS hA
  refine va_callv (va_runI (As := []) (rest := [.ref q0]) ⟨hx, hb, hml, hown, hts⟩ (c_X7_init l D cA tb q0 H.size hfx) (cwI 0 hts (xg_P tw1_22) rfl rfl rfl (hts _ tw1_1) (hts _ tw1_20) (hts _ tw1_21) rfl (by decide +kernel) ⟨Nat.le_of_ble_eq_true rfl, Nat.le_of_ble_eq_true rfl⟩) (xs_pre7 hK hP hD hZ hS hFc hA0) rfl rfl hl.1 rfl (lv_room (Nat.le_of_ble_eq_true rfl)) dL_law_4 ⟨Nat.le_of_ble_eq_true rfl, Nat.le_of_ble_eq_true rfl⟩) hS (fun q _ h => hFc q h) hFc (fun ad1 t H1 locs ht hvm hw hB hz1 hk1 hS => ?_)
  have hw : ad1 0 = q0 := hw
  subst hw
  obtain ⟨hP1, hK1, hD1⟩ := hB
  rw [ht] at hP1
  have hP : va_P D vwCl (nb_cs xc_sh ad1 cA σ) H1 := hP1
  have hD : va_D (fun q : Nat => s.heap.size ≤ q) (nb_cs xc_sh ad1 cA σ) := hD1.weaken (fun k q _ h => hFc q.1 h)
  generalize H1 = H at hP hS ⊢
  refine W.widen (k := 79) (n := 883) (Nat.le_of_ble_eq_true rfl) (Nat.le_of_ble_eq_true rfl) ?_
  refine lv_astore_n (lv' := [(1, .ref (ad1 0)), (0, .ref b)]) hx hb dL_law_7 rfl hl (by decide) rfl (fun ls hl => ?_)
  refine va_new (ci := 8) (fs := [.int 0, .null, .null, .null, .null, .null, .null, .null, .null, .null, .null, .null, .null, .null, .null, .null, .null, .null, .null, .null, .null, .null, .null, .null, .int 0, .int 0, .null, .int 0, .null, .int 0, .int 0, .int 0, .int 0, .null, .null, .null, .int 0, .null, .null, .null]) (C := RX8) (T := TX8) (N := 40) hx hb hts inT_X8 tyX8 tyX8_ok hown (hts _ tw4_113) (hts _ tw4_114) (hts _ tw1_10) hK hP hD hS hA rfl (fun j hj => by rcases (show j = 0 ∨ j = 1 ∨ j = 2 ∨ j = 3 ∨ j = 4 ∨ j = 5 ∨ j = 6 ∨ j = 7 ∨ j = 8 ∨ j = 9 ∨ j = 10 ∨ j = 11 ∨ j = 12 ∨ j = 13 ∨ j = 14 ∨ j = 15 ∨ j = 16 ∨ j = 17 ∨ j = 18 ∨ j = 19 ∨ j = 20 ∨ j = 21 ∨ j = 22 ∨ j = 23 ∨ j = 24 ∨ j = 25 ∨ j = 26 ∨ j = 27 ∨ j = 28 ∨ j = 29 ∨ j = 30 ∨ j = 31 ∨ j = 32 ∨ j = 33 ∨ j = 34 ∨ j = 35 ∨ j = 36 ∨ j = 37 ∨ j = 38 ∨ j = 39 by omega) with rfl | rfl | rfl | rfl | rfl | rfl | rfl | rfl | rfl | rfl | rfl | rfl | rfl | rfl | rfl | rfl | rfl | rfl | rfl | rfl | rfl | rfl | rfl | rfl | rfl | rfl | rfl | rfl | rfl | rfl | rfl | rfl | rfl | rfl | rfl | rfl | rfl | rfl | rfl | rfl <;> rfl) (Nat.le_of_ble_eq_true rfl) (Nat.le_of_ble_eq_true rfl) dL_law_8 (fun q1 H hP hD hS => ?_)
  refine W.widen (k := 80) (n := 923) (Nat.le_of_ble_eq_true rfl) (Nat.le_of_ble_eq_true rfl) ?_
  refine lv_dup hx hb dL_law_11 rfl ?_
  have hPc := nb_lastP hP
  have hDc := nb_lastD hD
  have hFc := nb_freeL hD hS hA
  refine va_callv (va_runI (As := []) (rest := [.ref q1]) ⟨hx, hb, hml, hown, hts⟩ (c_X8_init l D cA q1 H.size hfm) (cwI 0 hts (xg_P tw4_117) rfl rfl rfl (hts _ tw1_10) (hts _ tw4_115) (hts _ tw4_116) rfl (by decide +kernel) ⟨Nat.le_of_ble_eq_true rfl, Nat.le_of_ble_eq_true rfl⟩) (xs_pre8 hK hPc hDc) rfl rfl hl.1 rfl (lv_room (Nat.le_of_ble_eq_true rfl)) dL_law_12 ⟨Nat.le_of_ble_eq_true rfl, Nat.le_of_ble_eq_true rfl⟩) hS (fun q _ h => hFc q h) hFc (fun ad2 t H1 locs ht hvm hw hB hz1 hk1 hS => ?_)
  have hw : ad2 0 = q1 := hw
  subst hw
  obtain ⟨hP1, hK1, hD1⟩ := hB
  rw [ht] at hP1
  obtain ⟨hP, hD⟩ := nb_joinL hP hD hk1 hFc hP1 hD1
  generalize H1 = H at hP hS ⊢
  refine W.widen (k := 111) (n := 1570) (Nat.le_of_ble_eq_true rfl) (Nat.le_of_ble_eq_true rfl) ?_
  refine lv_astore_n (lv' := [(2, .ref (ad2 0)), (1, .ref (ad1 0)), (0, .ref b)]) hx hb dL_law_15 rfl hl (by decide) rfl (fun ls hl => ?_)
  refine lv_iconst (v := (0 : Int32)) hx hb dL_law_16 (by decide) ?_
  refine lv_istore_n (lv' := [(3, .int 0), (2, .ref (ad2 0)), (1, .ref (ad1 0)), (0, .ref b)]) hx hb dL_law_17 rfl hl (by decide) rfl (fun ls hl => ?_)
  have hA1 := nb_A_of (nb_firstD hD)
  have hA2 := nb_A_of (nb_lastD hD)
  have hdd : ∀ i j, i < xc_sh.length → j < xm_sh.length → ad1 i ≠ ad2 j := by
    intro i j hi hj e9
    have g1 := nb_cs_get (ad := ad1) (cA := cA) (σ := σ) (List.getElem?_eq_getElem hi)
    have g2 := nb_cs_get (ad := ad2) (cA := cA) (σ := τ) (List.getElem?_eq_getElem hj)
    have h9 := hD.1 i ((nb_cs xc_sh ad1 cA σ).length + j) _ _ (nb_at1 g1) (nb_at2.trans g2) (by rw [nb_ce_ad, nb_ce_ad]; exact e9)
    have h8 := (List.getElem?_eq_some_iff.mp g1).1
    omega
  exact law_loop Rel hp hL C0 hK (nb_inj_of (nb_firstD hD)) (nb_inj_of (nb_lastD hD)) hA1 hA2 hdd (xc_Z_narrow hZ hA1) (L + 1) 0 (Nat.zero_le L) (by omega) σ τ hR H locs ls (nb_firstP hP) (nb_lastP hP) hS (lv_sub hl [3, 2, 1, 0] rfl)
