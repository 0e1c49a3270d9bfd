/-! THE START: what the Statement gives is the small machine's surroundings (sEnv, va_K); the claim out of one run of the small machine (start_of). -/
def nvC : List Cond := flatC (Jvm.Cond.and given_1 narrow_1)
theorem st_ty {args : Array Value} {s : State} {ty : FieldType} (h : (Cond.arrayClass ty).before args s = true) : ∃ cA : ClassId, ArrOfT s cA ty ∧ s.vm.findClass ("[" ++ ty.toString) = some cA := by
  obtain ⟨c, k, comp, h1, h2, h3⟩ := Cond.arrayClass_spec (args := args) (first := s) (o := none) (s := s) (idx := []) h
  exact ⟨c, fun n z => ⟨fun k h => (by cases h), k, h2, comp, h3⟩, h1⟩
theorem st_tyA {s : State} (h : (Cond.arrayOver (.array .int)).before #[] s = true) : ∃ cA : ClassId, ArrOfT s cA (.array .int) ∧ s.vm.findClass ("[" ++ (FieldType.array .int).toString) = some cA := by
  obtain ⟨comp, c, k, -, -, h3, h4, h5⟩ := aoB_spec h
  exact ⟨c, fun n z => ⟨fun k h => (by cases h), k, h3, comp, h4⟩, h5⟩
theorem st_ao {args : Array Value} {s : State} (h : (Cond.arrayOver (.array .int)).before args s = true) : (Cond.arrayOver (.array .int)).before #[] s = true := by
  first
    | exact h
    | (simp only [Cond.before, Cond.holds, Cond.value] at h ⊢; exact h)
    | (unfold Cond.before Cond.holds at h ⊢; simp only [Cond.value] at h ⊢; exact h)
section START
variable {args : Array Value} {s : State} {A : Nat → Prop}
theorem st_Z0 (hts : ∀ w ∈ lw_tbl, w.before args s = true) (hgv : ∀ w ∈ nvC, w.before args s = true) (hA : ∀ a : Nat, a < s.heap.size → ¬ A a) : va_Z "java/lang/String" "COMPACT_STRINGS" "Z" (.int 1) A s s.heap := va_Zof (hts _ (List.mem_of_getElem? (i := 275) (by decide +kernel))) (hts _ (List.mem_of_getElem? (i := 229) (by decide +kernel))) (va_eqi (hgv _ (List.mem_of_getElem? (i := 4) (by decide +kernel)))) hA
theorem st_Z1 (hts : ∀ w ∈ lw_tbl, w.before args s = true) (hgv : ∀ w ∈ nvC, w.before args s = true) (hA : ∀ a : Nat, a < s.heap.size → ¬ A a) : va_Zq "jdk/internal/util/Preconditions" "SIOOBE_FORMATTER" "Ljava/util/function/BiFunction;" A s s.heap := va_Zqof (hts _ (List.mem_of_getElem? (i := 291) (by decide +kernel))) (hts _ (List.mem_of_getElem? (i := 231) (by decide +kernel))) (hgv _ (List.mem_of_getElem? (i := 5) (by decide +kernel))) hA
theorem st_Z2 (hts : ∀ w ∈ lw_tbl, w.before args s = true) (hgv : ∀ w ∈ nvC, w.before args s = true) (hA : ∀ a : Nat, a < s.heap.size → ¬ A a) : ∃ t : Nat, va_Z "TurnHouse$History" "CHANGING" "[I" (.ref t) A s s.heap ∧ va_T .int t 4 (fun j => .int (([0, 2, 3, 5] : List Int32).getD j 0)) A s s.heap := by
  obtain ⟨t, h1, h2⟩ := va_Tof (tm := (.static "TurnHouse$History" "CHANGING" "[I")) (ty := .int) (N := 4) (f := fun j => .int (([0, 2, 3, 5] : List Int32).getD j 0)) (A := A) (by decide) (hgv _ (List.mem_of_getElem? (i := 10) (by decide +kernel))) (va_eqt (hgv _ (List.mem_of_getElem? (i := 11) (by decide +kernel)))) (fun j hj => by
    match j, hj with
    | 0, _ => exact va_eqt (hgv _ (List.mem_of_getElem? (i := 12) (by decide +kernel)))
    | 1, _ => exact va_eqt (hgv _ (List.mem_of_getElem? (i := 13) (by decide +kernel)))
    | 2, _ => exact va_eqt (hgv _ (List.mem_of_getElem? (i := 14) (by decide +kernel)))
    | 3, _ => exact va_eqt (hgv _ (List.mem_of_getElem? (i := 15) (by decide +kernel)))) hA
  exact ⟨t, va_Zref (hts _ (List.mem_of_getElem? (i := 1507) (by decide +kernel))) (hts _ (List.mem_of_getElem? (i := 242) (by decide +kernel))) h1 hA, h2⟩
theorem st_Z3 (hts : ∀ w ∈ lw_tbl, w.before args s = true) (hgv : ∀ w ∈ nvC, w.before args s = true) (hA : ∀ a : Nat, a < s.heap.size → ¬ A a) : ∃ t : Nat, va_Z "TurnHouse$History" "ASKING" "[I" (.ref t) A s s.heap ∧ va_T .int t 4 (fun j => .int (([1, 1, 4, 6] : List Int32).getD j 0)) A s s.heap := by
  obtain ⟨t, h1, h2⟩ := va_Tof (tm := (.static "TurnHouse$History" "ASKING" "[I")) (ty := .int) (N := 4) (f := fun j => .int (([1, 1, 4, 6] : List Int32).getD j 0)) (A := A) (by decide) (hgv _ (List.mem_of_getElem? (i := 17) (by decide +kernel))) (va_eqt (hgv _ (List.mem_of_getElem? (i := 18) (by decide +kernel)))) (fun j hj => by
    match j, hj with
    | 0, _ => exact va_eqt (hgv _ (List.mem_of_getElem? (i := 19) (by decide +kernel)))
    | 1, _ => exact va_eqt (hgv _ (List.mem_of_getElem? (i := 20) (by decide +kernel)))
    | 2, _ => exact va_eqt (hgv _ (List.mem_of_getElem? (i := 21) (by decide +kernel)))
    | 3, _ => exact va_eqt (hgv _ (List.mem_of_getElem? (i := 22) (by decide +kernel)))) hA
  exact ⟨t, va_Zref (hts _ (List.mem_of_getElem? (i := 1509) (by decide +kernel))) (hts _ (List.mem_of_getElem? (i := 242) (by decide +kernel))) h1 hA, h2⟩
theorem st_Z4 (hts : ∀ w ∈ lw_tbl, w.before args s = true) (hgv : ∀ w ∈ nvC, w.before args s = true) (hA : ∀ a : Nat, a < s.heap.size → ¬ A a) : va_Z "TurnHouseModel" "CELL" "J" (.long 1667591276) A s s.heap := va_Zof (hts _ (List.mem_of_getElem? (i := 2460) (by decide +kernel))) (hts _ (List.mem_of_getElem? (i := 243) (by decide +kernel))) (va_eql (hgv _ (List.mem_of_getElem? (i := 23) (by decide +kernel)))) hA
theorem st_Z5 (hts : ∀ w ∈ lw_tbl, w.before args s = true) (hgv : ∀ w ∈ nvC, w.before args s = true) (hA : ∀ a : Nat, a < s.heap.size → ¬ A a) : va_Z "TurnHouseModel" "LOCK" "J" (.long 1819239275) A s s.heap := va_Zof (hts _ (List.mem_of_getElem? (i := 2481) (by decide +kernel))) (hts _ (List.mem_of_getElem? (i := 243) (by decide +kernel))) (va_eql (hgv _ (List.mem_of_getElem? (i := 24) (by decide +kernel)))) hA
theorem st_Z6 (hts : ∀ w ∈ lw_tbl, w.before args s = true) (hgv : ∀ w ∈ nvC, w.before args s = true) (hA : ∀ a : Nat, a < s.heap.size → ¬ A a) : va_Z "TurnHouseModel" "INTO" "J" (.long 1768846447) A s s.heap := va_Zof (hts _ (List.mem_of_getElem? (i := 2483) (by decide +kernel))) (hts _ (List.mem_of_getElem? (i := 243) (by decide +kernel))) (va_eql (hgv _ (List.mem_of_getElem? (i := 25) (by decide +kernel)))) hA
theorem st_Z7 (hts : ∀ w ∈ lw_tbl, w.before args s = true) (hgv : ∀ w ∈ nvC, w.before args s = true) (hA : ∀ a : Nat, a < s.heap.size → ¬ A a) : va_Z "TurnHouseModel" "CAS" "J" (.long 6513011) A s s.heap := va_Zof (hts _ (List.mem_of_getElem? (i := 2485) (by decide +kernel))) (hts _ (List.mem_of_getElem? (i := 243) (by decide +kernel))) (va_eql (hgv _ (List.mem_of_getElem? (i := 26) (by decide +kernel)))) hA
theorem st_Z8 (hts : ∀ w ∈ lw_tbl, w.before args s = true) (hgv : ∀ w ∈ nvC, w.before args s = true) (hA : ∀ a : Nat, a < s.heap.size → ¬ A a) : va_Z "TurnHouseModel" "ADD" "J" (.long 6382692) A s s.heap := va_Zof (hts _ (List.mem_of_getElem? (i := 2487) (by decide +kernel))) (hts _ (List.mem_of_getElem? (i := 243) (by decide +kernel))) (va_eql (hgv _ (List.mem_of_getElem? (i := 27) (by decide +kernel)))) hA
theorem st_Z9 (hts : ∀ w ∈ lw_tbl, w.before args s = true) (hgv : ∀ w ∈ nvC, w.before args s = true) (hA : ∀ a : Nat, a < s.heap.size → ¬ A a) : va_Z "TurnHouseModel" "WAIT" "J" (.long 2002872692) A s s.heap := va_Zof (hts _ (List.mem_of_getElem? (i := 2489) (by decide +kernel))) (hts _ (List.mem_of_getElem? (i := 243) (by decide +kernel))) (va_eql (hgv _ (List.mem_of_getElem? (i := 28) (by decide +kernel)))) hA
theorem st_Z10 (hts : ∀ w ∈ lw_tbl, w.before args s = true) (hgv : ∀ w ∈ nvC, w.before args s = true) (hA : ∀ a : Nat, a < s.heap.size → ¬ A a) : va_Z "TurnHouseModel" "WAKE" "J" (.long 2002873189) A s s.heap := va_Zof (hts _ (List.mem_of_getElem? (i := 2491) (by decide +kernel))) (hts _ (List.mem_of_getElem? (i := 243) (by decide +kernel))) (va_eql (hgv _ (List.mem_of_getElem? (i := 29) (by decide +kernel)))) hA
theorem st_Z11 (hts : ∀ w ∈ lw_tbl, w.before args s = true) (hgv : ∀ w ∈ nvC, w.before args s = true) (hA : ∀ a : Nat, a < s.heap.size → ¬ A a) : va_Z "TurnHouseModel" "JOIN" "J" (.long 1785686382) A s s.heap := va_Zof (hts _ (List.mem_of_getElem? (i := 2493) (by decide +kernel))) (hts _ (List.mem_of_getElem? (i := 243) (by decide +kernel))) (va_eql (hgv _ (List.mem_of_getElem? (i := 30) (by decide +kernel)))) hA
theorem st_Z12 (hts : ∀ w ∈ lw_tbl, w.before args s = true) (hgv : ∀ w ∈ nvC, w.before args s = true) (hA : ∀ a : Nat, a < s.heap.size → ¬ A a) : va_Z "TurnHouseModel" "HALT" "J" (.long 1751215220) A s s.heap := va_Zof (hts _ (List.mem_of_getElem? (i := 2495) (by decide +kernel))) (hts _ (List.mem_of_getElem? (i := 243) (by decide +kernel))) (va_eql (hgv _ (List.mem_of_getElem? (i := 31) (by decide +kernel)))) hA
theorem st_Z13 (hts : ∀ w ∈ lw_tbl, w.before args s = true) (hgv : ∀ w ∈ nvC, w.before args s = true) (hA : ∀ a : Nat, a < s.heap.size → ¬ A a) : va_Z "TurnHouseModel" "CALL" "J" (.long 1667329132) A s s.heap := va_Zof (hts _ (List.mem_of_getElem? (i := 2497) (by decide +kernel))) (hts _ (List.mem_of_getElem? (i := 243) (by decide +kernel))) (va_eql (hgv _ (List.mem_of_getElem? (i := 32) (by decide +kernel)))) hA
theorem st_Z14 (hts : ∀ w ∈ lw_tbl, w.before args s = true) (hgv : ∀ w ∈ nvC, w.before args s = true) (hA : ∀ a : Nat, a < s.heap.size → ¬ A a) : va_Z "TurnHouseModel" "IF" "J" (.long 26982) A s s.heap := va_Zof (hts _ (List.mem_of_getElem? (i := 2499) (by decide +kernel))) (hts _ (List.mem_of_getElem? (i := 243) (by decide +kernel))) (va_eql (hgv _ (List.mem_of_getElem? (i := 33) (by decide +kernel)))) hA
theorem st_Z15 (hts : ∀ w ∈ lw_tbl, w.before args s = true) (hgv : ∀ w ∈ nvC, w.before args s = true) (hA : ∀ a : Nat, a < s.heap.size → ¬ A a) : va_Z "TurnHouseModel" "ELSE" "J" (.long 1701606245) A s s.heap := va_Zof (hts _ (List.mem_of_getElem? (i := 2501) (by decide +kernel))) (hts _ (List.mem_of_getElem? (i := 243) (by decide +kernel))) (va_eql (hgv _ (List.mem_of_getElem? (i := 34) (by decide +kernel)))) hA
theorem st_Z16 (hts : ∀ w ∈ lw_tbl, w.before args s = true) (hgv : ∀ w ∈ nvC, w.before args s = true) (hA : ∀ a : Nat, a < s.heap.size → ¬ A a) : va_Z "TurnHouseModel" "FENCE" "J" (.long 439788397413) A s s.heap := va_Zof (hts _ (List.mem_of_getElem? (i := 2503) (by decide +kernel))) (hts _ (List.mem_of_getElem? (i := 243) (by decide +kernel))) (va_eql (hgv _ (List.mem_of_getElem? (i := 35) (by decide +kernel)))) hA
theorem st_Z17 (hts : ∀ w ∈ lw_tbl, w.before args s = true) (hgv : ∀ w ∈ nvC, w.before args s = true) (hA : ∀ a : Nat, a < s.heap.size → ¬ A a) : va_Z "TurnHouseModel" "LATER" "J" (.long 465491486066) A s s.heap := va_Zof (hts _ (List.mem_of_getElem? (i := 2505) (by decide +kernel))) (hts _ (List.mem_of_getElem? (i := 243) (by decide +kernel))) (va_eql (hgv _ (List.mem_of_getElem? (i := 36) (by decide +kernel)))) hA
theorem st_Z18 (hts : ∀ w ∈ lw_tbl, w.before args s = true) (hgv : ∀ w ∈ nvC, w.before args s = true) (hA : ∀ a : Nat, a < s.heap.size → ¬ A a) : va_Z "TurnHouseModel" "START" "J" (.long 495873782388) A s s.heap := va_Zof (hts _ (List.mem_of_getElem? (i := 2507) (by decide +kernel))) (hts _ (List.mem_of_getElem? (i := 243) (by decide +kernel))) (va_eql (hgv _ (List.mem_of_getElem? (i := 37) (by decide +kernel)))) hA
theorem st_Z19 (hts : ∀ w ∈ lw_tbl, w.before args s = true) (hgv : ∀ w ∈ nvC, w.before args s = true) (hA : ∀ a : Nat, a < s.heap.size → ¬ A a) : va_Z "TurnHouseModel" "REPLY" "J" (.long 491328138361) A s s.heap := va_Zof (hts _ (List.mem_of_getElem? (i := 2509) (by decide +kernel))) (hts _ (List.mem_of_getElem? (i := 243) (by decide +kernel))) (va_eql (hgv _ (List.mem_of_getElem? (i := 38) (by decide +kernel)))) hA
theorem st_Z20 (hts : ∀ w ∈ lw_tbl, w.before args s = true) (hgv : ∀ w ∈ nvC, w.before args s = true) (hA : ∀ a : Nat, a < s.heap.size → ¬ A a) : va_Z "TurnHouseModel" "WHILE" "J" (.long 512852847717) A s s.heap := va_Zof (hts _ (List.mem_of_getElem? (i := 2511) (by decide +kernel))) (hts _ (List.mem_of_getElem? (i := 243) (by decide +kernel))) (va_eql (hgv _ (List.mem_of_getElem? (i := 39) (by decide +kernel)))) hA
theorem st_Z21 (hts : ∀ w ∈ lw_tbl, w.before args s = true) (hgv : ∀ w ∈ nvC, w.before args s = true) (hA : ∀ a : Nat, a < s.heap.size → ¬ A a) : va_Z "TurnHouseModel" "THREAD" "J" (.long 127991944667492) A s s.heap := va_Zof (hts _ (List.mem_of_getElem? (i := 2513) (by decide +kernel))) (hts _ (List.mem_of_getElem? (i := 243) (by decide +kernel))) (va_eql (hgv _ (List.mem_of_getElem? (i := 40) (by decide +kernel)))) hA
theorem st_Z22 (hts : ∀ w ∈ lw_tbl, w.before args s = true) (hgv : ∀ w ∈ nvC, w.before args s = true) (hA : ∀ a : Nat, a < s.heap.size → ¬ A a) : va_Z "TurnHouseModel" "UNLOCK" "J" (.long 129117126091627) A s s.heap := va_Zof (hts _ (List.mem_of_getElem? (i := 2515) (by decide +kernel))) (hts _ (List.mem_of_getElem? (i := 243) (by decide +kernel))) (va_eql (hgv _ (List.mem_of_getElem? (i := 41) (by decide +kernel)))) hA
theorem st_Z23 (hts : ∀ w ∈ lw_tbl, w.before args s = true) (hgv : ∀ w ∈ nvC, w.before args s = true) (hA : ∀ a : Nat, a < s.heap.size → ¬ A a) : va_Z "TurnHouseModel" "ASSERT" "J" (.long 107148485161588) A s s.heap := va_Zof (hts _ (List.mem_of_getElem? (i := 2517) (by decide +kernel))) (hts _ (List.mem_of_getElem? (i := 243) (by decide +kernel))) (va_eql (hgv _ (List.mem_of_getElem? (i := 42) (by decide +kernel)))) hA
theorem st_Z24 (hts : ∀ w ∈ lw_tbl, w.before args s = true) (hgv : ∀ w ∈ nvC, w.before args s = true) (hA : ∀ a : Nat, a < s.heap.size → ¬ A a) : va_Z "TurnHouseModel" "WAKEALL" "J" (.long 33602636118846572) A s s.heap := va_Zof (hts _ (List.mem_of_getElem? (i := 2519) (by decide +kernel))) (hts _ (List.mem_of_getElem? (i := 243) (by decide +kernel))) (va_eql (hgv _ (List.mem_of_getElem? (i := 43) (by decide +kernel)))) hA
theorem st_Z25 (hts : ∀ w ∈ lw_tbl, w.before args s = true) (hgv : ∀ w ∈ nvC, w.before args s = true) (hA : ∀ a : Nat, a < s.heap.size → ¬ A a) : va_Z "TurnHouseModel" "VOLATILE" "J" (.long 8534158984711072869) A s s.heap := va_Zof (hts _ (List.mem_of_getElem? (i := 2521) (by decide +kernel))) (hts _ (List.mem_of_getElem? (i := 243) (by decide +kernel))) (va_eql (hgv _ (List.mem_of_getElem? (i := 44) (by decide +kernel)))) hA
theorem st_Z26 (hts : ∀ w ∈ lw_tbl, w.before args s = true) (hgv : ∀ w ∈ nvC, w.before args s = true) (hA : ∀ a : Nat, a < s.heap.size → ¬ A a) : va_Z "TurnHouseModel" "ALWAYS" "J" (.long 107118487239027) A s s.heap := va_Zof (hts _ (List.mem_of_getElem? (i := 2523) (by decide +kernel))) (hts _ (List.mem_of_getElem? (i := 243) (by decide +kernel))) (va_eql (hgv _ (List.mem_of_getElem? (i := 45) (by decide +kernel)))) hA
theorem st_Z27 (hts : ∀ w ∈ lw_tbl, w.before args s = true) (hgv : ∀ w ∈ nvC, w.before args s = true) (hA : ∀ a : Nat, a < s.heap.size → ¬ A a) : va_Z "TurnHouseModel" "NEVER" "J" (.long 474148660594) A s s.heap := va_Zof (hts _ (List.mem_of_getElem? (i := 2525) (by decide +kernel))) (hts _ (List.mem_of_getElem? (i := 243) (by decide +kernel))) (va_eql (hgv _ (List.mem_of_getElem? (i := 46) (by decide +kernel)))) hA
theorem st_Z28 (hts : ∀ w ∈ lw_tbl, w.before args s = true) (hgv : ∀ w ∈ nvC, w.before args s = true) (hA : ∀ a : Nat, a < s.heap.size → ¬ A a) : va_Z "TurnHouseModel" "MAY" "J" (.long 7168377) A s s.heap := va_Zof (hts _ (List.mem_of_getElem? (i := 2527) (by decide +kernel))) (hts _ (List.mem_of_getElem? (i := 243) (by decide +kernel))) (va_eql (hgv _ (List.mem_of_getElem? (i := 47) (by decide +kernel)))) hA
theorem st_Z29 (hts : ∀ w ∈ lw_tbl, w.before args s = true) (hgv : ∀ w ∈ nvC, w.before args s = true) (hA : ∀ a : Nat, a < s.heap.size → ¬ A a) : va_Z "TurnHouseModel" "MUST" "J" (.long 1836413812) A s s.heap := va_Zof (hts _ (List.mem_of_getElem? (i := 2529) (by decide +kernel))) (hts _ (List.mem_of_getElem? (i := 243) (by decide +kernel))) (va_eql (hgv _ (List.mem_of_getElem? (i := 48) (by decide +kernel)))) hA
theorem st_Z30 (hts : ∀ w ∈ lw_tbl, w.before args s = true) (hgv : ∀ w ∈ nvC, w.before args s = true) (hA : ∀ a : Nat, a < s.heap.size → ¬ A a) : va_Z "TurnHouseModel" "LEADS" "J" (.long 465557349491) A s s.heap := va_Zof (hts _ (List.mem_of_getElem? (i := 2531) (by decide +kernel))) (hts _ (List.mem_of_getElem? (i := 243) (by decide +kernel))) (va_eql (hgv _ (List.mem_of_getElem? (i := 49) (by decide +kernel)))) hA
theorem st_Z31 (hts : ∀ w ∈ lw_tbl, w.before args s = true) (hgv : ∀ w ∈ nvC, w.before args s = true) (hA : ∀ a : Nat, a < s.heap.size → ¬ A a) : va_Z "TurnHouseModel" "FAIR" "J" (.long 1717660018) A s s.heap := va_Zof (hts _ (List.mem_of_getElem? (i := 2533) (by decide +kernel))) (hts _ (List.mem_of_getElem? (i := 243) (by decide +kernel))) (va_eql (hgv _ (List.mem_of_getElem? (i := 50) (by decide +kernel)))) hA
theorem st_Z32 (hts : ∀ w ∈ lw_tbl, w.before args s = true) (hgv : ∀ w ∈ nvC, w.before args s = true) (hA : ∀ a : Nat, a < s.heap.size → ¬ A a) : va_Z "TurnHouseModel" "ENDED_WORD" "J" (.long 435643770212) A s s.heap := va_Zof (hts _ (List.mem_of_getElem? (i := 2535) (by decide +kernel))) (hts _ (List.mem_of_getElem? (i := 243) (by decide +kernel))) (va_eql (hgv _ (List.mem_of_getElem? (i := 51) (by decide +kernel)))) hA
theorem st_Z33 (hts : ∀ w ∈ lw_tbl, w.before args s = true) (hgv : ∀ w ∈ nvC, w.before args s = true) (hA : ∀ a : Nat, a < s.heap.size → ¬ A a) : va_Z "TurnHouseModel" "WRONG_WORD" "J" (.long 513021013607) A s s.heap := va_Zof (hts _ (List.mem_of_getElem? (i := 2537) (by decide +kernel))) (hts _ (List.mem_of_getElem? (i := 243) (by decide +kernel))) (va_eql (hgv _ (List.mem_of_getElem? (i := 52) (by decide +kernel)))) hA
theorem st_Z34 (hts : ∀ w ∈ lw_tbl, w.before args s = true) (hgv : ∀ w ∈ nvC, w.before args s = true) (hA : ∀ a : Nat, a < s.heap.size → ¬ A a) : va_Z "TurnHouseModel" "WAITS_WORD" "J" (.long 512735409267) A s s.heap := va_Zof (hts _ (List.mem_of_getElem? (i := 2539) (by decide +kernel))) (hts _ (List.mem_of_getElem? (i := 243) (by decide +kernel))) (va_eql (hgv _ (List.mem_of_getElem? (i := 53) (by decide +kernel)))) hA
theorem st_Z35 (hts : ∀ w ∈ lw_tbl, w.before args s = true) (hgv : ∀ w ∈ nvC, w.before args s = true) (hA : ∀ a : Nat, a < s.heap.size → ¬ A a) : va_Z "TurnHouseModel" "HELD_WORD" "J" (.long 1751477348) A s s.heap := va_Zof (hts _ (List.mem_of_getElem? (i := 2541) (by decide +kernel))) (hts _ (List.mem_of_getElem? (i := 243) (by decide +kernel))) (va_eql (hgv _ (List.mem_of_getElem? (i := 54) (by decide +kernel)))) hA
theorem st_Z36 (hts : ∀ w ∈ lw_tbl, w.before args s = true) (hgv : ∀ w ∈ nvC, w.before args s = true) (hA : ∀ a : Nat, a < s.heap.size → ¬ A a) : va_Z "TurnHouseModel" "STUCK" "J" (.long 495875089259) A s s.heap := va_Zof (hts _ (List.mem_of_getElem? (i := 2543) (by decide +kernel))) (hts _ (List.mem_of_getElem? (i := 243) (by decide +kernel))) (va_eql (hgv _ (List.mem_of_getElem? (i := 55) (by decide +kernel)))) hA
theorem st_Z37 (hts : ∀ w ∈ lw_tbl, w.before args s = true) (hgv : ∀ w ∈ nvC, w.before args s = true) (hA : ∀ a : Nat, a < s.heap.size → ¬ A a) : va_Z "TurnHouseModel" "WRITE" "J" (.long 513020621925) A s s.heap := va_Zof (hts _ (List.mem_of_getElem? (i := 2913) (by decide +kernel))) (hts _ (List.mem_of_getElem? (i := 243) (by decide +kernel))) (va_eql (hgv _ (List.mem_of_getElem? (i := 56) (by decide +kernel)))) hA
theorem st_Z38 (hts : ∀ w ∈ lw_tbl, w.before args s = true) (hgv : ∀ w ∈ nvC, w.before args s = true) (hA : ∀ a : Nat, a < s.heap.size → ¬ A a) : va_Z "TurnHouseModel" "PLUS" "J" (.long 1886156147) A s s.heap := va_Zof (hts _ (List.mem_of_getElem? (i := 2915) (by decide +kernel))) (hts _ (List.mem_of_getElem? (i := 243) (by decide +kernel))) (va_eql (hgv _ (List.mem_of_getElem? (i := 57) (by decide +kernel)))) hA
theorem st_Z39 (hts : ∀ w ∈ lw_tbl, w.before args s = true) (hgv : ∀ w ∈ nvC, w.before args s = true) (hA : ∀ a : Nat, a < s.heap.size → ¬ A a) : va_Z "TurnHouseModel" "PUSH" "J" (.long 1886745448) A s s.heap := va_Zof (hts _ (List.mem_of_getElem? (i := 2917) (by decide +kernel))) (hts _ (List.mem_of_getElem? (i := 243) (by decide +kernel))) (va_eql (hgv _ (List.mem_of_getElem? (i := 58) (by decide +kernel)))) hA
theorem st_Z40 (hts : ∀ w ∈ lw_tbl, w.before args s = true) (hgv : ∀ w ∈ nvC, w.before args s = true) (hA : ∀ a : Nat, a < s.heap.size → ¬ A a) : va_Z "TurnHouseModel" "PUT" "J" (.long 7370100) A s s.heap := va_Zof (hts _ (List.mem_of_getElem? (i := 2919) (by decide +kernel))) (hts _ (List.mem_of_getElem? (i := 243) (by decide +kernel))) (va_eql (hgv _ (List.mem_of_getElem? (i := 59) (by decide +kernel)))) hA
theorem st_Z41 (hts : ∀ w ∈ lw_tbl, w.before args s = true) (hgv : ∀ w ∈ nvC, w.before args s = true) (hA : ∀ a : Nat, a < s.heap.size → ¬ A a) : va_Z "TurnHouseModel" "READ" "J" (.long 1919246692) A s s.heap := va_Zof (hts _ (List.mem_of_getElem? (i := 2921) (by decide +kernel))) (hts _ (List.mem_of_getElem? (i := 243) (by decide +kernel))) (va_eql (hgv _ (List.mem_of_getElem? (i := 60) (by decide +kernel)))) hA
theorem st_Z42 (hts : ∀ w ∈ lw_tbl, w.before args s = true) (hgv : ∀ w ∈ nvC, w.before args s = true) (hA : ∀ a : Nat, a < s.heap.size → ¬ A a) : va_Z "TurnHouseModel" "POP" "J" (.long 7368560) A s s.heap := va_Zof (hts _ (List.mem_of_getElem? (i := 2923) (by decide +kernel))) (hts _ (List.mem_of_getElem? (i := 243) (by decide +kernel))) (va_eql (hgv _ (List.mem_of_getElem? (i := 61) (by decide +kernel)))) hA
theorem st_Z43 (hts : ∀ w ∈ lw_tbl, w.before args s = true) (hgv : ∀ w ∈ nvC, w.before args s = true) (hA : ∀ a : Nat, a < s.heap.size → ¬ A a) : va_Z "TurnHouseModel" "GET" "J" (.long 6776180) A s s.heap := va_Zof (hts _ (List.mem_of_getElem? (i := 2925) (by decide +kernel))) (hts _ (List.mem_of_getElem? (i := 243) (by decide +kernel))) (va_eql (hgv _ (List.mem_of_getElem? (i := 62) (by decide +kernel)))) hA
def st_tm (i : Nat) : Term := .string (stOwn i) (stIdx i)
theorem st_el (hts : ∀ w ∈ lw_tbl, w.before args s = true) (hgv : ∀ w ∈ nvC, w.before args s = true) (hA : ∀ a : Nat, a < s.heap.size → ¬ A a) : ∀ (e : Nat) (bs : List Int32) (k : Nat), (bs.length ≤ 300 ∧ (List.range bs.length).all (fun j => decide (nvC[k + j]? = some (Cond.eq (.elem (.field (st_tm e) "java/lang/String" "value" "[B") (.int (Int32.ofNat j))) (.int (bs.getD j 0))))) = true) → ∀ j : Nat, j < bs.length → (Cond.eq (.elem (.field (st_tm e) "java/lang/String" "value" "[B") (.int (Int32.ofNat j))) (.int (bs.getD j 0))).before args s = true := by
  intro e bs k h j hj
  have h1 := List.all_eq_true.mp h.2 j (List.mem_range.mpr hj)
  exact hgv _ (List.mem_of_getElem? (of_decide_eq_true h1))
set_option maxRecDepth 100000 in
theorem st_b0 : (stBy 0).length ≤ 300 ∧ (List.range (stBy 0).length).all (fun j => decide (nvC[67 + j]? = some (Cond.eq (.elem (.field (st_tm 0) "java/lang/String" "value" "[B") (.int (Int32.ofNat j))) (.int ((stBy 0).getD j 0))))) = true := by decide +kernel
set_option maxRecDepth 100000 in
theorem st_b1 : (stBy 1).length ≤ 300 ∧ (List.range (stBy 1).length).all (fun j => decide (nvC[256 + j]? = some (Cond.eq (.elem (.field (st_tm 1) "java/lang/String" "value" "[B") (.int (Int32.ofNat j))) (.int ((stBy 1).getD j 0))))) = true := by decide +kernel
set_option maxRecDepth 100000 in
theorem st_b2 : (stBy 2).length ≤ 300 ∧ (List.range (stBy 2).length).all (fun j => decide (nvC[293 + j]? = some (Cond.eq (.elem (.field (st_tm 2) "java/lang/String" "value" "[B") (.int (Int32.ofNat j))) (.int ((stBy 2).getD j 0))))) = true := by decide +kernel
set_option maxRecDepth 100000 in
set_option maxHeartbeats 4000000 in
theorem st_S (hts : ∀ w ∈ lw_tbl, w.before args s = true) (hgv : ∀ w ∈ nvC, w.before args s = true) (hA : ∀ a : Nat, a < s.heap.size → ¬ A a) : ∃ adK adV : Nat → Nat, vk_S 3 [185, 32, 16] [stBy 0, stBy 1, stBy 2] adK adV A s s.heap ∧ ∀ i : Nat, i < 3 → (st_tm i).eval args s none [] s = some (.ref (adK i)) := by
  refine vk_Sof (tm := st_tm) (N := 3) (fun i hi => by
    match i, hi with
    | 0, _ => exact Nat.le_of_ble_eq_true rfl
    | 1, _ => exact Nat.le_of_ble_eq_true rfl
    | 2, _ => exact Nat.le_of_ble_eq_true rfl) (fun i hi => by
    match i, hi with
    | 0, _ => exact (hgv _ (List.mem_of_getElem? (i := 63) (by decide +kernel)))
    | 1, _ => exact (hgv _ (List.mem_of_getElem? (i := 252) (by decide +kernel)))
    | 2, _ => exact (hgv _ (List.mem_of_getElem? (i := 289) (by decide +kernel)))) (fun i hi => by
    match i, hi with
    | 0, _ => exact (hgv _ (List.mem_of_getElem? (i := 64) (by decide +kernel)))
    | 1, _ => exact (hgv _ (List.mem_of_getElem? (i := 253) (by decide +kernel)))
    | 2, _ => exact (hgv _ (List.mem_of_getElem? (i := 290) (by decide +kernel)))) (fun i hi => by
    match i, hi with
    | 0, _ => exact (hgv _ (List.mem_of_getElem? (i := 65) (by decide +kernel)))
    | 1, _ => exact (hgv _ (List.mem_of_getElem? (i := 254) (by decide +kernel)))
    | 2, _ => exact (hgv _ (List.mem_of_getElem? (i := 291) (by decide +kernel)))) (fun i hi => by
    match i, hi with
    | 0, _ => exact (hgv _ (List.mem_of_getElem? (i := 66) (by decide +kernel)))
    | 1, _ => exact (hgv _ (List.mem_of_getElem? (i := 255) (by decide +kernel)))
    | 2, _ => exact (hgv _ (List.mem_of_getElem? (i := 292) (by decide +kernel)))) (fun i hi j hj => by
    match i, hi with
    | 0, _ => exact st_el hts hgv hA 0 (stBy 0) 67 st_b0 j hj
    | 1, _ => exact st_el hts hgv hA 1 (stBy 1) 256 st_b1 j hj
    | 2, _ => exact st_el hts hgv hA 2 (stBy 2) 293 st_b2 j hj) (fun i j hi hj hij => by
    match i, j, hi, hj, hij with
    | 0, 0, _, _, q => exact absurd rfl q
    | 0, 1, _, _, _ => exact Or.inl (hgv _ (List.mem_of_getElem? (i := 288) (by decide +kernel)))
    | 0, 2, _, _, _ => exact Or.inl (hgv _ (List.mem_of_getElem? (i := 309) (by decide +kernel)))
    | 1, 0, _, _, _ => exact Or.inr (hgv _ (List.mem_of_getElem? (i := 288) (by decide +kernel)))
    | 1, 1, _, _, q => exact absurd rfl q
    | 1, 2, _, _, _ => exact Or.inl (hgv _ (List.mem_of_getElem? (i := 310) (by decide +kernel)))
    | 2, 0, _, _, _ => exact Or.inr (hgv _ (List.mem_of_getElem? (i := 309) (by decide +kernel)))
    | 2, 1, _, _, _ => exact Or.inr (hgv _ (List.mem_of_getElem? (i := 310) (by decide +kernel)))
    | 2, 2, _, _, q => exact absurd rfl q) hA
theorem st_X {b L : Nat} {xs : Nat → Int32} (hX : va_X b L xs s s.heap) (hA : ¬ A b) : va_T .int b L (fun j => .int (xs j)) A s s.heap := by
  obtain ⟨scr, h1, h2, h3, h4, h5⟩ := hX
  exact ⟨scr, h1, h2, h3, Nat.le_of_eq h4.symm, by rw [h4], h5, hA⟩
set_option maxRecDepth 100000 in
set_option maxHeartbeats 4000000 in
theorem st_env (hts : ∀ w ∈ lw_tbl, w.before args s = true) (hgv : ∀ w ∈ nvC, w.before args s = true) (hA : ∀ a : Nat, a < s.heap.size → ¬ A a) {b L : Nat} {xs : Nat → Int32} (hX : va_X b L xs s s.heap) (hb : ¬ A b) (hAe : A = fun q => s.heap.size ≤ q) : ∃ o : Nat → Nat, o 0 = b ∧ sEnv (L, xs) s.heap.size o s s.heap := by
  obtain ⟨tC, hC, hCt⟩ := st_Z2 hts hgv hA
  obtain ⟨tK, hK, hKt⟩ := st_Z3 hts hgv hA
  obtain ⟨adK, adV, ⟨hS, -⟩, hE⟩ := st_S hts hgv hA
  obtain ⟨q9, h9⟩ : ∃ q9 : Nat, va_Z "jdk/internal/util/Preconditions" "SIOOBE_FORMATTER" "Ljava/util/function/BiFunction;" (if q9 = 0 then .null else .ref (q9 - 1)) A s s.heap := by
    rcases st_Z1 hts hgv hA with h | ⟨t, h⟩
    · exact ⟨0, h⟩
    · exact ⟨t + 1, h⟩
  subst hAe
  refine ⟨fun i => match i with
    | 0 => b
    | 1 => adK 0
    | 2 => adK 1
    | 3 => adK 2
    | 4 => adV 0
    | 5 => adV 1
    | 6 => adV 2
    | 7 => tC
    | 8 => tK
    | _ => q9, rfl, ?_, ?_, ?_, ?_, st_ao (hts _ (List.mem_of_getElem? (i := 391) (by decide +kernel)))⟩
  · intro i t n f hi
    match i, hi with
    | 0, hi => cases hi; exact st_X hX hb
    | 1, hi => cases hi
    | 2, hi => cases hi
    | 3, hi => cases hi
    | 4, hi => cases hi; exact (hS 0 (by decide)).2.2.2
    | 5, hi => cases hi; exact (hS 1 (by decide)).2.2.2
    | 6, hi => cases hi; exact (hS 2 (by decide)).2.2.2
    | 7, hi => cases hi; exact hCt
    | 8, hi => cases hi; exact hKt
    | n + 9, hi => cases hi
  · intro i hi
    match i, hi with
    | 0, _ => exact ⟨(hS 0 (by decide)).1, (hS 0 (by decide)).2.1, (hS 0 (by decide)).2.2.1, vk_R.of (hts _ (List.mem_of_getElem? (i := 262) (by decide +kernel))) (hE 0 (by decide))⟩
    | 1, _ => exact ⟨(hS 1 (by decide)).1, (hS 1 (by decide)).2.1, (hS 1 (by decide)).2.2.1, vk_R.of (hts _ (List.mem_of_getElem? (i := 475) (by decide +kernel))) (hE 1 (by decide))⟩
    | 2, _ => exact ⟨(hS 2 (by decide)).1, (hS 2 (by decide)).2.1, (hS 2 (by decide)).2.2.1, vk_R.of (hts _ (List.mem_of_getElem? (i := 988) (by decide +kernel))) (hE 2 (by decide))⟩
  · have hF := h9
    exact List.forall_mem_cons.mpr ⟨st_Z0 hts hgv hA, List.forall_mem_cons.mpr ⟨hF, List.forall_mem_cons.mpr ⟨hC, List.forall_mem_cons.mpr ⟨hK, List.forall_mem_cons.mpr ⟨st_Z4 hts hgv hA, List.forall_mem_cons.mpr ⟨st_Z5 hts hgv hA, List.forall_mem_cons.mpr ⟨st_Z6 hts hgv hA, List.forall_mem_cons.mpr ⟨st_Z7 hts hgv hA, List.forall_mem_cons.mpr ⟨st_Z8 hts hgv hA, List.forall_mem_cons.mpr ⟨st_Z9 hts hgv hA, List.forall_mem_cons.mpr ⟨st_Z10 hts hgv hA, List.forall_mem_cons.mpr ⟨st_Z11 hts hgv hA, List.forall_mem_cons.mpr ⟨st_Z12 hts hgv hA, List.forall_mem_cons.mpr ⟨st_Z13 hts hgv hA, List.forall_mem_cons.mpr ⟨st_Z14 hts hgv hA, List.forall_mem_cons.mpr ⟨st_Z15 hts hgv hA, List.forall_mem_cons.mpr ⟨st_Z16 hts hgv hA, List.forall_mem_cons.mpr ⟨st_Z17 hts hgv hA, List.forall_mem_cons.mpr ⟨st_Z18 hts hgv hA, List.forall_mem_cons.mpr ⟨st_Z19 hts hgv hA, List.forall_mem_cons.mpr ⟨st_Z20 hts hgv hA, List.forall_mem_cons.mpr ⟨st_Z21 hts hgv hA, List.forall_mem_cons.mpr ⟨st_Z22 hts hgv hA, List.forall_mem_cons.mpr ⟨st_Z23 hts hgv hA, List.forall_mem_cons.mpr ⟨st_Z24 hts hgv hA, List.forall_mem_cons.mpr ⟨st_Z25 hts hgv hA, List.forall_mem_cons.mpr ⟨st_Z26 hts hgv hA, List.forall_mem_cons.mpr ⟨st_Z27 hts hgv hA, List.forall_mem_cons.mpr ⟨st_Z28 hts hgv hA, List.forall_mem_cons.mpr ⟨st_Z29 hts hgv hA, List.forall_mem_cons.mpr ⟨st_Z30 hts hgv hA, List.forall_mem_cons.mpr ⟨st_Z31 hts hgv hA, List.forall_mem_cons.mpr ⟨st_Z32 hts hgv hA, List.forall_mem_cons.mpr ⟨st_Z33 hts hgv hA, List.forall_mem_cons.mpr ⟨st_Z34 hts hgv hA, List.forall_mem_cons.mpr ⟨st_Z35 hts hgv hA, List.forall_mem_cons.mpr ⟨st_Z36 hts hgv hA, List.forall_mem_cons.mpr ⟨st_Z37 hts hgv hA, List.forall_mem_cons.mpr ⟨st_Z38 hts hgv hA, List.forall_mem_cons.mpr ⟨st_Z39 hts hgv hA, List.forall_mem_cons.mpr ⟨st_Z40 hts hgv hA, List.forall_mem_cons.mpr ⟨st_Z41 hts hgv hA, List.forall_mem_cons.mpr ⟨st_Z42 hts hgv hA, List.forall_mem_cons.mpr ⟨st_Z43 hts hgv hA, fun _ h => absurd h List.not_mem_nil⟩⟩⟩⟩⟩⟩⟩⟩⟩⟩⟩⟩⟩⟩⟩⟩⟩⟩⟩⟩⟩⟩⟩⟩⟩⟩⟩⟩⟩⟩⟩⟩⟩⟩⟩⟩⟩⟩⟩⟩⟩⟩⟩⟩
  · exact List.forall_mem_cons.mpr ⟨va_Nw.of rfl (hts _ (List.mem_of_getElem? (i := 258) (by decide +kernel))), List.forall_mem_cons.mpr ⟨va_Nw.of rfl (hts _ (List.mem_of_getElem? (i := 530) (by decide +kernel))), List.forall_mem_cons.mpr ⟨va_Nw.of rfl (hts _ (List.mem_of_getElem? (i := 536) (by decide +kernel))), List.forall_mem_cons.mpr ⟨va_Nw.of rfl (hts _ (List.mem_of_getElem? (i := 601) (by decide +kernel))), List.forall_mem_cons.mpr ⟨va_Nw.of rfl (hts _ (List.mem_of_getElem? (i := 799) (by decide +kernel))), List.forall_mem_cons.mpr ⟨va_Nw.of rfl (hts _ (List.mem_of_getElem? (i := 804) (by decide +kernel))), List.forall_mem_cons.mpr ⟨va_Nw.of rfl (hts _ (List.mem_of_getElem? (i := 831) (by decide +kernel))), fun _ h => absurd h List.not_mem_nil⟩⟩⟩⟩⟩⟩⟩
set_option maxHeartbeats 4000000 in
theorem st_K (hts : ∀ w ∈ lw_tbl, w.before args s = true) : ∃ (D : va_G) (cA : Nat → ClassId), va_K D vwCl (tysL cA) s := by
  obtain ⟨c0, iS0, hKn0⟩ := u_known (C := RX0) (T := TX0) (N := 7) (n := 7) hts inX0 (hts _ (List.mem_of_getElem? (i := 600) (by decide +kernel)))
  obtain ⟨c1, iS1, hKn1⟩ := u_known (C := RX1) (T := TX1) (N := 11) (n := 11) hts inX1 (hts _ (List.mem_of_getElem? (i := 830) (by decide +kernel)))
  obtain ⟨c2, iS2, hKn2⟩ := u_known (C := RX2) (T := TX2) (N := 14) (n := 14) hts inX2 (hts _ (List.mem_of_getElem? (i := 748) (by decide +kernel)))
  obtain ⟨c3, iS3, hKn3⟩ := u_known (C := RX3) (T := TX3) (N := 13) (n := 13) hts inX3 (hts _ (List.mem_of_getElem? (i := 535) (by decide +kernel)))
  obtain ⟨c4, iS4, hKn4⟩ := u_known (C := RX4) (T := TX4) (N := 5) (n := 5) hts inX4 (hts _ (List.mem_of_getElem? (i := 359) (by decide +kernel)))
  obtain ⟨c5, iS5, hKn5⟩ := u_known (C := RX5) (T := TX5) (N := 14) (n := 14) hts inX5 (hts _ (List.mem_of_getElem? (i := 385) (by decide +kernel)))
  obtain ⟨c6, iS6, hKn6⟩ := u_known (C := RX6) (T := TX6) (N := 15) (n := 15) hts inX6 (hts _ (List.mem_of_getElem? (i := 470) (by decide +kernel)))
  obtain ⟨c7, iS7, hKn7⟩ := u_known (C := RX7) (T := TX7) (N := 6) (n := 6) hts inX7 (hts _ (List.mem_of_getElem? (i := 631) (by decide +kernel)))
  obtain ⟨c8, iS8, hKn8⟩ := u_known (C := RX8) (T := TX8) (N := 5) (n := 5) hts inX8 (hts _ (List.mem_of_getElem? (i := 798) (by decide +kernel)))
  obtain ⟨c9, iS9, hKn9⟩ := u_known (C := RX9) (T := TX9) (N := 12) (n := 12) hts inX9 (hts _ (List.mem_of_getElem? (i := 257) (by decide +kernel)))
  obtain ⟨c10, iS10, hKn10⟩ := u_known (C := RX10) (T := TX10) (N := 20) (n := 20) hts inX10 (hts _ (List.mem_of_getElem? (i := 529) (by decide +kernel)))
  obtain ⟨c11, iS11, hKn11⟩ := u_known (C := RX11) (T := TX11) (N := 15) (n := 15) hts inX11 (hts _ (List.mem_of_getElem? (i := 249) (by decide +kernel)))
  obtain ⟨c12, iS12, hKn12⟩ := u_known (C := RX12) (T := TX12) (N := 155) (n := 155) hts inX12 (hts _ (List.mem_of_getElem? (i := 1938) (by decide +kernel)))
  obtain ⟨a0, hr0⟩ := st_ty (s := s) (ty := .int) (hts _ (List.mem_of_getElem? (i := 357) (by decide +kernel)))
  obtain ⟨a1, hr1⟩ := st_ty (s := s) (ty := .long) (hts _ (List.mem_of_getElem? (i := 356) (by decide +kernel)))
  obtain ⟨a2, hr2⟩ := st_ty (s := s) (ty := .boolean) (hts _ (List.mem_of_getElem? (i := 2416) (by decide +kernel)))
  obtain ⟨a3, hr3⟩ := st_ty (s := s) (ty := .byte) (hts _ (List.mem_of_getElem? (i := 355) (by decide +kernel)))
  obtain ⟨a4, hr4⟩ := st_tyA (s := s) (st_ao (hts _ (List.mem_of_getElem? (i := 391) (by decide +kernel))))
  refine ⟨(fun k => match k with
    | 0 => c0
    | 1 => c1
    | 2 => c2
    | 3 => c3
    | 4 => c4
    | 5 => c5
    | 6 => c6
    | 7 => c7
    | 8 => c8
    | 9 => c9
    | 10 => c10
    | 11 => c11
    | _ => c12, fun k => match k with
    | 0 => iS0
    | 1 => iS1
    | 2 => iS2
    | 3 => iS3
    | 4 => iS4
    | 5 => iS5
    | 6 => iS6
    | 7 => iS7
    | 8 => iS8
    | 9 => iS9
    | 10 => iS10
    | 11 => iS11
    | _ => iS12), fun k => match k with
    | 0 => a0
    | 1 => a1
    | 2 => a2
    | 3 => a3
    | _ => a4, ?_, ?_⟩
  · intro k q hq
    match k, hq with
    | 0, hq => cases hq; exact hKn0
    | 1, hq => cases hq; exact hKn1
    | 2, hq => cases hq; exact hKn2
    | 3, hq => cases hq; exact hKn3
    | 4, hq => cases hq; exact hKn4
    | 5, hq => cases hq; exact hKn5
    | 6, hq => cases hq; exact hKn6
    | 7, hq => cases hq; exact hKn7
    | 8, hq => cases hq; exact hKn8
    | 9, hq => cases hq; exact hKn9
    | 10, hq => cases hq; exact hKn10
    | 11, hq => cases hq; exact hKn11
    | 12, hq => cases hq; exact hKn12
    | k + 13, hq => simp [vwCl] at hq
  · intro k q hq
    match k, hq with
    | 0, hq => cases hq; exact hr0
    | 1, hq => cases hq; exact hr1
    | 2, hq => cases hq; exact hr2
    | 3, hq => cases hq; exact hr3
    | 4, hq => cases hq; exact hr4
    | k + 5, hq => simp [tysL] at hq
end START
