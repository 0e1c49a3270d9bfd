section
-- ===== PART A: goes FIRST, ahead of the names: the tables' words, and 'selects' of the private methods out of them =====
/-- a private method of a class that the tables say can be made, by its rows of tables_1 -/
def lw_okq (q : MethodName × Nat) : Prop := (q.1.cls ≠ "java/lang/invoke/MethodHandle" ∧ q.1.cls ≠ "java/lang/invoke/VarHandle") ∧ Cond.instantiable q.1.cls q.2 ∈ tables_1 ∧ Cond.privateMethod q.1 ∈ tables_1 ∧ Cond.instanceMethod q.1 ∈ tables_1
theorem lw_p0 : lw_okq (⟨"TurnHouse$Machine", "go", "(II)V"⟩, 13) := ⟨⟨by decide +kernel, by decide +kernel⟩, List.mem_of_getElem? (i := 301) (by decide +kernel), List.mem_of_getElem? (i := 675) (by decide +kernel), List.mem_of_getElem? (i := 676) (by decide +kernel)⟩
theorem lw_p1 : lw_okq (⟨"TurnHouse$Machine", "needsEmptyQueue", "(II)Z"⟩, 13) := ⟨⟨by decide +kernel, by decide +kernel⟩, List.mem_of_getElem? (i := 301) (by decide +kernel), List.mem_of_getElem? (i := 687) (by decide +kernel), List.mem_of_getElem? (i := 688) (by decide +kernel)⟩
theorem lw_p2 : lw_okq (⟨"TurnHouse$Machine", "viewed", "(II)I"⟩, 13) := ⟨⟨by decide +kernel, by decide +kernel⟩, List.mem_of_getElem? (i := 301) (by decide +kernel), List.mem_of_getElem? (i := 695) (by decide +kernel), List.mem_of_getElem? (i := 696) (by decide +kernel)⟩
theorem lw_p3 : lw_okq (⟨"TurnHouse$Machine", "hasRoom", "(III)Z"⟩, 13) := ⟨⟨by decide +kernel, by decide +kernel⟩, List.mem_of_getElem? (i := 301) (by decide +kernel), List.mem_of_getElem? (i := 699) (by decide +kernel), List.mem_of_getElem? (i := 700) (by decide +kernel)⟩
theorem lw_p4 : lw_okq (⟨"TurnHouse$Nodes", "apply", "(III[I)I"⟩, 5) := ⟨⟨by decide +kernel, by decide +kernel⟩, List.mem_of_getElem? (i := 132) (by decide +kernel), List.mem_of_getElem? (i := 707) (by decide +kernel), List.mem_of_getElem? (i := 708) (by decide +kernel)⟩
theorem lw_p5 : lw_okq (⟨"TurnHouse$Machine", "waiters", "(I)I"⟩, 13) := ⟨⟨by decide +kernel, by decide +kernel⟩, List.mem_of_getElem? (i := 301) (by decide +kernel), List.mem_of_getElem? (i := 711) (by decide +kernel), List.mem_of_getElem? (i := 712) (by decide +kernel)⟩
theorem lw_p6 : lw_okq (⟨"TurnHouse$Machine", "waitsFor", "(II)Z"⟩, 13) := ⟨⟨by decide +kernel, by decide +kernel⟩, List.mem_of_getElem? (i := 301) (by decide +kernel), List.mem_of_getElem? (i := 715) (by decide +kernel), List.mem_of_getElem? (i := 716) (by decide +kernel)⟩
theorem lw_p7 : lw_okq (⟨"TurnHouse$Machine", "flush", "(I)V"⟩, 13) := ⟨⟨by decide +kernel, by decide +kernel⟩, List.mem_of_getElem? (i := 301) (by decide +kernel), List.mem_of_getElem? (i := 742) (by decide +kernel), List.mem_of_getElem? (i := 743) (by decide +kernel)⟩
theorem lw_p8 : lw_okq (⟨"TurnHouse$Machine", "takeBack", "(II)V"⟩, 13) := ⟨⟨by decide +kernel, by decide +kernel⟩, List.mem_of_getElem? (i := 301) (by decide +kernel), List.mem_of_getElem? (i := 746) (by decide +kernel), List.mem_of_getElem? (i := 747) (by decide +kernel)⟩
theorem lw_p9 : lw_okq (⟨"TurnHouse$Machine", "learn", "(II)V"⟩, 13) := ⟨⟨by decide +kernel, by decide +kernel⟩, List.mem_of_getElem? (i := 301) (by decide +kernel), List.mem_of_getElem? (i := 750) (by decide +kernel), List.mem_of_getElem? (i := 751) (by decide +kernel)⟩
theorem lw_p10 : lw_okq (⟨"TurnHouse$Machine", "touch", "(III)I"⟩, 13) := ⟨⟨by decide +kernel, by decide +kernel⟩, List.mem_of_getElem? (i := 301) (by decide +kernel), List.mem_of_getElem? (i := 754) (by decide +kernel), List.mem_of_getElem? (i := 755) (by decide +kernel)⟩
theorem lw_p11 : lw_okq (⟨"TurnHouse$Machine", "setLocal", "(II)V"⟩, 13) := ⟨⟨by decide +kernel, by decide +kernel⟩, List.mem_of_getElem? (i := 301) (by decide +kernel), List.mem_of_getElem? (i := 762) (by decide +kernel), List.mem_of_getElem? (i := 763) (by decide +kernel)⟩
theorem lw_p12 : lw_okq (⟨"TurnHouse$Machine", "look", "(III)V"⟩, 13) := ⟨⟨by decide +kernel, by decide +kernel⟩, List.mem_of_getElem? (i := 301) (by decide +kernel), List.mem_of_getElem? (i := 769) (by decide +kernel), List.mem_of_getElem? (i := 770) (by decide +kernel)⟩
theorem lw_p13 : lw_okq (⟨"TurnHouse$Machine", "view", "(III)V"⟩, 13) := ⟨⟨by decide +kernel, by decide +kernel⟩, List.mem_of_getElem? (i := 301) (by decide +kernel), List.mem_of_getElem? (i := 773) (by decide +kernel), List.mem_of_getElem? (i := 774) (by decide +kernel)⟩
theorem lw_p14 : lw_okq (⟨"TurnHouse$Machine", "workOut", "(I)I"⟩, 13) := ⟨⟨by decide +kernel, by decide +kernel⟩, List.mem_of_getElem? (i := 301) (by decide +kernel), List.mem_of_getElem? (i := 777) (by decide +kernel), List.mem_of_getElem? (i := 778) (by decide +kernel)⟩
theorem lw_p15 : lw_okq (⟨"TurnHouse$Machine", "store", "(III)V"⟩, 13) := ⟨⟨by decide +kernel, by decide +kernel⟩, List.mem_of_getElem? (i := 301) (by decide +kernel), List.mem_of_getElem? (i := 781) (by decide +kernel), List.mem_of_getElem? (i := 782) (by decide +kernel)⟩
def lw_privs_1 : List (MethodName × Nat) := [(⟨"TurnHouse$Machine", "go", "(II)V"⟩, 13), (⟨"TurnHouse$Machine", "needsEmptyQueue", "(II)Z"⟩, 13), (⟨"TurnHouse$Machine", "viewed", "(II)I"⟩, 13), (⟨"TurnHouse$Machine", "hasRoom", "(III)Z"⟩, 13), (⟨"TurnHouse$Nodes", "apply", "(III[I)I"⟩, 5), (⟨"TurnHouse$Machine", "waiters", "(I)I"⟩, 13), (⟨"TurnHouse$Machine", "waitsFor", "(II)Z"⟩, 13), (⟨"TurnHouse$Machine", "flush", "(I)V"⟩, 13), (⟨"TurnHouse$Machine", "takeBack", "(II)V"⟩, 13), (⟨"TurnHouse$Machine", "learn", "(II)V"⟩, 13), (⟨"TurnHouse$Machine", "touch", "(III)I"⟩, 13), (⟨"TurnHouse$Machine", "setLocal", "(II)V"⟩, 13), (⟨"TurnHouse$Machine", "look", "(III)V"⟩, 13), (⟨"TurnHouse$Machine", "view", "(III)V"⟩, 13), (⟨"TurnHouse$Machine", "workOut", "(I)I"⟩, 13), (⟨"TurnHouse$Machine", "store", "(III)V"⟩, 13)]
theorem lw_r1 : ∀ q ∈ lw_privs_1, lw_okq q := List.forall_mem_cons.mpr ⟨lw_p0, List.forall_mem_cons.mpr ⟨lw_p1, List.forall_mem_cons.mpr ⟨lw_p2, List.forall_mem_cons.mpr ⟨lw_p3, List.forall_mem_cons.mpr ⟨lw_p4, List.forall_mem_cons.mpr ⟨lw_p5, List.forall_mem_cons.mpr ⟨lw_p6, List.forall_mem_cons.mpr ⟨lw_p7, List.forall_mem_cons.mpr ⟨lw_p8, List.forall_mem_cons.mpr ⟨lw_p9, List.forall_mem_cons.mpr ⟨lw_p10, List.forall_mem_cons.mpr ⟨lw_p11, List.forall_mem_cons.mpr ⟨lw_p12, List.forall_mem_cons.mpr ⟨lw_p13, List.forall_mem_cons.mpr ⟨lw_p14, List.forall_mem_cons.mpr ⟨lw_p15, fun _ h => absurd h List.not_mem_nil⟩⟩⟩⟩⟩⟩⟩⟩⟩⟩⟩⟩⟩⟩⟩⟩
theorem lw_p16 : lw_okq (⟨"TurnHouse$Machine", "write", "(IIIZ)V"⟩, 13) := ⟨⟨by decide +kernel, by decide +kernel⟩, List.mem_of_getElem? (i := 301) (by decide +kernel), List.mem_of_getElem? (i := 785) (by decide +kernel), List.mem_of_getElem? (i := 786) (by decide +kernel)⟩
theorem lw_p17 : lw_okq (⟨"TurnHouse$Machine", "swapIf", "(IIII)V"⟩, 13) := ⟨⟨by decide +kernel, by decide +kernel⟩, List.mem_of_getElem? (i := 301) (by decide +kernel), List.mem_of_getElem? (i := 789) (by decide +kernel), List.mem_of_getElem? (i := 790) (by decide +kernel)⟩
theorem lw_p18 : lw_okq (⟨"TurnHouse$Machine", "lookAtLast", "(II)V"⟩, 13) := ⟨⟨by decide +kernel, by decide +kernel⟩, List.mem_of_getElem? (i := 301) (by decide +kernel), List.mem_of_getElem? (i := 793) (by decide +kernel), List.mem_of_getElem? (i := 794) (by decide +kernel)⟩
theorem lw_p19 : lw_okq (⟨"TurnHouse$Machine", "addTo", "(III)I"⟩, 13) := ⟨⟨by decide +kernel, by decide +kernel⟩, List.mem_of_getElem? (i := 301) (by decide +kernel), List.mem_of_getElem? (i := 797) (by decide +kernel), List.mem_of_getElem? (i := 798) (by decide +kernel)⟩
theorem lw_p20 : lw_okq (⟨"TurnHouse$Machine", "useLock", "(III)I"⟩, 13) := ⟨⟨by decide +kernel, by decide +kernel⟩, List.mem_of_getElem? (i := 301) (by decide +kernel), List.mem_of_getElem? (i := 801) (by decide +kernel), List.mem_of_getElem? (i := 802) (by decide +kernel)⟩
theorem lw_p21 : lw_okq (⟨"TurnHouse$Machine", "leave", "(II)V"⟩, 13) := ⟨⟨by decide +kernel, by decide +kernel⟩, List.mem_of_getElem? (i := 301) (by decide +kernel), List.mem_of_getElem? (i := 805) (by decide +kernel), List.mem_of_getElem? (i := 806) (by decide +kernel)⟩
theorem lw_p22 : lw_okq (⟨"TurnHouse$Machine", "wake", "(II)V"⟩, 13) := ⟨⟨by decide +kernel, by decide +kernel⟩, List.mem_of_getElem? (i := 301) (by decide +kernel), List.mem_of_getElem? (i := 809) (by decide +kernel), List.mem_of_getElem? (i := 810) (by decide +kernel)⟩
theorem lw_p23 : lw_okq (⟨"TurnHouse$Machine", "meet", "(II)I"⟩, 13) := ⟨⟨by decide +kernel, by decide +kernel⟩, List.mem_of_getElem? (i := 301) (by decide +kernel), List.mem_of_getElem? (i := 813) (by decide +kernel), List.mem_of_getElem? (i := 814) (by decide +kernel)⟩
theorem lw_p24 : lw_okq (⟨"TurnHouse$Machine", "begins", "(II)I"⟩, 13) := ⟨⟨by decide +kernel, by decide +kernel⟩, List.mem_of_getElem? (i := 301) (by decide +kernel), List.mem_of_getElem? (i := 817) (by decide +kernel), List.mem_of_getElem? (i := 818) (by decide +kernel)⟩
theorem lw_p25 : lw_okq (⟨"TurnHouse$Machine", "tell", "()I"⟩, 13) := ⟨⟨by decide +kernel, by decide +kernel⟩, List.mem_of_getElem? (i := 301) (by decide +kernel), List.mem_of_getElem? (i := 821) (by decide +kernel), List.mem_of_getElem? (i := 822) (by decide +kernel)⟩
theorem lw_p26 : lw_okq (⟨"TurnHouse$Run", "leadsTo", "(II)Z"⟩, 5) := ⟨⟨by decide +kernel, by decide +kernel⟩, List.mem_of_getElem? (i := 543) (by decide +kernel), List.mem_of_getElem? (i := 825) (by decide +kernel), List.mem_of_getElem? (i := 826) (by decide +kernel)⟩
theorem lw_p27 : lw_okq (⟨"TurnHouse$Run", "tells", "(I)Z"⟩, 5) := ⟨⟨by decide +kernel, by decide +kernel⟩, List.mem_of_getElem? (i := 543) (by decide +kernel), List.mem_of_getElem? (i := 829) (by decide +kernel), List.mem_of_getElem? (i := 830) (by decide +kernel)⟩
theorem lw_p28 : lw_okq (⟨"TurnHouse$Run", "hears", "(I)Z"⟩, 5) := ⟨⟨by decide +kernel, by decide +kernel⟩, List.mem_of_getElem? (i := 543) (by decide +kernel), List.mem_of_getElem? (i := 834) (by decide +kernel), List.mem_of_getElem? (i := 835) (by decide +kernel)⟩
theorem lw_p29 : lw_okq (⟨"TurnHouse$Run", "putAhead", "(II)V"⟩, 5) := ⟨⟨by decide +kernel, by decide +kernel⟩, List.mem_of_getElem? (i := 543) (by decide +kernel), List.mem_of_getElem? (i := 838) (by decide +kernel), List.mem_of_getElem? (i := 839) (by decide +kernel)⟩
theorem lw_p30 : lw_okq (⟨"TurnHouse$Machine", "pick", "(II)V"⟩, 13) := ⟨⟨by decide +kernel, by decide +kernel⟩, List.mem_of_getElem? (i := 301) (by decide +kernel), List.mem_of_getElem? (i := 880) (by decide +kernel), List.mem_of_getElem? (i := 881) (by decide +kernel)⟩
theorem lw_p31 : lw_okq (⟨"TurnHouse$Machine", "makeEven", "()V"⟩, 13) := ⟨⟨by decide +kernel, by decide +kernel⟩, List.mem_of_getElem? (i := 301) (by decide +kernel), List.mem_of_getElem? (i := 884) (by decide +kernel), List.mem_of_getElem? (i := 885) (by decide +kernel)⟩
def lw_privs_2 : List (MethodName × Nat) := [(⟨"TurnHouse$Machine", "write", "(IIIZ)V"⟩, 13), (⟨"TurnHouse$Machine", "swapIf", "(IIII)V"⟩, 13), (⟨"TurnHouse$Machine", "lookAtLast", "(II)V"⟩, 13), (⟨"TurnHouse$Machine", "addTo", "(III)I"⟩, 13), (⟨"TurnHouse$Machine", "useLock", "(III)I"⟩, 13), (⟨"TurnHouse$Machine", "leave", "(II)V"⟩, 13), (⟨"TurnHouse$Machine", "wake", "(II)V"⟩, 13), (⟨"TurnHouse$Machine", "meet", "(II)I"⟩, 13), (⟨"TurnHouse$Machine", "begins", "(II)I"⟩, 13), (⟨"TurnHouse$Machine", "tell", "()I"⟩, 13), (⟨"TurnHouse$Run", "leadsTo", "(II)Z"⟩, 5), (⟨"TurnHouse$Run", "tells", "(I)Z"⟩, 5), (⟨"TurnHouse$Run", "hears", "(I)Z"⟩, 5), (⟨"TurnHouse$Run", "putAhead", "(II)V"⟩, 5), (⟨"TurnHouse$Machine", "pick", "(II)V"⟩, 13), (⟨"TurnHouse$Machine", "makeEven", "()V"⟩, 13)]
theorem lw_r2 : ∀ q ∈ lw_privs_2, lw_okq q := List.forall_mem_cons.mpr ⟨lw_p16, List.forall_mem_cons.mpr ⟨lw_p17, List.forall_mem_cons.mpr ⟨lw_p18, List.forall_mem_cons.mpr ⟨lw_p19, List.forall_mem_cons.mpr ⟨lw_p20, List.forall_mem_cons.mpr ⟨lw_p21, List.forall_mem_cons.mpr ⟨lw_p22, List.forall_mem_cons.mpr ⟨lw_p23, List.forall_mem_cons.mpr ⟨lw_p24, List.forall_mem_cons.mpr ⟨lw_p25, List.forall_mem_cons.mpr ⟨lw_p26, List.forall_mem_cons.mpr ⟨lw_p27, List.forall_mem_cons.mpr ⟨lw_p28, List.forall_mem_cons.mpr ⟨lw_p29, List.forall_mem_cons.mpr ⟨lw_p30, List.forall_mem_cons.mpr ⟨lw_p31, fun _ h => absurd h List.not_mem_nil⟩⟩⟩⟩⟩⟩⟩⟩⟩⟩⟩⟩⟩⟩⟩⟩
theorem lw_p32 : lw_okq (⟨"TurnHouse$Rows", "placeOf", "([JI)I"⟩, 6) := ⟨⟨by decide +kernel, by decide +kernel⟩, List.mem_of_getElem? (i := 391) (by decide +kernel), List.mem_of_getElem? (i := 911) (by decide +kernel), List.mem_of_getElem? (i := 912) (by decide +kernel)⟩
theorem lw_p33 : lw_okq (⟨"TurnHouse$Rows", "isSame", "([JII)Z"⟩, 6) := ⟨⟨by decide +kernel, by decide +kernel⟩, List.mem_of_getElem? (i := 391) (by decide +kernel), List.mem_of_getElem? (i := 916) (by decide +kernel), List.mem_of_getElem? (i := 917) (by decide +kernel)⟩
theorem lw_p34 : lw_okq (⟨"TurnHouse$Rows", "name", "(II)V"⟩, 6) := ⟨⟨by decide +kernel, by decide +kernel⟩, List.mem_of_getElem? (i := 391) (by decide +kernel), List.mem_of_getElem? (i := 923) (by decide +kernel), List.mem_of_getElem? (i := 924) (by decide +kernel)⟩
theorem lw_p35 : lw_okq (⟨"TurnHouse$Turns", "lookAround", "(I)I"⟩, 20) := ⟨⟨by decide +kernel, by decide +kernel⟩, List.mem_of_getElem? (i := 295) (by decide +kernel), List.mem_of_getElem? (i := 927) (by decide +kernel), List.mem_of_getElem? (i := 928) (by decide +kernel)⟩
theorem lw_p36 : lw_okq (⟨"TurnHouse$Findings", "noteRace", "(III)V"⟩, 7) := ⟨⟨by decide +kernel, by decide +kernel⟩, List.mem_of_getElem? (i := 363) (by decide +kernel), List.mem_of_getElem? (i := 963) (by decide +kernel), List.mem_of_getElem? (i := 964) (by decide +kernel)⟩
theorem lw_p37 : lw_okq (⟨"TurnHouse$Turns", "noteEnd", "(I)V"⟩, 20) := ⟨⟨by decide +kernel, by decide +kernel⟩, List.mem_of_getElem? (i := 295) (by decide +kernel), List.mem_of_getElem? (i := 967) (by decide +kernel), List.mem_of_getElem? (i := 968) (by decide +kernel)⟩
theorem lw_p38 : lw_okq (⟨"TurnHouse$Findings", "leastInRing", "(LTurnHouse$Machine;)I"⟩, 7) := ⟨⟨by decide +kernel, by decide +kernel⟩, List.mem_of_getElem? (i := 363) (by decide +kernel), List.mem_of_getElem? (i := 975) (by decide +kernel), List.mem_of_getElem? (i := 976) (by decide +kernel)⟩
theorem lw_p39 : lw_okq (⟨"TurnHouse$Findings", "noteStuck", "(III)V"⟩, 7) := ⟨⟨by decide +kernel, by decide +kernel⟩, List.mem_of_getElem? (i := 363) (by decide +kernel), List.mem_of_getElem? (i := 983) (by decide +kernel), List.mem_of_getElem? (i := 984) (by decide +kernel)⟩
theorem lw_p40 : lw_okq (⟨"TurnHouse$Turns", "quietStep", "()I"⟩, 20) := ⟨⟨by decide +kernel, by decide +kernel⟩, List.mem_of_getElem? (i := 295) (by decide +kernel), List.mem_of_getElem? (i := 991) (by decide +kernel), List.mem_of_getElem? (i := 992) (by decide +kernel)⟩
theorem lw_p41 : lw_okq (⟨"TurnHouse$Turns", "tryStep", "(II)Z"⟩, 20) := ⟨⟨by decide +kernel, by decide +kernel⟩, List.mem_of_getElem? (i := 295) (by decide +kernel), List.mem_of_getElem? (i := 995) (by decide +kernel), List.mem_of_getElem? (i := 996) (by decide +kernel)⟩
theorem lw_p42 : lw_okq (⟨"TurnHouse$Turns", "isWhile", "(I)Z"⟩, 20) := ⟨⟨by decide +kernel, by decide +kernel⟩, List.mem_of_getElem? (i := 295) (by decide +kernel), List.mem_of_getElem? (i := 1008) (by decide +kernel), List.mem_of_getElem? (i := 1009) (by decide +kernel)⟩
theorem lw_p43 : lw_okq (⟨"TurnHouse$Turns", "drawnOutcome", "(III)I"⟩, 20) := ⟨⟨by decide +kernel, by decide +kernel⟩, List.mem_of_getElem? (i := 295) (by decide +kernel), List.mem_of_getElem? (i := 1028) (by decide +kernel), List.mem_of_getElem? (i := 1029) (by decide +kernel)⟩
theorem lw_p44 : lw_okq (⟨"TurnHouse$Turns", "arrange", "(I)V"⟩, 20) := ⟨⟨by decide +kernel, by decide +kernel⟩, List.mem_of_getElem? (i := 295) (by decide +kernel), List.mem_of_getElem? (i := 1032) (by decide +kernel), List.mem_of_getElem? (i := 1033) (by decide +kernel)⟩
theorem lw_p45 : lw_okq (⟨"TurnHouse$Turns", "firstReady", "()I"⟩, 20) := ⟨⟨by decide +kernel, by decide +kernel⟩, List.mem_of_getElem? (i := 295) (by decide +kernel), List.mem_of_getElem? (i := 1037) (by decide +kernel), List.mem_of_getElem? (i := 1038) (by decide +kernel)⟩
theorem lw_p46 : lw_okq (⟨"TurnHouse$Turns", "lower", "(I)V"⟩, 20) := ⟨⟨by decide +kernel, by decide +kernel⟩, List.mem_of_getElem? (i := 295) (by decide +kernel), List.mem_of_getElem? (i := 1046) (by decide +kernel), List.mem_of_getElem? (i := 1047) (by decide +kernel)⟩
theorem lw_p47 : lw_okq (⟨"TurnHouse$Program", "swap", "(I)Z"⟩, 14) := ⟨⟨by decide +kernel, by decide +kernel⟩, List.mem_of_getElem? (i := 157) (by decide +kernel), List.mem_of_getElem? (i := 1063) (by decide +kernel), List.mem_of_getElem? (i := 1064) (by decide +kernel)⟩
def lw_privs_3 : List (MethodName × Nat) := [(⟨"TurnHouse$Rows", "placeOf", "([JI)I"⟩, 6), (⟨"TurnHouse$Rows", "isSame", "([JII)Z"⟩, 6), (⟨"TurnHouse$Rows", "name", "(II)V"⟩, 6), (⟨"TurnHouse$Turns", "lookAround", "(I)I"⟩, 20), (⟨"TurnHouse$Findings", "noteRace", "(III)V"⟩, 7), (⟨"TurnHouse$Turns", "noteEnd", "(I)V"⟩, 20), (⟨"TurnHouse$Findings", "leastInRing", "(LTurnHouse$Machine;)I"⟩, 7), (⟨"TurnHouse$Findings", "noteStuck", "(III)V"⟩, 7), (⟨"TurnHouse$Turns", "quietStep", "()I"⟩, 20), (⟨"TurnHouse$Turns", "tryStep", "(II)Z"⟩, 20), (⟨"TurnHouse$Turns", "isWhile", "(I)Z"⟩, 20), (⟨"TurnHouse$Turns", "drawnOutcome", "(III)I"⟩, 20), (⟨"TurnHouse$Turns", "arrange", "(I)V"⟩, 20), (⟨"TurnHouse$Turns", "firstReady", "()I"⟩, 20), (⟨"TurnHouse$Turns", "lower", "(I)V"⟩, 20), (⟨"TurnHouse$Program", "swap", "(I)Z"⟩, 14)]
theorem lw_r3 : ∀ q ∈ lw_privs_3, lw_okq q := List.forall_mem_cons.mpr ⟨lw_p32, List.forall_mem_cons.mpr ⟨lw_p33, List.forall_mem_cons.mpr ⟨lw_p34, List.forall_mem_cons.mpr ⟨lw_p35, List.forall_mem_cons.mpr ⟨lw_p36, List.forall_mem_cons.mpr ⟨lw_p37, List.forall_mem_cons.mpr ⟨lw_p38, List.forall_mem_cons.mpr ⟨lw_p39, List.forall_mem_cons.mpr ⟨lw_p40, List.forall_mem_cons.mpr ⟨lw_p41, List.forall_mem_cons.mpr ⟨lw_p42, List.forall_mem_cons.mpr ⟨lw_p43, List.forall_mem_cons.mpr ⟨lw_p44, List.forall_mem_cons.mpr ⟨lw_p45, List.forall_mem_cons.mpr ⟨lw_p46, List.forall_mem_cons.mpr ⟨lw_p47, fun _ h => absurd h List.not_mem_nil⟩⟩⟩⟩⟩⟩⟩⟩⟩⟩⟩⟩⟩⟩⟩⟩
theorem lw_p48 : lw_okq (⟨"TurnHouse$Program", "ahead", "(I)I"⟩, 14) := ⟨⟨by decide +kernel, by decide +kernel⟩, List.mem_of_getElem? (i := 157) (by decide +kernel), List.mem_of_getElem? (i := 1067) (by decide +kernel), List.mem_of_getElem? (i := 1068) (by decide +kernel)⟩
theorem lw_p49 : lw_okq (⟨"TurnHouse$Program", "leaveOut", "(I)Z"⟩, 14) := ⟨⟨by decide +kernel, by decide +kernel⟩, List.mem_of_getElem? (i := 157) (by decide +kernel), List.mem_of_getElem? (i := 1075) (by decide +kernel), List.mem_of_getElem? (i := 1076) (by decide +kernel)⟩
theorem lw_p50 : lw_okq (⟨"TurnHouse$Program", "unlink", "(III)V"⟩, 14) := ⟨⟨by decide +kernel, by decide +kernel⟩, List.mem_of_getElem? (i := 157) (by decide +kernel), List.mem_of_getElem? (i := 1079) (by decide +kernel), List.mem_of_getElem? (i := 1080) (by decide +kernel)⟩
theorem lw_p51 : lw_okq (⟨"TurnHouse$Program", "empty", "(I)V"⟩, 14) := ⟨⟨by decide +kernel, by decide +kernel⟩, List.mem_of_getElem? (i := 157) (by decide +kernel), List.mem_of_getElem? (i := 1083) (by decide +kernel), List.mem_of_getElem? (i := 1084) (by decide +kernel)⟩
theorem lw_p52 : lw_okq (⟨"TurnHouse$Program", "reuse", "(I)Z"⟩, 14) := ⟨⟨by decide +kernel, by decide +kernel⟩, List.mem_of_getElem? (i := 157) (by decide +kernel), List.mem_of_getElem? (i := 1087) (by decide +kernel), List.mem_of_getElem? (i := 1088) (by decide +kernel)⟩
theorem lw_p53 : lw_okq (⟨"TurnHouse$Program", "behind", "(I)I"⟩, 14) := ⟨⟨by decide +kernel, by decide +kernel⟩, List.mem_of_getElem? (i := 157) (by decide +kernel), List.mem_of_getElem? (i := 1100) (by decide +kernel), List.mem_of_getElem? (i := 1101) (by decide +kernel)⟩
theorem lw_p54 : lw_okq (⟨"TurnHouse", "forgetRewritten", "()V"⟩, 15) := ⟨⟨by decide +kernel, by decide +kernel⟩, List.mem_of_getElem? (i := 22) (by decide +kernel), List.mem_of_getElem? (i := 1104) (by decide +kernel), List.mem_of_getElem? (i := 1105) (by decide +kernel)⟩
theorem lw_p55 : lw_okq (⟨"TurnHouse$Reader", "open", "(LTurnHouse$Nodes;Z)V"⟩, 15) := ⟨⟨by decide +kernel, by decide +kernel⟩, List.mem_of_getElem? (i := 241) (by decide +kernel), List.mem_of_getElem? (i := 1204) (by decide +kernel), List.mem_of_getElem? (i := 1205) (by decide +kernel)⟩
theorem lw_p56 : lw_okq (⟨"TurnHouse$Tokens", "skipBlanks", "()V"⟩, 12) := ⟨⟨by decide +kernel, by decide +kernel⟩, List.mem_of_getElem? (i := 30) (by decide +kernel), List.mem_of_getElem? (i := 1212) (by decide +kernel), List.mem_of_getElem? (i := 1213) (by decide +kernel)⟩
theorem lw_p57 : lw_okq (⟨"TurnHouse$Tokens", "cutOne", "()V"⟩, 12) := ⟨⟨by decide +kernel, by decide +kernel⟩, List.mem_of_getElem? (i := 30) (by decide +kernel), List.mem_of_getElem? (i := 1216) (by decide +kernel), List.mem_of_getElem? (i := 1217) (by decide +kernel)⟩
theorem lw_p58 : lw_okq (⟨"TurnHouse$Tokens", "byteAt", "(I)I"⟩, 12) := ⟨⟨by decide +kernel, by decide +kernel⟩, List.mem_of_getElem? (i := 30) (by decide +kernel), List.mem_of_getElem? (i := 1220) (by decide +kernel), List.mem_of_getElem? (i := 1221) (by decide +kernel)⟩
theorem lw_p59 : lw_okq (⟨"TurnHouse$Tokens", "cutWord", "()V"⟩, 12) := ⟨⟨by decide +kernel, by decide +kernel⟩, List.mem_of_getElem? (i := 30) (by decide +kernel), List.mem_of_getElem? (i := 1227) (by decide +kernel), List.mem_of_getElem? (i := 1228) (by decide +kernel)⟩
theorem lw_p60 : lw_okq (⟨"TurnHouse$Tokens", "cutNumber", "()V"⟩, 12) := ⟨⟨by decide +kernel, by decide +kernel⟩, List.mem_of_getElem? (i := 30) (by decide +kernel), List.mem_of_getElem? (i := 1234) (by decide +kernel), List.mem_of_getElem? (i := 1235) (by decide +kernel)⟩
theorem lw_p61 : lw_okq (⟨"TurnHouse$Tokens", "cutSign", "(I)V"⟩, 12) := ⟨⟨by decide +kernel, by decide +kernel⟩, List.mem_of_getElem? (i := 30) (by decide +kernel), List.mem_of_getElem? (i := 1240) (by decide +kernel), List.mem_of_getElem? (i := 1241) (by decide +kernel)⟩
theorem lw_p62 : lw_okq (⟨"TurnHouse$Reader", "skip", "(I)Z"⟩, 15) := ⟨⟨by decide +kernel, by decide +kernel⟩, List.mem_of_getElem? (i := 241) (by decide +kernel), List.mem_of_getElem? (i := 1304) (by decide +kernel), List.mem_of_getElem? (i := 1305) (by decide +kernel)⟩
theorem lw_p63 : lw_okq (⟨"TurnHouse$Reader", "readCell", "()V"⟩, 15) := ⟨⟨by decide +kernel, by decide +kernel⟩, List.mem_of_getElem? (i := 241) (by decide +kernel), List.mem_of_getElem? (i := 1309) (by decide +kernel), List.mem_of_getElem? (i := 1310) (by decide +kernel)⟩
def lw_privs_4 : List (MethodName × Nat) := [(⟨"TurnHouse$Program", "ahead", "(I)I"⟩, 14), (⟨"TurnHouse$Program", "leaveOut", "(I)Z"⟩, 14), (⟨"TurnHouse$Program", "unlink", "(III)V"⟩, 14), (⟨"TurnHouse$Program", "empty", "(I)V"⟩, 14), (⟨"TurnHouse$Program", "reuse", "(I)Z"⟩, 14), (⟨"TurnHouse$Program", "behind", "(I)I"⟩, 14), (⟨"TurnHouse", "forgetRewritten", "()V"⟩, 15), (⟨"TurnHouse$Reader", "open", "(LTurnHouse$Nodes;Z)V"⟩, 15), (⟨"TurnHouse$Tokens", "skipBlanks", "()V"⟩, 12), (⟨"TurnHouse$Tokens", "cutOne", "()V"⟩, 12), (⟨"TurnHouse$Tokens", "byteAt", "(I)I"⟩, 12), (⟨"TurnHouse$Tokens", "cutWord", "()V"⟩, 12), (⟨"TurnHouse$Tokens", "cutNumber", "()V"⟩, 12), (⟨"TurnHouse$Tokens", "cutSign", "(I)V"⟩, 12), (⟨"TurnHouse$Reader", "skip", "(I)Z"⟩, 15), (⟨"TurnHouse$Reader", "readCell", "()V"⟩, 15)]
theorem lw_r4 : ∀ q ∈ lw_privs_4, lw_okq q := List.forall_mem_cons.mpr ⟨lw_p48, List.forall_mem_cons.mpr ⟨lw_p49, List.forall_mem_cons.mpr ⟨lw_p50, List.forall_mem_cons.mpr ⟨lw_p51, List.forall_mem_cons.mpr ⟨lw_p52, List.forall_mem_cons.mpr ⟨lw_p53, List.forall_mem_cons.mpr ⟨lw_p54, List.forall_mem_cons.mpr ⟨lw_p55, List.forall_mem_cons.mpr ⟨lw_p56, List.forall_mem_cons.mpr ⟨lw_p57, List.forall_mem_cons.mpr ⟨lw_p58, List.forall_mem_cons.mpr ⟨lw_p59, List.forall_mem_cons.mpr ⟨lw_p60, List.forall_mem_cons.mpr ⟨lw_p61, List.forall_mem_cons.mpr ⟨lw_p62, List.forall_mem_cons.mpr ⟨lw_p63, fun _ h => absurd h List.not_mem_nil⟩⟩⟩⟩⟩⟩⟩⟩⟩⟩⟩⟩⟩⟩⟩⟩
theorem lw_p64 : lw_okq (⟨"TurnHouse$Reader", "isNewName", "(II)Z"⟩, 15) := ⟨⟨by decide +kernel, by decide +kernel⟩, List.mem_of_getElem? (i := 241) (by decide +kernel), List.mem_of_getElem? (i := 1313) (by decide +kernel), List.mem_of_getElem? (i := 1314) (by decide +kernel)⟩
theorem lw_p65 : lw_okq (⟨"TurnHouse$Reader", "blame", "(I)V"⟩, 15) := ⟨⟨by decide +kernel, by decide +kernel⟩, List.mem_of_getElem? (i := 241) (by decide +kernel), List.mem_of_getElem? (i := 1317) (by decide +kernel), List.mem_of_getElem? (i := 1318) (by decide +kernel)⟩
theorem lw_p66 : lw_okq (⟨"TurnHouse$Reader", "need", "(I)V"⟩, 15) := ⟨⟨by decide +kernel, by decide +kernel⟩, List.mem_of_getElem? (i := 241) (by decide +kernel), List.mem_of_getElem? (i := 1340) (by decide +kernel), List.mem_of_getElem? (i := 1341) (by decide +kernel)⟩
theorem lw_p67 : lw_okq (⟨"TurnHouse$Reader", "readLock", "()V"⟩, 15) := ⟨⟨by decide +kernel, by decide +kernel⟩, List.mem_of_getElem? (i := 241) (by decide +kernel), List.mem_of_getElem? (i := 1344) (by decide +kernel), List.mem_of_getElem? (i := 1345) (by decide +kernel)⟩
theorem lw_p68 : lw_okq (⟨"TurnHouse$Reader", "readThread", "()V"⟩, 15) := ⟨⟨by decide +kernel, by decide +kernel⟩, List.mem_of_getElem? (i := 241) (by decide +kernel), List.mem_of_getElem? (i := 1352) (by decide +kernel), List.mem_of_getElem? (i := 1353) (by decide +kernel)⟩
theorem lw_p69 : lw_okq (⟨"TurnHouse$Reader", "readBlock", "(III)V"⟩, 15) := ⟨⟨by decide +kernel, by decide +kernel⟩, List.mem_of_getElem? (i := 241) (by decide +kernel), List.mem_of_getElem? (i := 1360) (by decide +kernel), List.mem_of_getElem? (i := 1361) (by decide +kernel)⟩
theorem lw_p70 : lw_okq (⟨"TurnHouse$Reader", "mayBegin", "()Z"⟩, 15) := ⟨⟨by decide +kernel, by decide +kernel⟩, List.mem_of_getElem? (i := 241) (by decide +kernel), List.mem_of_getElem? (i := 1364) (by decide +kernel), List.mem_of_getElem? (i := 1365) (by decide +kernel)⟩
theorem lw_p71 : lw_okq (⟨"TurnHouse$Reader", "readStatement", "(II)V"⟩, 15) := ⟨⟨by decide +kernel, by decide +kernel⟩, List.mem_of_getElem? (i := 241) (by decide +kernel), List.mem_of_getElem? (i := 1380) (by decide +kernel), List.mem_of_getElem? (i := 1381) (by decide +kernel)⟩
theorem lw_p72 : lw_okq (⟨"TurnHouse$Reader", "readTarget", "(I)I"⟩, 15) := ⟨⟨by decide +kernel, by decide +kernel⟩, List.mem_of_getElem? (i := 241) (by decide +kernel), List.mem_of_getElem? (i := 1384) (by decide +kernel), List.mem_of_getElem? (i := 1385) (by decide +kernel)⟩
theorem lw_p73 : lw_okq (⟨"TurnHouse$Reader", "readLocal", "(I)V"⟩, 15) := ⟨⟨by decide +kernel, by decide +kernel⟩, List.mem_of_getElem? (i := 241) (by decide +kernel), List.mem_of_getElem? (i := 1391) (by decide +kernel), List.mem_of_getElem? (i := 1392) (by decide +kernel)⟩
theorem lw_p74 : lw_okq (⟨"TurnHouse$Reader", "localHere", "()I"⟩, 15) := ⟨⟨by decide +kernel, by decide +kernel⟩, List.mem_of_getElem? (i := 241) (by decide +kernel), List.mem_of_getElem? (i := 1395) (by decide +kernel), List.mem_of_getElem? (i := 1396) (by decide +kernel)⟩
theorem lw_p75 : lw_okq (⟨"TurnHouse$Reader", "readObject", "(II)V"⟩, 15) := ⟨⟨by decide +kernel, by decide +kernel⟩, List.mem_of_getElem? (i := 241) (by decide +kernel), List.mem_of_getElem? (i := 1404) (by decide +kernel), List.mem_of_getElem? (i := 1405) (by decide +kernel)⟩
theorem lw_p76 : lw_okq (⟨"TurnHouse$Reader", "needName", "(IZI)V"⟩, 15) := ⟨⟨by decide +kernel, by decide +kernel⟩, List.mem_of_getElem? (i := 241) (by decide +kernel), List.mem_of_getElem? (i := 1408) (by decide +kernel), List.mem_of_getElem? (i := 1409) (by decide +kernel)⟩
theorem lw_p77 : lw_okq (⟨"TurnHouse$Reader", "hasExp", "(I)Z"⟩, 15) := ⟨⟨by decide +kernel, by decide +kernel⟩, List.mem_of_getElem? (i := 241) (by decide +kernel), List.mem_of_getElem? (i := 1412) (by decide +kernel), List.mem_of_getElem? (i := 1413) (by decide +kernel)⟩
theorem lw_p78 : lw_okq (⟨"TurnHouse$Reader", "readLevel", "(II)V"⟩, 15) := ⟨⟨by decide +kernel, by decide +kernel⟩, List.mem_of_getElem? (i := 241) (by decide +kernel), List.mem_of_getElem? (i := 1416) (by decide +kernel), List.mem_of_getElem? (i := 1417) (by decide +kernel)⟩
theorem lw_p79 : lw_okq (⟨"TurnHouse$Reader", "readSide", "(II)V"⟩, 15) := ⟨⟨by decide +kernel, by decide +kernel⟩, List.mem_of_getElem? (i := 241) (by decide +kernel), List.mem_of_getElem? (i := 1420) (by decide +kernel), List.mem_of_getElem? (i := 1421) (by decide +kernel)⟩
def lw_privs_5 : List (MethodName × Nat) := [(⟨"TurnHouse$Reader", "isNewName", "(II)Z"⟩, 15), (⟨"TurnHouse$Reader", "blame", "(I)V"⟩, 15), (⟨"TurnHouse$Reader", "need", "(I)V"⟩, 15), (⟨"TurnHouse$Reader", "readLock", "()V"⟩, 15), (⟨"TurnHouse$Reader", "readThread", "()V"⟩, 15), (⟨"TurnHouse$Reader", "readBlock", "(III)V"⟩, 15), (⟨"TurnHouse$Reader", "mayBegin", "()Z"⟩, 15), (⟨"TurnHouse$Reader", "readStatement", "(II)V"⟩, 15), (⟨"TurnHouse$Reader", "readTarget", "(I)I"⟩, 15), (⟨"TurnHouse$Reader", "readLocal", "(I)V"⟩, 15), (⟨"TurnHouse$Reader", "localHere", "()I"⟩, 15), (⟨"TurnHouse$Reader", "readObject", "(II)V"⟩, 15), (⟨"TurnHouse$Reader", "needName", "(IZI)V"⟩, 15), (⟨"TurnHouse$Reader", "hasExp", "(I)Z"⟩, 15), (⟨"TurnHouse$Reader", "readLevel", "(II)V"⟩, 15), (⟨"TurnHouse$Reader", "readSide", "(II)V"⟩, 15)]
theorem lw_r5 : ∀ q ∈ lw_privs_5, lw_okq q := List.forall_mem_cons.mpr ⟨lw_p64, List.forall_mem_cons.mpr ⟨lw_p65, List.forall_mem_cons.mpr ⟨lw_p66, List.forall_mem_cons.mpr ⟨lw_p67, List.forall_mem_cons.mpr ⟨lw_p68, List.forall_mem_cons.mpr ⟨lw_p69, List.forall_mem_cons.mpr ⟨lw_p70, List.forall_mem_cons.mpr ⟨lw_p71, List.forall_mem_cons.mpr ⟨lw_p72, List.forall_mem_cons.mpr ⟨lw_p73, List.forall_mem_cons.mpr ⟨lw_p74, List.forall_mem_cons.mpr ⟨lw_p75, List.forall_mem_cons.mpr ⟨lw_p76, List.forall_mem_cons.mpr ⟨lw_p77, List.forall_mem_cons.mpr ⟨lw_p78, List.forall_mem_cons.mpr ⟨lw_p79, fun _ h => absurd h List.not_mem_nil⟩⟩⟩⟩⟩⟩⟩⟩⟩⟩⟩⟩⟩⟩⟩⟩
theorem lw_p80 : lw_okq (⟨"TurnHouse$Reader", "readOne", "(I)V"⟩, 15) := ⟨⟨by decide +kernel, by decide +kernel⟩, List.mem_of_getElem? (i := 241) (by decide +kernel), List.mem_of_getElem? (i := 1424) (by decide +kernel), List.mem_of_getElem? (i := 1425) (by decide +kernel)⟩
theorem lw_p81 : lw_okq (⟨"TurnHouse$Reader", "beginsOne", "(I)Z"⟩, 15) := ⟨⟨by decide +kernel, by decide +kernel⟩, List.mem_of_getElem? (i := 241) (by decide +kernel), List.mem_of_getElem? (i := 1428) (by decide +kernel), List.mem_of_getElem? (i := 1429) (by decide +kernel)⟩
theorem lw_p82 : lw_okq (⟨"TurnHouse$Reader", "isStray", "()Z"⟩, 15) := ⟨⟨by decide +kernel, by decide +kernel⟩, List.mem_of_getElem? (i := 241) (by decide +kernel), List.mem_of_getElem? (i := 1432) (by decide +kernel), List.mem_of_getElem? (i := 1433) (by decide +kernel)⟩
theorem lw_p83 : lw_okq (⟨"TurnHouse$Reader", "countNode", "()Z"⟩, 15) := ⟨⟨by decide +kernel, by decide +kernel⟩, List.mem_of_getElem? (i := 241) (by decide +kernel), List.mem_of_getElem? (i := 1436) (by decide +kernel), List.mem_of_getElem? (i := 1437) (by decide +kernel)⟩
theorem lw_p84 : lw_okq (⟨"TurnHouse$Reader", "readNode", "(II)V"⟩, 15) := ⟨⟨by decide +kernel, by decide +kernel⟩, List.mem_of_getElem? (i := 241) (by decide +kernel), List.mem_of_getElem? (i := 1440) (by decide +kernel), List.mem_of_getElem? (i := 1441) (by decide +kernel)⟩
theorem lw_p85 : lw_okq (⟨"TurnHouse$Reader", "readCellOrLocal", "()V"⟩, 15) := ⟨⟨by decide +kernel, by decide +kernel⟩, List.mem_of_getElem? (i := 241) (by decide +kernel), List.mem_of_getElem? (i := 1449) (by decide +kernel), List.mem_of_getElem? (i := 1450) (by decide +kernel)⟩
theorem lw_p86 : lw_okq (⟨"TurnHouse$Reader", "readAsked", "(I)V"⟩, 15) := ⟨⟨by decide +kernel, by decide +kernel⟩, List.mem_of_getElem? (i := 241) (by decide +kernel), List.mem_of_getElem? (i := 1455) (by decide +kernel), List.mem_of_getElem? (i := 1456) (by decide +kernel)⟩
theorem lw_p87 : lw_okq (⟨"TurnHouse$Reader", "readInto", "(I)V"⟩, 15) := ⟨⟨by decide +kernel, by decide +kernel⟩, List.mem_of_getElem? (i := 241) (by decide +kernel), List.mem_of_getElem? (i := 1462) (by decide +kernel), List.mem_of_getElem? (i := 1463) (by decide +kernel)⟩
theorem lw_p88 : lw_okq (⟨"TurnHouse$Reader", "aimThreads", "()V"⟩, 15) := ⟨⟨by decide +kernel, by decide +kernel⟩, List.mem_of_getElem? (i := 241) (by decide +kernel), List.mem_of_getElem? (i := 1466) (by decide +kernel), List.mem_of_getElem? (i := 1467) (by decide +kernel)⟩
theorem lw_p89 : lw_okq (⟨"TurnHouse$Turns", "countSwitches", "()V"⟩, 20) := ⟨⟨by decide +kernel, by decide +kernel⟩, List.mem_of_getElem? (i := 295) (by decide +kernel), List.mem_of_getElem? (i := 1493) (by decide +kernel), List.mem_of_getElem? (i := 1494) (by decide +kernel)⟩
theorem lw_p90 : lw_okq (⟨"TurnHouse$Turns", "reach", "(III)V"⟩, 20) := ⟨⟨by decide +kernel, by decide +kernel⟩, List.mem_of_getElem? (i := 295) (by decide +kernel), List.mem_of_getElem? (i := 1504) (by decide +kernel), List.mem_of_getElem? (i := 1505) (by decide +kernel)⟩
theorem lw_p91 : lw_okq (⟨"TurnHouse$Turns", "leaveFrom", "(II)V"⟩, 20) := ⟨⟨by decide +kernel, by decide +kernel⟩, List.mem_of_getElem? (i := 295) (by decide +kernel), List.mem_of_getElem? (i := 1508) (by decide +kernel), List.mem_of_getElem? (i := 1509) (by decide +kernel)⟩
def lw_privs_6 : List (MethodName × Nat) := [(⟨"TurnHouse$Reader", "readOne", "(I)V"⟩, 15), (⟨"TurnHouse$Reader", "beginsOne", "(I)Z"⟩, 15), (⟨"TurnHouse$Reader", "isStray", "()Z"⟩, 15), (⟨"TurnHouse$Reader", "countNode", "()Z"⟩, 15), (⟨"TurnHouse$Reader", "readNode", "(II)V"⟩, 15), (⟨"TurnHouse$Reader", "readCellOrLocal", "()V"⟩, 15), (⟨"TurnHouse$Reader", "readAsked", "(I)V"⟩, 15), (⟨"TurnHouse$Reader", "readInto", "(I)V"⟩, 15), (⟨"TurnHouse$Reader", "aimThreads", "()V"⟩, 15), (⟨"TurnHouse$Turns", "countSwitches", "()V"⟩, 20), (⟨"TurnHouse$Turns", "reach", "(III)V"⟩, 20), (⟨"TurnHouse$Turns", "leaveFrom", "(II)V"⟩, 20)]
theorem lw_r6 : ∀ q ∈ lw_privs_6, lw_okq q := List.forall_mem_cons.mpr ⟨lw_p80, List.forall_mem_cons.mpr ⟨lw_p81, List.forall_mem_cons.mpr ⟨lw_p82, List.forall_mem_cons.mpr ⟨lw_p83, List.forall_mem_cons.mpr ⟨lw_p84, List.forall_mem_cons.mpr ⟨lw_p85, List.forall_mem_cons.mpr ⟨lw_p86, List.forall_mem_cons.mpr ⟨lw_p87, List.forall_mem_cons.mpr ⟨lw_p88, List.forall_mem_cons.mpr ⟨lw_p89, List.forall_mem_cons.mpr ⟨lw_p90, List.forall_mem_cons.mpr ⟨lw_p91, fun _ h => absurd h List.not_mem_nil⟩⟩⟩⟩⟩⟩⟩⟩⟩⟩⟩⟩
def lw_privs : List (MethodName × Nat) := lw_privs_1 ++ (lw_privs_2 ++ (lw_privs_3 ++ (lw_privs_4 ++ (lw_privs_5 ++ (lw_privs_6)))))
def lw_tbl : List Cond := k2_sels lw_privs ++ tables_1
theorem lw_privs_ok : ∀ q ∈ lw_privs, lw_okq q := by
  show ∀ q ∈ lw_privs_1 ++ (lw_privs_2 ++ (lw_privs_3 ++ (lw_privs_4 ++ (lw_privs_5 ++ (lw_privs_6))))), lw_okq q
  exact List.forall_mem_append.mpr ⟨lw_r1, List.forall_mem_append.mpr ⟨lw_r2, List.forall_mem_append.mpr ⟨lw_r3, List.forall_mem_append.mpr ⟨lw_r4, List.forall_mem_append.mpr ⟨lw_r5, lw_r6⟩⟩⟩⟩⟩
-- ===== end of PART A; names out of the printed list =====
def RX0 : String := "TurnHouse$Findings"
def TX0 : u_T := fun k => match k with
  | 0 => ("TurnHouse$Findings", "raceState", "[I", true)
  | 1 => ("TurnHouse$Findings", "guards", "[I", true)
  | 2 => ("TurnHouse$Findings", "orders", "[I", true)
  | 3 => ("TurnHouse$Findings", "ringing", "[I", true)
  | 4 => ("TurnHouse$Findings", "touching", "[I", true)
  | 5 => ("TurnHouse$Findings", "reached", "[I", true)
  | _ => ("TurnHouse$Findings", "raceCount", "I", false)
def tyX0 : Nat → FieldType := fun k => match k with
  | 0 => .array .int
  | 1 => .array .int
  | 2 => .array .int
  | 3 => .array .int
  | 4 => .array .int
  | 5 => .array .int
  | _ => .int
abbrev wsX00 : List Cond := u_ws RX0 TX0 7
theorem nmX0 : ∀ a, a < 7 → ∀ b, b < 7 → a ≠ b → (TX0 a).2.1 ≠ (TX0 b).2.1 := by decide +kernel
theorem tyX0_ok : ∀ k, k < 7 → parseFieldDescriptor (TX0 k).2.2.1 = some (tyX0 k) := by decide +kernel
abbrev cX0_init : ByteArray := prog_2_method_1_code
def yX0_init : MethodName := ⟨RX0, "<init>", "()V"⟩
abbrev cX0_clear : ByteArray := prog_2_method_2_code
def yX0_clear : MethodName := ⟨RX0, "clear", "(LTurnHouse$Program;)V"⟩
abbrev cX0_see : ByteArray := prog_2_method_3_code
def yX0_see : MethodName := ⟨RX0, "see", "(LTurnHouse$Machine;I)V"⟩
abbrev cX0_noteRace : ByteArray := prog_2_method_4_code
def yX0_noteRace : MethodName := ⟨RX0, "noteRace", "(III)V"⟩
abbrev cX0_noteTaking : ByteArray := prog_2_method_6_code
def yX0_noteTaking : MethodName := ⟨RX0, "noteTaking", "(LTurnHouse$Machine;I)V"⟩
abbrev cX0_seeStuck : ByteArray := prog_2_method_8_code
def yX0_seeStuck : MethodName := ⟨RX0, "seeStuck", "(LTurnHouse$Machine;I)V"⟩
abbrev cX0_noteStuck : ByteArray := prog_2_method_9_code
def yX0_noteStuck : MethodName := ⟨RX0, "noteStuck", "(III)V"⟩
abbrev cX0_leastInRing : ByteArray := prog_2_method_10_code
def yX0_leastInRing : MethodName := ⟨RX0, "leastInRing", "(LTurnHouse$Machine;)I"⟩
def RX1 : String := "TurnHouse$History"
def TX1 : u_T := fun k => match k with
  | 0 => ("TurnHouse$History", "calls", "[[I", true)
  | 1 => ("TurnHouse$History", "content", "[[I", true)
  | 2 => ("TurnHouse$History", "contentSize", "[I", true)
  | 3 => ("TurnHouse$History", "open", "[I", true)
  | 4 => ("TurnHouse$History", "chosen", "[I", true)
  | 5 => ("TurnHouse$History", "told", "[I", true)
  | 6 => ("TurnHouse$History", "toldLength", "I", false)
  | 7 => ("TurnHouse$History", "length", "I", false)
  | 8 => ("TurnHouse$History", "callCount", "I", false)
  | 9 => ("TurnHouse$History", "repliedCalls", "I", false)
  | _ => ("TurnHouse$History", "structure", "I", false)
def tyX1 : Nat → FieldType := fun k => match k with
  | 0 => .array (.array .int)
  | 1 => .array (.array .int)
  | 2 => .array .int
  | 3 => .array .int
  | 4 => .array .int
  | 5 => .array .int
  | 6 => .int
  | 7 => .int
  | 8 => .int
  | 9 => .int
  | _ => .int
abbrev wsX10 : List Cond := u_ws RX1 TX1 11
theorem nmX1 : ∀ a, a < 11 → ∀ b, b < 11 → a ≠ b → (TX1 a).2.1 ≠ (TX1 b).2.1 := by decide +kernel
theorem tyX1_ok : ∀ k, k < 11 → parseFieldDescriptor (TX1 k).2.2.1 = some (tyX1 k) := by decide +kernel
abbrev cX1_init : ByteArray := prog_3_method_1_code
def yX1_init : MethodName := ⟨RX1, "<init>", "()V"⟩
def RX2 : String := "TurnHouse$Judge"
def TX2 : u_T := fun k => match k with
  | 0 => ("TurnHouse$Judge", "turns", "LTurnHouse$Turns;", true)
  | 1 => ("TurnHouse$Judge", "nodes", "LTurnHouse$Nodes;", true)
  | 2 => ("TurnHouse$Judge", "flags", "[I", true)
  | 3 => ("TurnHouse$Judge", "number", "[I", true)
  | 4 => ("TurnHouse$Judge", "low", "[I", true)
  | 5 => ("TurnHouse$Judge", "group", "[I", true)
  | 6 => ("TurnHouse$Judge", "open", "[I", true)
  | 7 => ("TurnHouse$Judge", "trail", "[I", true)
  | 8 => ("TurnHouse$Judge", "next", "[I", true)
  | 9 => ("TurnHouse$Judge", "numbered", "I", false)
  | 10 => ("TurnHouse$Judge", "openCount", "I", false)
  | 11 => ("TurnHouse$Judge", "trailLength", "I", false)
  | 12 => ("TurnHouse$Judge", "groups", "I", false)
  | _ => ("TurnHouse$Judge", "shown", "I", false)
def tyX2 : Nat → FieldType := fun k => match k with
  | 0 => .object "TurnHouse$Turns"
  | 1 => .object "TurnHouse$Nodes"
  | 2 => .array .int
  | 3 => .array .int
  | 4 => .array .int
  | 5 => .array .int
  | 6 => .array .int
  | 7 => .array .int
  | 8 => .array .int
  | 9 => .int
  | 10 => .int
  | 11 => .int
  | 12 => .int
  | _ => .int
abbrev wsX20 : List Cond := u_ws RX2 TX2 14
theorem nmX2 : ∀ a, a < 14 → ∀ b, b < 14 → a ≠ b → (TX2 a).2.1 ≠ (TX2 b).2.1 := by decide +kernel
theorem tyX2_ok : ∀ k, k < 14 → parseFieldDescriptor (TX2 k).2.2.1 = some (tyX2 k) := by decide +kernel
abbrev cX2_init : ByteArray := prog_4_method_1_code
def yX2_init : MethodName := ⟨RX2, "<init>", "(LTurnHouse$Turns;LTurnHouse$Nodes;)V"⟩
def RX3 : String := "TurnHouse$Machine"
def TX3 : u_T := fun k => match k with
  | 0 => ("TurnHouse$Machine", "now", "[I", true)
  | 1 => ("TurnHouse$Machine", "kept", "[I", true)
  | 2 => ("TurnHouse$Machine", "ready", "[I", true)
  | 3 => ("TurnHouse$Machine", "readyCount", "I", false)
  | 4 => ("TurnHouse$Machine", "slots", "[I", true)
  | 5 => ("TurnHouse$Machine", "slotCount", "I", false)
  | 6 => ("TurnHouse$Machine", "outcomeSlotCount", "I", false)
  | 7 => ("TurnHouse$Machine", "program", "LTurnHouse$Program;", false)
  | 8 => ("TurnHouse$Machine", "way", "I", false)
  | 9 => ("TurnHouse$Machine", "line", "I", false)
  | 10 => ("TurnHouse$Machine", "act", "I", false)
  | 11 => ("TurnHouse$Machine", "told", "I", false)
  | _ => ("TurnHouse$Machine", "target", "I", false)
def tyX3 : Nat → FieldType := fun k => match k with
  | 0 => .array .int
  | 1 => .array .int
  | 2 => .array .int
  | 3 => .int
  | 4 => .array .int
  | 5 => .int
  | 6 => .int
  | 7 => .object "TurnHouse$Program"
  | 8 => .int
  | 9 => .int
  | 10 => .int
  | 11 => .int
  | _ => .int
abbrev wsX30 : List Cond := u_ws RX3 TX3 13
theorem nmX3 : ∀ a, a < 13 → ∀ b, b < 13 → a ≠ b → (TX3 a).2.1 ≠ (TX3 b).2.1 := by decide +kernel
theorem tyX3_ok : ∀ k, k < 13 → parseFieldDescriptor (TX3 k).2.2.1 = some (tyX3 k) := by decide +kernel
abbrev cX3_init : ByteArray := prog_5_method_1_code
def yX3_init : MethodName := ⟨RX3, "<init>", "()V"⟩
abbrev cX3_localSlot : ByteArray := prog_5_method_2_code
def yX3_localSlot : MethodName := ⟨RX3, "localSlot", "(II)I"⟩
abbrev cX3_enterFirst : ByteArray := prog_5_method_3_code
def yX3_enterFirst : MethodName := ⟨RX3, "enterFirst", "(LTurnHouse$Program;I)V"⟩
abbrev cX3_go : ByteArray := prog_5_method_4_code
def yX3_go : MethodName := ⟨RX3, "go", "(II)V"⟩
abbrev cX3_pickSlots : ByteArray := prog_5_method_5_code
def yX3_pickSlots : MethodName := ⟨RX3, "pickSlots", "()V"⟩
abbrev cX3_pick : ByteArray := prog_5_method_6_code
def yX3_pick : MethodName := ⟨RX3, "pick", "(II)V"⟩
abbrev cX3_makeEven : ByteArray := prog_5_method_7_code
def yX3_makeEven : MethodName := ⟨RX3, "makeEven", "()V"⟩
abbrev cX3_pack : ByteArray := prog_5_method_8_code
def yX3_pack : MethodName := ⟨RX3, "pack", "([J)V"⟩
abbrev cX3_unpack : ByteArray := prog_5_method_9_code
def yX3_unpack : MethodName := ⟨RX3, "unpack", "([JI)V"⟩
abbrev cX3_keep : ByteArray := prog_5_method_10_code
def yX3_keep : MethodName := ⟨RX3, "keep", "()V"⟩
abbrev cX3_comeBack : ByteArray := prog_5_method_11_code
def yX3_comeBack : MethodName := ⟨RX3, "comeBack", "()V"⟩
abbrev cX3_listReady : ByteArray := prog_5_method_12_code
def yX3_listReady : MethodName := ⟨RX3, "listReady", "()I"⟩
abbrev cX3_isReady : ByteArray := prog_5_method_13_code
def yX3_isReady : MethodName := ⟨RX3, "isReady", "(II)Z"⟩
abbrev cX3_choices : ByteArray := prog_5_method_14_code
def yX3_choices : MethodName := ⟨RX3, "choices", "(I)I"⟩
abbrev cX3_needsEmptyQueue : ByteArray := prog_5_method_15_code
def yX3_needsEmptyQueue : MethodName := ⟨RX3, "needsEmptyQueue", "(II)Z"⟩
abbrev cX3_hasRoom : ByteArray := prog_5_method_16_code
def yX3_hasRoom : MethodName := ⟨RX3, "hasRoom", "(III)Z"⟩
abbrev cX3_waitsFor : ByteArray := prog_5_method_17_code
def yX3_waitsFor : MethodName := ⟨RX3, "waitsFor", "(II)Z"⟩
abbrev cX3_waiters : ByteArray := prog_5_method_18_code
def yX3_waiters : MethodName := ⟨RX3, "waiters", "(I)I"⟩
abbrev cX3_sort : ByteArray := prog_5_method_19_code
def yX3_sort : MethodName := ⟨RX3, "sort", "()I"⟩
abbrev cX3_locksOf : ByteArray := prog_5_method_20_code
def yX3_locksOf : MethodName := ⟨RX3, "locksOf", "(I)I"⟩
abbrev cX3_lockAhead : ByteArray := prog_5_method_21_code
def yX3_lockAhead : MethodName := ⟨RX3, "lockAhead", "(I)I"⟩
abbrev cX3_take : ByteArray := prog_5_method_22_code
def yX3_take : MethodName := ⟨RX3, "take", "(II)V"⟩
abbrev cX3_workOut : ByteArray := prog_5_method_23_code
def yX3_workOut : MethodName := ⟨RX3, "workOut", "(I)I"⟩
abbrev cX3_setLocal : ByteArray := prog_5_method_24_code
def yX3_setLocal : MethodName := ⟨RX3, "setLocal", "(II)V"⟩
abbrev cX3_touch : ByteArray := prog_5_method_25_code
def yX3_touch : MethodName := ⟨RX3, "touch", "(III)I"⟩
abbrev cX3_swapIf : ByteArray := prog_5_method_26_code
def yX3_swapIf : MethodName := ⟨RX3, "swapIf", "(IIII)V"⟩
abbrev cX3_addTo : ByteArray := prog_5_method_27_code
def yX3_addTo : MethodName := ⟨RX3, "addTo", "(III)I"⟩
abbrev cX3_useLock : ByteArray := prog_5_method_28_code
def yX3_useLock : MethodName := ⟨RX3, "useLock", "(III)I"⟩
abbrev cX3_leave : ByteArray := prog_5_method_29_code
def yX3_leave : MethodName := ⟨RX3, "leave", "(II)V"⟩
abbrev cX3_wake : ByteArray := prog_5_method_30_code
def yX3_wake : MethodName := ⟨RX3, "wake", "(II)V"⟩
abbrev cX3_takeBack : ByteArray := prog_5_method_31_code
def yX3_takeBack : MethodName := ⟨RX3, "takeBack", "(II)V"⟩
abbrev cX3_meet : ByteArray := prog_5_method_32_code
def yX3_meet : MethodName := ⟨RX3, "meet", "(II)I"⟩
abbrev cX3_begins : ByteArray := prog_5_method_33_code
def yX3_begins : MethodName := ⟨RX3, "begins", "(II)I"⟩
abbrev cX3_tell : ByteArray := prog_5_method_34_code
def yX3_tell : MethodName := ⟨RX3, "tell", "()I"⟩
abbrev cX3_loadable : ByteArray := prog_5_method_36_code
def yX3_loadable : MethodName := ⟨RX3, "loadable", "(II)I"⟩
abbrev cX3_store : ByteArray := prog_5_method_37_code
def yX3_store : MethodName := ⟨RX3, "store", "(III)V"⟩
abbrev cX3_flush : ByteArray := prog_5_method_38_code
def yX3_flush : MethodName := ⟨RX3, "flush", "(I)V"⟩
abbrev cX3_write : ByteArray := prog_5_method_39_code
def yX3_write : MethodName := ⟨RX3, "write", "(IIIZ)V"⟩
abbrev cX3_viewed : ByteArray := prog_5_method_40_code
def yX3_viewed : MethodName := ⟨RX3, "viewed", "(II)I"⟩
abbrev cX3_view : ByteArray := prog_5_method_41_code
def yX3_view : MethodName := ⟨RX3, "view", "(III)V"⟩
abbrev cX3_look : ByteArray := prog_5_method_42_code
def yX3_look : MethodName := ⟨RX3, "look", "(III)V"⟩
abbrev cX3_lookAtLast : ByteArray := prog_5_method_43_code
def yX3_lookAtLast : MethodName := ⟨RX3, "lookAtLast", "(II)V"⟩
abbrev cX3_learn : ByteArray := prog_5_method_44_code
def yX3_learn : MethodName := ⟨RX3, "learn", "(II)V"⟩
def RX4 : String := "TurnHouse$Nodes"
def TX4 : u_T := fun k => match k with
  | 0 => ("TurnHouse$Nodes", "operator", "[I", true)
  | 1 => ("TurnHouse$Nodes", "operand", "[I", true)
  | 2 => ("TurnHouse$Nodes", "stack", "[I", true)
  | 3 => ("TurnHouse$Nodes", "size", "I", false)
  | _ => ("TurnHouse$Nodes", "beyond", "Z", false)
def tyX4 : Nat → FieldType := fun k => match k with
  | 0 => .array .int
  | 1 => .array .int
  | 2 => .array .int
  | 3 => .int
  | _ => .boolean
abbrev wsX40 : List Cond := u_ws RX4 TX4 5
theorem nmX4 : ∀ a, a < 5 → ∀ b, b < 5 → a ≠ b → (TX4 a).2.1 ≠ (TX4 b).2.1 := by decide +kernel
theorem tyX4_ok : ∀ k, k < 5 → parseFieldDescriptor (TX4 k).2.2.1 = some (tyX4 k) := by decide +kernel
abbrev cX4_init : ByteArray := prog_6_method_1_code
def yX4_init : MethodName := ⟨RX4, "<init>", "(I)V"⟩
abbrev cX4_put : ByteArray := prog_6_method_2_code
def yX4_put : MethodName := ⟨RX4, "put", "(II)V"⟩
abbrev cX4_set : ByteArray := prog_6_method_3_code
def yX4_set : MethodName := ⟨RX4, "set", "(III)V"⟩
abbrev cX4_workOut : ByteArray := prog_6_method_4_code
def yX4_workOut : MethodName := ⟨RX4, "workOut", "(II[I)I"⟩
abbrev cX4_apply : ByteArray := prog_6_method_5_code
def yX4_apply : MethodName := ⟨RX4, "apply", "(III[I)I"⟩
def RX5 : String := "TurnHouse$Program"
def TX5 : u_T := fun k => match k with
  | 0 => ("TurnHouse$Program", "nodes", "LTurnHouse$Nodes;", true)
  | 1 => ("TurnHouse$Program", "names", "[J", true)
  | 2 => ("TurnHouse$Program", "locals", "[J", true)
  | 3 => ("TurnHouse$Program", "localCount", "[I", true)
  | 4 => ("TurnHouse$Program", "firstValue", "[I", true)
  | 5 => ("TurnHouse$Program", "head", "[I", true)
  | 6 => ("TurnHouse$Program", "at", "[[I", true)
  | 7 => ("TurnHouse$Program", "volatileCells", "I", false)
  | 8 => ("TurnHouse$Program", "laterThreads", "I", false)
  | 9 => ("TurnHouse$Program", "cellCount", "I", false)
  | 10 => ("TurnHouse$Program", "lockCount", "I", false)
  | 11 => ("TurnHouse$Program", "threadCount", "I", false)
  | 12 => ("TurnHouse$Program", "lineCount", "I", false)
  | _ => ("TurnHouse$Program", "nodeCount", "I", false)
def tyX5 : Nat → FieldType := fun k => match k with
  | 0 => .object "TurnHouse$Nodes"
  | 1 => .array .long
  | 2 => .array .long
  | 3 => .array .int
  | 4 => .array .int
  | 5 => .array .int
  | 6 => .array (.array .int)
  | 7 => .int
  | 8 => .int
  | 9 => .int
  | 10 => .int
  | 11 => .int
  | 12 => .int
  | _ => .int
abbrev wsX50 : List Cond := u_ws RX5 TX5 14
theorem nmX5 : ∀ a, a < 14 → ∀ b, b < 14 → a ≠ b → (TX5 a).2.1 ≠ (TX5 b).2.1 := by decide +kernel
theorem tyX5_ok : ∀ k, k < 14 → parseFieldDescriptor (TX5 k).2.2.1 = some (tyX5 k) := by decide +kernel
abbrev cX5_init : ByteArray := prog_7_method_1_code
def yX5_init : MethodName := ⟨RX5, "<init>", "(LTurnHouse$Nodes;)V"⟩
abbrev cX5_clear : ByteArray := prog_7_method_2_code
def yX5_clear : MethodName := ⟨RX5, "clear", "()V"⟩
abbrev cX5_copy : ByteArray := prog_7_method_3_code
def yX5_copy : MethodName := ⟨RX5, "copy", "(LTurnHouse$Program;)V"⟩
abbrev cX5_find : ByteArray := prog_7_method_4_code
def yX5_find : MethodName := ⟨RX5, "find", "([JIIJ)I"⟩
abbrev cX5_named : ByteArray := prog_7_method_5_code
def yX5_named : MethodName := ⟨RX5, "named", "(J)I"⟩
abbrev cX5_isCell : ByteArray := prog_7_method_6_code
def yX5_isCell : MethodName := ⟨RX5, "isCell", "(I)Z"⟩
abbrev cX5_isLock : ByteArray := prog_7_method_7_code
def yX5_isLock : MethodName := ⟨RX5, "isLock", "(I)Z"⟩
abbrev cX5_isThread : ByteArray := prog_7_method_8_code
def yX5_isThread : MethodName := ⟨RX5, "isThread", "(I)Z"⟩
abbrev cX5_localOf : ByteArray := prog_7_method_9_code
def yX5_localOf : MethodName := ⟨RX5, "localOf", "(IJ)I"⟩
abbrev cX5_isTold : ByteArray := prog_7_method_10_code
def yX5_isTold : MethodName := ⟨RX5, "isTold", "(J)Z"⟩
abbrev cX5_hasCell : ByteArray := prog_7_method_11_code
def yX5_hasCell : MethodName := ⟨RX5, "hasCell", "(I)Z"⟩
abbrev cX5_hasThread : ByteArray := prog_7_method_13_code
def yX5_hasThread : MethodName := ⟨RX5, "hasThread", "(I)Z"⟩
abbrev cX5_hasLocal : ByteArray := prog_7_method_14_code
def yX5_hasLocal : MethodName := ⟨RX5, "hasLocal", "(II)Z"⟩
abbrev cX5_isVolatile : ByteArray := prog_7_method_15_code
def yX5_isVolatile : MethodName := ⟨RX5, "isVolatile", "(I)Z"⟩
abbrev cX5_addCell : ByteArray := prog_7_method_16_code
def yX5_addCell : MethodName := ⟨RX5, "addCell", "(J)I"⟩
abbrev cX5_addLock : ByteArray := prog_7_method_17_code
def yX5_addLock : MethodName := ⟨RX5, "addLock", "(J)V"⟩
abbrev cX5_addThread : ByteArray := prog_7_method_18_code
def yX5_addThread : MethodName := ⟨RX5, "addThread", "(J)I"⟩
abbrev cX5_addLocal : ByteArray := prog_7_method_19_code
def yX5_addLocal : MethodName := ⟨RX5, "addLocal", "(IJ)I"⟩
abbrev cX5_addLine : ByteArray := prog_7_method_20_code
def yX5_addLine : MethodName := ⟨RX5, "addLine", "(IIII)I"⟩
abbrev cX5_link : ByteArray := prog_7_method_21_code
def yX5_link : MethodName := ⟨RX5, "link", "(II)V"⟩
abbrev cX5_layWays : ByteArray := prog_7_method_22_code
def yX5_layWays : MethodName := ⟨RX5, "layWays", "()V"⟩
abbrev cX5_behind : ByteArray := prog_7_method_23_code
def yX5_behind : MethodName := ⟨RX5, "behind", "(I)I"⟩
abbrev cX5_touches : ByteArray := prog_7_method_24_code
def yX5_touches : MethodName := ⟨RX5, "touches", "(I)Z"⟩
abbrev cX5_clash : ByteArray := prog_7_method_25_code
def yX5_clash : MethodName := ⟨RX5, "clash", "(II)Z"⟩
abbrev cX5_change : ByteArray := prog_7_method_26_code
def yX5_change : MethodName := ⟨RX5, "change", "(II)Z"⟩
abbrev cX5_ahead : ByteArray := prog_7_method_27_code
def yX5_ahead : MethodName := ⟨RX5, "ahead", "(I)I"⟩
abbrev cX5_swap : ByteArray := prog_7_method_28_code
def yX5_swap : MethodName := ⟨RX5, "swap", "(I)Z"⟩
abbrev cX5_leaveOut : ByteArray := prog_7_method_29_code
def yX5_leaveOut : MethodName := ⟨RX5, "leaveOut", "(I)Z"⟩
abbrev cX5_unlink : ByteArray := prog_7_method_30_code
def yX5_unlink : MethodName := ⟨RX5, "unlink", "(III)V"⟩
abbrev cX5_empty : ByteArray := prog_7_method_31_code
def yX5_empty : MethodName := ⟨RX5, "empty", "(I)V"⟩
abbrev cX5_reuse : ByteArray := prog_7_method_32_code
def yX5_reuse : MethodName := ⟨RX5, "reuse", "(I)Z"⟩
def RX6 : String := "TurnHouse$Reader"
def TX6 : u_T := fun k => match k with
  | 0 => ("TurnHouse$Reader", "tokens", "LTurnHouse$Tokens;", true)
  | 1 => ("TurnHouse$Reader", "program", "LTurnHouse$Program;", true)
  | 2 => ("TurnHouse$Reader", "lawNodes", "LTurnHouse$Nodes;", true)
  | 3 => ("TurnHouse$Reader", "callWords", "[J", true)
  | 4 => ("TurnHouse$Reader", "aimed", "[J", true)
  | 5 => ("TurnHouse$Reader", "aimedAt", "[I", true)
  | 6 => ("TurnHouse$Reader", "cuts", "[I", true)
  | 7 => ("TurnHouse$Reader", "nodes", "LTurnHouse$Nodes;", false)
  | 8 => ("TurnHouse$Reader", "ofLaw", "Z", false)
  | 9 => ("TurnHouse$Reader", "fair", "Z", false)
  | 10 => ("TurnHouse$Reader", "law", "I", false)
  | 11 => ("TurnHouse$Reader", "fault", "I", false)
  | 12 => ("TurnHouse$Reader", "place", "I", false)
  | 13 => ("TurnHouse$Reader", "counted", "I", false)
  | _ => ("TurnHouse$Reader", "thread", "I", false)
def tyX6 : Nat → FieldType := fun k => match k with
  | 0 => .object "TurnHouse$Tokens"
  | 1 => .object "TurnHouse$Program"
  | 2 => .object "TurnHouse$Nodes"
  | 3 => .array .long
  | 4 => .array .long
  | 5 => .array .int
  | 6 => .array .int
  | 7 => .object "TurnHouse$Nodes"
  | 8 => .boolean
  | 9 => .boolean
  | 10 => .int
  | 11 => .int
  | 12 => .int
  | 13 => .int
  | _ => .int
abbrev wsX60 : List Cond := u_ws RX6 TX6 15
theorem nmX6 : ∀ a, a < 15 → ∀ b, b < 15 → a ≠ b → (TX6 a).2.1 ≠ (TX6 b).2.1 := by decide +kernel
theorem tyX6_ok : ∀ k, k < 15 → parseFieldDescriptor (TX6 k).2.2.1 = some (tyX6 k) := by decide +kernel
abbrev cX6_init : ByteArray := prog_8_method_1_code
def yX6_init : MethodName := ⟨RX6, "<init>", "(LTurnHouse$Tokens;LTurnHouse$Program;LTurnHouse$Nodes;)V"⟩
abbrev cX6_open : ByteArray := prog_8_method_2_code
def yX6_open : MethodName := ⟨RX6, "open", "(LTurnHouse$Nodes;Z)V"⟩
abbrev cX6_blame : ByteArray := prog_8_method_3_code
def yX6_blame : MethodName := ⟨RX6, "blame", "(I)V"⟩
abbrev cX6_need : ByteArray := prog_8_method_4_code
def yX6_need : MethodName := ⟨RX6, "need", "(I)V"⟩
abbrev cX6_skip : ByteArray := prog_8_method_5_code
def yX6_skip : MethodName := ⟨RX6, "skip", "(I)Z"⟩
abbrev cX6_readProgram : ByteArray := prog_8_method_6_code
def yX6_readProgram : MethodName := ⟨RX6, "readProgram", "()V"⟩
abbrev cX6_isNewName : ByteArray := prog_8_method_7_code
def yX6_isNewName : MethodName := ⟨RX6, "isNewName", "(II)Z"⟩
abbrev cX6_readCell : ByteArray := prog_8_method_8_code
def yX6_readCell : MethodName := ⟨RX6, "readCell", "()V"⟩
abbrev cX6_readLock : ByteArray := prog_8_method_9_code
def yX6_readLock : MethodName := ⟨RX6, "readLock", "()V"⟩
abbrev cX6_readThread : ByteArray := prog_8_method_10_code
def yX6_readThread : MethodName := ⟨RX6, "readThread", "()V"⟩
abbrev cX6_readBlock : ByteArray := prog_8_method_11_code
def yX6_readBlock : MethodName := ⟨RX6, "readBlock", "(III)V"⟩
abbrev cX6_mayBegin : ByteArray := prog_8_method_12_code
def yX6_mayBegin : MethodName := ⟨RX6, "mayBegin", "()Z"⟩
abbrev cX6_readStatement : ByteArray := prog_8_method_13_code
def yX6_readStatement : MethodName := ⟨RX6, "readStatement", "(II)V"⟩
abbrev cX6_hasExp : ByteArray := prog_8_method_14_code
def yX6_hasExp : MethodName := ⟨RX6, "hasExp", "(I)Z"⟩
abbrev cX6_readTarget : ByteArray := prog_8_method_15_code
def yX6_readTarget : MethodName := ⟨RX6, "readTarget", "(I)I"⟩
abbrev cX6_readLocal : ByteArray := prog_8_method_16_code
def yX6_readLocal : MethodName := ⟨RX6, "readLocal", "(I)V"⟩
abbrev cX6_localHere : ByteArray := prog_8_method_17_code
def yX6_localHere : MethodName := ⟨RX6, "localHere", "()I"⟩
abbrev cX6_readObject : ByteArray := prog_8_method_18_code
def yX6_readObject : MethodName := ⟨RX6, "readObject", "(II)V"⟩
abbrev cX6_needName : ByteArray := prog_8_method_19_code
def yX6_needName : MethodName := ⟨RX6, "needName", "(IZI)V"⟩
abbrev cX6_readInto : ByteArray := prog_8_method_20_code
def yX6_readInto : MethodName := ⟨RX6, "readInto", "(I)V"⟩
abbrev cX6_aimThreads : ByteArray := prog_8_method_21_code
def yX6_aimThreads : MethodName := ⟨RX6, "aimThreads", "()V"⟩
abbrev cX6_levelOf : ByteArray := prog_8_method_22_code
def yX6_levelOf : MethodName := ⟨RX6, "levelOf", "(I)I"⟩
abbrev cX6_readLevel : ByteArray := prog_8_method_23_code
def yX6_readLevel : MethodName := ⟨RX6, "readLevel", "(II)V"⟩
abbrev cX6_readSide : ByteArray := prog_8_method_24_code
def yX6_readSide : MethodName := ⟨RX6, "readSide", "(II)V"⟩
abbrev cX6_countNode : ByteArray := prog_8_method_25_code
def yX6_countNode : MethodName := ⟨RX6, "countNode", "()Z"⟩
abbrev cX6_beginsOne : ByteArray := prog_8_method_26_code
def yX6_beginsOne : MethodName := ⟨RX6, "beginsOne", "(I)Z"⟩
abbrev cX6_isStray : ByteArray := prog_8_method_27_code
def yX6_isStray : MethodName := ⟨RX6, "isStray", "()Z"⟩
abbrev cX6_readOne : ByteArray := prog_8_method_28_code
def yX6_readOne : MethodName := ⟨RX6, "readOne", "(I)V"⟩
abbrev cX6_readNode : ByteArray := prog_8_method_29_code
def yX6_readNode : MethodName := ⟨RX6, "readNode", "(II)V"⟩
abbrev cX6_readAsked : ByteArray := prog_8_method_32_code
def yX6_readAsked : MethodName := ⟨RX6, "readAsked", "(I)V"⟩
abbrev cX6_readCellOrLocal : ByteArray := prog_8_method_33_code
def yX6_readCellOrLocal : MethodName := ⟨RX6, "readCellOrLocal", "()V"⟩
def RX7 : String := "TurnHouse$Rows"
def TX7 : u_T := fun k => match k with
  | 0 => ("TurnHouse$Rows", "data", "[J", true)
  | 1 => ("TurnHouse$Rows", "start", "[I", true)
  | 2 => ("TurnHouse$Rows", "table", "[I", true)
  | 3 => ("TurnHouse$Rows", "size", "I", false)
  | 4 => ("TurnHouse$Rows", "width", "I", false)
  | _ => ("TurnHouse$Rows", "limit", "I", false)
def tyX7 : Nat → FieldType := fun k => match k with
  | 0 => .array .long
  | 1 => .array .int
  | 2 => .array .int
  | 3 => .int
  | 4 => .int
  | _ => .int
abbrev wsX70 : List Cond := u_ws RX7 TX7 6
theorem nmX7 : ∀ a, a < 6 → ∀ b, b < 6 → a ≠ b → (TX7 a).2.1 ≠ (TX7 b).2.1 := by decide +kernel
theorem tyX7_ok : ∀ k, k < 6 → parseFieldDescriptor (TX7 k).2.2.1 = some (tyX7 k) := by decide +kernel
abbrev cX7_init : ByteArray := prog_9_method_1_code
def yX7_init : MethodName := ⟨RX7, "<init>", "([JII)V"⟩
abbrev cX7_clear : ByteArray := prog_9_method_2_code
def yX7_clear : MethodName := ⟨RX7, "clear", "(II)V"⟩
abbrev cX7_placeOf : ByteArray := prog_9_method_3_code
def yX7_placeOf : MethodName := ⟨RX7, "placeOf", "([JI)I"⟩
abbrev cX7_isSame : ByteArray := prog_9_method_4_code
def yX7_isSame : MethodName := ⟨RX7, "isSame", "([JII)Z"⟩
abbrev cX7_numberOf : ByteArray := prog_9_method_5_code
def yX7_numberOf : MethodName := ⟨RX7, "numberOf", "([JI)I"⟩
abbrev cX7_put : ByteArray := prog_9_method_6_code
def yX7_put : MethodName := ⟨RX7, "put", "([JI)I"⟩
abbrev cX7_refer : ByteArray := prog_9_method_7_code
def yX7_refer : MethodName := ⟨RX7, "refer", "(I)I"⟩
abbrev cX7_name : ByteArray := prog_9_method_8_code
def yX7_name : MethodName := ⟨RX7, "name", "(II)V"⟩
def RX8 : String := "TurnHouse$Run"
def TX8 : u_T := fun k => match k with
  | 0 => ("TurnHouse$Run", "machine", "LTurnHouse$Machine;", true)
  | 1 => ("TurnHouse$Run", "at", "[[I", true)
  | 2 => ("TurnHouse$Run", "ahead", "[J", true)
  | 3 => ("TurnHouse$Run", "length", "I", false)
  | _ => ("TurnHouse$Run", "live", "Z", false)
def tyX8 : Nat → FieldType := fun k => match k with
  | 0 => .object "TurnHouse$Machine"
  | 1 => .array (.array .int)
  | 2 => .array .long
  | 3 => .int
  | _ => .boolean
abbrev wsX80 : List Cond := u_ws RX8 TX8 5
theorem nmX8 : ∀ a, a < 5 → ∀ b, b < 5 → a ≠ b → (TX8 a).2.1 ≠ (TX8 b).2.1 := by decide +kernel
theorem tyX8_ok : ∀ k, k < 5 → parseFieldDescriptor (TX8 k).2.2.1 = some (tyX8 k) := by decide +kernel
abbrev cX8_init : ByteArray := prog_10_method_1_code
def yX8_init : MethodName := ⟨RX8, "<init>", "()V"⟩
abbrev cX8_start : ByteArray := prog_10_method_2_code
def yX8_start : MethodName := ⟨RX8, "start", "(LTurnHouse$Program;I)V"⟩
abbrev cX8_take : ByteArray := prog_10_method_3_code
def yX8_take : MethodName := ⟨RX8, "take", "(II)V"⟩
abbrev cX8_putAhead : ByteArray := prog_10_method_4_code
def yX8_putAhead : MethodName := ⟨RX8, "putAhead", "(II)V"⟩
abbrev cX8_leadsTo : ByteArray := prog_10_method_6_code
def yX8_leadsTo : MethodName := ⟨RX8, "leadsTo", "(II)Z"⟩
abbrev cX8_tells : ByteArray := prog_10_method_7_code
def yX8_tells : MethodName := ⟨RX8, "tells", "(I)Z"⟩
abbrev cX8_hears : ByteArray := prog_10_method_8_code
def yX8_hears : MethodName := ⟨RX8, "hears", "(I)Z"⟩
def RX9 : String := "TurnHouse$Tokens"
def TX9 : u_T := fun k => match k with
  | 0 => ("TurnHouse$Tokens", "text", "[B", true)
  | 1 => ("TurnHouse$Tokens", "keys", "[J", true)
  | 2 => ("TurnHouse$Tokens", "kinds", "[I", true)
  | 3 => ("TurnHouse$Tokens", "starts", "[I", true)
  | 4 => ("TurnHouse$Tokens", "meanings", "[J", true)
  | 5 => ("TurnHouse$Tokens", "length", "I", false)
  | 6 => ("TurnHouse$Tokens", "tokenCount", "I", false)
  | 7 => ("TurnHouse$Tokens", "behind", "I", false)
  | 8 => ("TurnHouse$Tokens", "at", "I", false)
  | 9 => ("TurnHouse$Tokens", "kind", "I", false)
  | 10 => ("TurnHouse$Tokens", "start", "I", false)
  | _ => ("TurnHouse$Tokens", "meaning", "J", false)
def tyX9 : Nat → FieldType := fun k => match k with
  | 0 => .array .byte
  | 1 => .array .long
  | 2 => .array .int
  | 3 => .array .int
  | 4 => .array .long
  | 5 => .int
  | 6 => .int
  | 7 => .int
  | 8 => .int
  | 9 => .int
  | 10 => .int
  | _ => .long
abbrev wsX90 : List Cond := u_ws RX9 TX9 12
theorem nmX9 : ∀ a, a < 12 → ∀ b, b < 12 → a ≠ b → (TX9 a).2.1 ≠ (TX9 b).2.1 := by decide +kernel
theorem tyX9_ok : ∀ k, k < 12 → parseFieldDescriptor (TX9 k).2.2.1 = some (tyX9 k) := by decide +kernel
abbrev cX9_init : ByteArray := prog_11_method_1_code
def yX9_init : MethodName := ⟨RX9, "<init>", "()V"⟩
abbrev cX9_codes : ByteArray := prog_11_method_2_code
def yX9_codes : MethodName := ⟨RX9, "codes", "(Ljava/lang/String;I)[J"⟩
abbrev cX9_append : ByteArray := prog_11_method_3_code
def yX9_append : MethodName := ⟨RX9, "append", "(I)V"⟩
abbrev cX9_cut : ByteArray := prog_11_method_4_code
def yX9_cut : MethodName := ⟨RX9, "cut", "()V"⟩
abbrev cX9_advance : ByteArray := prog_11_method_5_code
def yX9_advance : MethodName := ⟨RX9, "advance", "()V"⟩
abbrev cX9_byteAt : ByteArray := prog_11_method_6_code
def yX9_byteAt : MethodName := ⟨RX9, "byteAt", "(I)I"⟩
abbrev cX9_isLetter : ByteArray := prog_11_method_7_code
def yX9_isLetter : MethodName := ⟨RX9, "isLetter", "(I)Z"⟩
abbrev cX9_isDigit : ByteArray := prog_11_method_8_code
def yX9_isDigit : MethodName := ⟨RX9, "isDigit", "(I)Z"⟩
abbrev cX9_skipBlanks : ByteArray := prog_11_method_9_code
def yX9_skipBlanks : MethodName := ⟨RX9, "skipBlanks", "()V"⟩
abbrev cX9_cutOne : ByteArray := prog_11_method_10_code
def yX9_cutOne : MethodName := ⟨RX9, "cutOne", "()V"⟩
abbrev cX9_cutWord : ByteArray := prog_11_method_11_code
def yX9_cutWord : MethodName := ⟨RX9, "cutWord", "()V"⟩
abbrev cX9_cutNumber : ByteArray := prog_11_method_12_code
def yX9_cutNumber : MethodName := ⟨RX9, "cutNumber", "()V"⟩
abbrev cX9_cutSign : ByteArray := prog_11_method_13_code
def yX9_cutSign : MethodName := ⟨RX9, "cutSign", "(I)V"⟩
def RX10 : String := "TurnHouse$Turns"
def TX10 : u_T := fun k => match k with
  | 0 => ("TurnHouse$Turns", "machine", "LTurnHouse$Machine;", true)
  | 1 => ("TurnHouse$Turns", "findings", "LTurnHouse$Findings;", true)
  | 2 => ("TurnHouse$Turns", "states", "LTurnHouse$Rows;", true)
  | 3 => ("TurnHouse$Turns", "outcomes", "LTurnHouse$Rows;", true)
  | 4 => ("TurnHouse$Turns", "edges", "[I", true)
  | 5 => ("TurnHouse$Turns", "found", "[I", true)
  | 6 => ("TurnHouse$Turns", "edgeStart", "[I", true)
  | 7 => ("TurnHouse$Turns", "mark", "[I", true)
  | 8 => ("TurnHouse$Turns", "row", "[J", true)
  | 9 => ("TurnHouse$Turns", "priority", "[I", true)
  | 10 => ("TurnHouse$Turns", "switches", "[I", true)
  | 11 => ("TurnHouse$Turns", "layer", "[I", true)
  | 12 => ("TurnHouse$Turns", "nextLayer", "[I", true)
  | 13 => ("TurnHouse$Turns", "edgeCount", "I", false)
  | 14 => ("TurnHouse$Turns", "endCount", "I", false)
  | 15 => ("TurnHouse$Turns", "layerSize", "I", false)
  | 16 => ("TurnHouse$Turns", "nextSize", "I", false)
  | 17 => ("TurnHouse$Turns", "done", "Z", false)
  | 18 => ("TurnHouse$Turns", "fewer", "Z", false)
  | _ => ("TurnHouse$Turns", "switchesCounted", "Z", false)
def tyX10 : Nat → FieldType := fun k => match k with
  | 0 => .object "TurnHouse$Machine"
  | 1 => .object "TurnHouse$Findings"
  | 2 => .object "TurnHouse$Rows"
  | 3 => .object "TurnHouse$Rows"
  | 4 => .array .int
  | 5 => .array .int
  | 6 => .array .int
  | 7 => .array .int
  | 8 => .array .long
  | 9 => .array .int
  | 10 => .array .int
  | 11 => .array .int
  | 12 => .array .int
  | 13 => .int
  | 14 => .int
  | 15 => .int
  | 16 => .int
  | 17 => .boolean
  | 18 => .boolean
  | _ => .boolean
abbrev wsX100 : List Cond := u_ws RX10 TX10 20
theorem nmX10 : ∀ a, a < 20 → ∀ b, b < 20 → a ≠ b → (TX10 a).2.1 ≠ (TX10 b).2.1 := by decide +kernel
theorem tyX10_ok : ∀ k, k < 20 → parseFieldDescriptor (TX10 k).2.2.1 = some (tyX10 k) := by decide +kernel
abbrev cX10_init : ByteArray := prog_12_method_1_code
def yX10_init : MethodName := ⟨RX10, "<init>", "()V"⟩
abbrev cX10_tryAll : ByteArray := prog_12_method_2_code
def yX10_tryAll : MethodName := ⟨RX10, "tryAll", "(LTurnHouse$Program;IZ)I"⟩
abbrev cX10_lookAround : ByteArray := prog_12_method_3_code
def yX10_lookAround : MethodName := ⟨RX10, "lookAround", "(I)I"⟩
abbrev cX10_quietStep : ByteArray := prog_12_method_4_code
def yX10_quietStep : MethodName := ⟨RX10, "quietStep", "()I"⟩
abbrev cX10_tryStep : ByteArray := prog_12_method_5_code
def yX10_tryStep : MethodName := ⟨RX10, "tryStep", "(II)Z"⟩
abbrev cX10_isWhile : ByteArray := prog_12_method_6_code
def yX10_isWhile : MethodName := ⟨RX10, "isWhile", "(I)Z"⟩
abbrev cX10_noteEnd : ByteArray := prog_12_method_7_code
def yX10_noteEnd : MethodName := ⟨RX10, "noteEnd", "(I)V"⟩
abbrev cX10_hasOutcome : ByteArray := prog_12_method_9_code
def yX10_hasOutcome : MethodName := ⟨RX10, "hasOutcome", "(I)Z"⟩
abbrev cX10_stateOfOutcome : ByteArray := prog_12_method_10_code
def yX10_stateOfOutcome : MethodName := ⟨RX10, "stateOfOutcome", "(I)I"⟩
abbrev cX10_slotOfOutcome : ByteArray := prog_12_method_11_code
def yX10_slotOfOutcome : MethodName := ⟨RX10, "slotOfOutcome", "(II)I"⟩
abbrev cX10_stateOf : ByteArray := prog_12_method_12_code
def yX10_stateOf : MethodName := ⟨RX10, "stateOf", "(I)I"⟩
abbrev cX10_threadOf : ByteArray := prog_12_method_13_code
def yX10_threadOf : MethodName := ⟨RX10, "threadOf", "(I)I"⟩
abbrev cX10_fewestSwitches : ByteArray := prog_12_method_17_code
def yX10_fewestSwitches : MethodName := ⟨RX10, "fewestSwitches", "(I)I"⟩
abbrev cX10_countSwitches : ByteArray := prog_12_method_18_code
def yX10_countSwitches : MethodName := ⟨RX10, "countSwitches", "()V"⟩
abbrev cX10_leaveFrom : ByteArray := prog_12_method_19_code
def yX10_leaveFrom : MethodName := ⟨RX10, "leaveFrom", "(II)V"⟩
abbrev cX10_reach : ByteArray := prog_12_method_20_code
def yX10_reach : MethodName := ⟨RX10, "reach", "(III)V"⟩
abbrev cX10_countChances : ByteArray := prog_12_method_21_code
def yX10_countChances : MethodName := ⟨RX10, "countChances", "(III)I"⟩
abbrev cX10_drawnOutcome : ByteArray := prog_12_method_22_code
def yX10_drawnOutcome : MethodName := ⟨RX10, "drawnOutcome", "(III)I"⟩
abbrev cX10_arrange : ByteArray := prog_12_method_23_code
def yX10_arrange : MethodName := ⟨RX10, "arrange", "(I)V"⟩
abbrev cX10_firstReady : ByteArray := prog_12_method_24_code
def yX10_firstReady : MethodName := ⟨RX10, "firstReady", "()I"⟩
abbrev cX10_lower : ByteArray := prog_12_method_25_code
def yX10_lower : MethodName := ⟨RX10, "lower", "(I)V"⟩
def RX11 : String := "TurnHouse"
def TX11 : u_T := fun k => match k with
  | 0 => ("TurnHouse", "tokens", "LTurnHouse$Tokens;", true)
  | 1 => ("TurnHouse", "first", "LTurnHouse$Program;", true)
  | 2 => ("TurnHouse", "rewritten", "LTurnHouse$Program;", true)
  | 3 => ("TurnHouse", "reader", "LTurnHouse$Reader;", true)
  | 4 => ("TurnHouse", "turns", "LTurnHouse$Turns;", true)
  | 5 => ("TurnHouse", "kept", "LTurnHouse$Rows;", true)
  | 6 => ("TurnHouse", "judge", "LTurnHouse$Judge;", true)
  | 7 => ("TurnHouse", "run", "LTurnHouse$Run;", true)
  | 8 => ("TurnHouse", "history", "LTurnHouse$History;", true)
  | 9 => ("TurnHouse", "hasProgram", "Z", false)
  | 10 => ("TurnHouse", "hasRewritten", "Z", false)
  | 11 => ("TurnHouse", "triedRewritten", "Z", false)
  | 12 => ("TurnHouse", "runsRewritten", "Z", false)
  | 13 => ("TurnHouse", "where", "I", false)
  | _ => ("TurnHouse", "gained", "I", false)
def tyX11 : Nat → FieldType := fun k => match k with
  | 0 => .object "TurnHouse$Tokens"
  | 1 => .object "TurnHouse$Program"
  | 2 => .object "TurnHouse$Program"
  | 3 => .object "TurnHouse$Reader"
  | 4 => .object "TurnHouse$Turns"
  | 5 => .object "TurnHouse$Rows"
  | 6 => .object "TurnHouse$Judge"
  | 7 => .object "TurnHouse$Run"
  | 8 => .object "TurnHouse$History"
  | 9 => .boolean
  | 10 => .boolean
  | 11 => .boolean
  | 12 => .boolean
  | 13 => .int
  | _ => .int
abbrev wsX110 : List Cond := u_ws RX11 TX11 15
theorem nmX11 : ∀ a, a < 15 → ∀ b, b < 15 → a ≠ b → (TX11 a).2.1 ≠ (TX11 b).2.1 := by decide +kernel
theorem tyX11_ok : ∀ k, k < 15 → parseFieldDescriptor (TX11 k).2.2.1 = some (tyX11 k) := by decide +kernel
abbrev cX11_init : ByteArray := prog_1_method_1_code
def yX11_init : MethodName := ⟨RX11, "<init>", "()V"⟩
abbrev cX11_feed : ByteArray := prog_1_method_2_code
def yX11_feed : MethodName := ⟨RX11, "feed", "(IIIII)I"⟩
abbrev cX11_end : ByteArray := prog_1_method_3_code
def yX11_end : MethodName := ⟨RX11, "end", "(I)I"⟩
abbrev cX11_program : ByteArray := prog_1_method_4_code
def yX11_program : MethodName := ⟨RX11, "program", "()I"⟩
abbrev cX11_count : ByteArray := prog_1_method_5_code
def yX11_count : MethodName := ⟨RX11, "count", "(I)I"⟩
abbrev cX11_begin : ByteArray := prog_1_method_7_code
def yX11_begin : MethodName := ⟨RX11, "begin", "(I)I"⟩
abbrev cX11_ready : ByteArray := prog_1_method_8_code
def yX11_ready : MethodName := ⟨RX11, "ready", "(I)I"⟩
abbrev cX11_turn : ByteArray := prog_1_method_9_code
def yX11_turn : MethodName := ⟨RX11, "turn", "(II)I"⟩
abbrev cX11_thread : ByteArray := prog_1_method_10_code
def yX11_thread : MethodName := ⟨RX11, "thread", "(II)I"⟩
abbrev cX11_local : ByteArray := prog_1_method_11_code
def yX11_local : MethodName := ⟨RX11, "local", "(II)I"⟩
abbrev cX11_cell : ByteArray := prog_1_method_12_code
def yX11_cell : MethodName := ⟨RX11, "cell", "(I)I"⟩
abbrev cX11_explore : ByteArray := prog_1_method_20_code
def yX11_explore : MethodName := ⟨RX11, "explore", "(IZ)I"⟩
abbrev cX11_explored : ByteArray := prog_1_method_21_code
def yX11_explored : MethodName := ⟨RX11, "explored", "(I)I"⟩
abbrev cX11_outcome : ByteArray := prog_1_method_22_code
def yX11_outcome : MethodName := ⟨RX11, "outcome", "(II)I"⟩
abbrev cX11_outcomeCell : ByteArray := prog_1_method_23_code
def yX11_outcomeCell : MethodName := ⟨RX11, "outcomeCell", "(II)I"⟩
abbrev cX11_outcomeLocal : ByteArray := prog_1_method_24_code
def yX11_outcomeLocal : MethodName := ⟨RX11, "outcomeLocal", "(III)I"⟩
abbrev cX11_chances : ByteArray := prog_1_method_27_code
def yX11_chances : MethodName := ⟨RX11, "chances", "(III)I"⟩
abbrev cX11_rewrite : ByteArray := prog_1_method_34_code
def yX11_rewrite : MethodName := ⟨RX11, "rewrite", "(II)I"⟩
abbrev cX11_drop : ByteArray := prog_1_method_35_code
def yX11_drop : MethodName := ⟨RX11, "drop", "()I"⟩
abbrev cX11_sound : ByteArray := prog_1_method_36_code
def yX11_sound : MethodName := ⟨RX11, "sound", "(I)I"⟩
abbrev cX11_gained : ByteArray := prog_1_method_37_code
def yX11_gained : MethodName := ⟨RX11, "gained", "()I"⟩
abbrev cX11_isWay : ByteArray := prog_1_method_38_code
def yX11_isWay : MethodName := ⟨RX11, "isWay", "(I)Z"⟩
abbrev cX11_forgetRewritten : ByteArray := prog_1_method_39_code
def yX11_forgetRewritten : MethodName := ⟨RX11, "forgetRewritten", "()V"⟩
def RJx145de : String := "java/io/Serializable"
def RJx9f9b0 : String := "java/lang/CharSequence"
def RJ11 : String := "java/lang/Character"
abbrev cJ11_isValidCodePoint_9a6ad : ByteArray := prog_15_method_11_code
def yJ11_isValidCodePoint_9a6ad : MethodName := ⟨RJ11, "isValidCodePoint", "(I)Z"⟩
abbrev cJ11_highSurrogate_5068e : ByteArray := prog_15_method_28_code
def yJ11_highSurrogate_5068e : MethodName := ⟨RJ11, "highSurrogate", "(I)C"⟩
abbrev cJ11_lowSurrogate_5068e : ByteArray := prog_15_method_29_code
def yJ11_lowSurrogate_5068e : MethodName := ⟨RJ11, "lowSurrogate", "(I)C"⟩
def RJxb160c : String := "java/lang/Comparable"
def RJ9 : String := "java/lang/Math"
abbrev cJ9_max_7cf53 : ByteArray := prog_16_method_65_code
def yJ9_max_7cf53 : MethodName := ⟨RJ9, "max", "(II)I"⟩
abbrev cJ9_min_7cf53 : ByteArray := prog_16_method_69_code
def yJ9_min_7cf53 : MethodName := ⟨RJ9, "min", "(II)I"⟩
def RJ0 : String := "java/lang/String"
abbrev cJ0_length_8abf5 : ByteArray := prog_17_method_54_code
def yJ0_length_8abf5 : MethodName := ⟨RJ0, "length", "()I"⟩
abbrev cJ0_charAt_5068e : ByteArray := prog_17_method_56_code
def yJ0_charAt_5068e : MethodName := ⟨RJ0, "charAt", "(I)C"⟩
abbrev cJ0_indexOf_0f7a4 : ByteArray := prog_17_method_79_code
def yJ0_indexOf_0f7a4 : MethodName := ⟨RJ0, "indexOf", "(I)I"⟩
abbrev cJ0_indexOf_7cf53 : ByteArray := prog_17_method_80_code
def yJ0_indexOf_7cf53 : MethodName := ⟨RJ0, "indexOf", "(II)I"⟩
abbrev cJ0_coder_7d493 : ByteArray := prog_17_method_152_code
def yJ0_coder_7d493 : MethodName := ⟨RJ0, "coder", "()B"⟩
abbrev cJ0_isLatin1_aae02 : ByteArray := prog_17_method_154_code
def yJ0_isLatin1_aae02 : MethodName := ⟨RJ0, "isLatin1", "()Z"⟩
abbrev cJ0_checkIndex_df160 : ByteArray := prog_17_method_155_code
def yJ0_checkIndex_df160 : MethodName := ⟨RJ0, "checkIndex", "(II)V"⟩
abbrev cJ0_checkBoundsBeginEnd_23922 : ByteArray := prog_17_method_158_code
def yJ0_checkBoundsBeginEnd_23922 : MethodName := ⟨RJ0, "checkBoundsBeginEnd", "(III)V"⟩
def RJ1 : String := "java/lang/StringLatin1"
abbrev cJ1_charAt_3b067 : ByteArray := prog_18_method_2_code
def yJ1_charAt_3b067 : MethodName := ⟨RJ1, "charAt", "([BI)C"⟩
abbrev cJ1_canEncode_9a6ad : ByteArray := prog_18_method_4_code
def yJ1_canEncode_9a6ad : MethodName := ⟨RJ1, "canEncode", "(I)Z"⟩
abbrev cJ1_indexOf_4cfef : ByteArray := prog_18_method_22_code
def yJ1_indexOf_4cfef : MethodName := ⟨RJ1, "indexOf", "([BIII)I"⟩
abbrev cJ1_indexOfChar_4cfef : ByteArray := prog_18_method_23_code
def yJ1_indexOfChar_4cfef : MethodName := ⟨RJ1, "indexOfChar", "([BIII)I"⟩
def RJ2 : String := "java/lang/StringUTF16"
abbrev cJ2_getChar_3b067 : ByteArray := prog_19_method_5_code
def yJ2_getChar_3b067 : MethodName := ⟨RJ2, "getChar", "([BI)C"⟩
abbrev cJ2_length_9d52b : ByteArray := prog_19_method_6_code
def yJ2_length_9d52b : MethodName := ⟨RJ2, "length", "([B)I"⟩
abbrev cJ2_indexOf_4cfef : ByteArray := prog_19_method_40_code
def yJ2_indexOf_4cfef : MethodName := ⟨RJ2, "indexOf", "([BIII)I"⟩
abbrev cJ2_indexOfChar_4cfef : ByteArray := prog_19_method_47_code
def yJ2_indexOfChar_4cfef : MethodName := ⟨RJ2, "indexOfChar", "([BIII)I"⟩
abbrev cJ2_indexOfCharUnsafe_4cfef : ByteArray := prog_19_method_48_code
def yJ2_indexOfCharUnsafe_4cfef : MethodName := ⟨RJ2, "indexOfCharUnsafe", "([BIII)I"⟩
abbrev cJ2_indexOfSupplementary_4cfef : ByteArray := prog_19_method_49_code
def yJ2_indexOfSupplementary_4cfef : MethodName := ⟨RJ2, "indexOfSupplementary", "([BIII)I"⟩
abbrev cJ2_charAt_3b067 : ByteArray := prog_19_method_83_code
def yJ2_charAt_3b067 : MethodName := ⟨RJ2, "charAt", "([BI)C"⟩
abbrev cJ2_checkIndex_2214a : ByteArray := prog_19_method_91_code
def yJ2_checkIndex_2214a : MethodName := ⟨RJ2, "checkIndex", "(I[B)V"⟩
abbrev cJ2_checkBoundsBeginEnd_d044e : ByteArray := prog_19_method_93_code
def yJ2_checkBoundsBeginEnd_d044e : MethodName := ⟨RJ2, "checkBoundsBeginEnd", "(II[B)V"⟩
def RJ10 : String := "java/lang/System"
def RJxfd54e : String := "java/lang/constant/Constable"
def RJx3cf43 : String := "java/lang/constant/ConstantDesc"
def RJ7 : String := "java/util/Arrays"
abbrev cJ7_fill_d0a16 : ByteArray := prog_21_method_101_code
def yJ7_fill_d0a16 : MethodName := ⟨RJ7, "fill", "([JJ)V"⟩
abbrev cJ7_fill_53178 : ByteArray := prog_21_method_103_code
def yJ7_fill_53178 : MethodName := ⟨RJ7, "fill", "([II)V"⟩
def RJ3 : String := "jdk/internal/util/Preconditions"
abbrev cJ3_checkIndex_8e157 : ByteArray := prog_22_method_11_code
def yJ3_checkIndex_8e157 : MethodName := ⟨RJ3, "checkIndex", "(IILjava/util/function/BiFunction;)I"⟩
abbrev cJ3_checkFromToIndex_8c36e : ByteArray := prog_22_method_12_code
def yJ3_checkFromToIndex_8c36e : MethodName := ⟨RJ3, "checkFromToIndex", "(IIILjava/util/function/BiFunction;)I"⟩
def RL : String := "TurnHouseLaw"
abbrev cL_cell : ByteArray := method_2_code
def yL_cell : MethodName := ⟨RL, "cell", "([II)I"⟩
abbrev cL_say : ByteArray := method_3_code
def yL_say : MethodName := ⟨RL, "say", "(LTurnHouse;JJI)I"⟩
abbrev cL_statement : ByteArray := method_5_code
def yL_statement : MethodName := ⟨RL, "statement", "(LTurnHouse;I)I"⟩
abbrev cL_tell : ByteArray := method_6_code
def yL_tell : MethodName := ⟨RL, "tell", "(LTurnHouse;[III)I"⟩
abbrev cL_law : ByteArray := code
def yL_law : MethodName := ⟨RL, "law", "([I)Z"⟩
abbrev cL_isIn : ByteArray := method_8_code
def yL_isIn : MethodName := ⟨RL, "isIn", "([III)Z"⟩
abbrev cL_sum : ByteArray := method_9_code
def yL_sum : MethodName := ⟨RL, "sum", "(LTurnHouse;I)I"⟩
abbrev vwCl : List vw_C := [(RX0, TX0, 7), (RX1, TX1, 11), (RX2, TX2, 14), (RX3, TX3, 13), (RX4, TX4, 5), (RX5, TX5, 14), (RX6, TX6, 15), (RX7, TX7, 6), (RX8, TX8, 5), (RX9, TX9, 12), (RX10, TX10, 20), (RX11, TX11, 15)]
theorem mem_places {big ws : List Cond} (ps : List Nat) (hp : ws.map some = ps.map (fun i => big[i]?)) : ∀ w ∈ ws, w ∈ big := by
  intro w hw
  have h1 : some w ∈ ws.map some := List.mem_map.mpr ⟨w, hw, rfl⟩
  rw [hp] at h1
  obtain ⟨i, -, hi⟩ := List.mem_map.mp h1
  exact List.mem_of_getElem? hi
set_option maxRecDepth 100000 in
theorem inX0 : ∀ w ∈ wsX00, w ∈ lw_tbl := mem_places [467, 469, 471, 473, 475, 477, 479] (by decide +kernel)
set_option maxRecDepth 100000 in
theorem inX1 : ∀ w ∈ wsX10, w ∈ lw_tbl := mem_places [675, 677, 679, 681, 683, 685, 687, 689, 691, 693, 695] (by decide +kernel)
set_option maxRecDepth 100000 in
theorem inX2 : ∀ w ∈ wsX20, w ∈ lw_tbl := mem_places [605, 607, 609, 611, 613, 615, 617, 619, 621, 623, 625, 627, 629, 631] (by decide +kernel)
set_option maxRecDepth 100000 in
theorem inX3 : ∀ w ∈ wsX30, w ∈ lw_tbl := mem_places [427, 429, 431, 433, 435, 437, 439, 441, 443, 445, 447, 449, 451] (by decide +kernel)
set_option maxRecDepth 100000 in
theorem inX4 : ∀ w ∈ wsX40, w ∈ lw_tbl := mem_places [237, 239, 241, 243, 245] (by decide +kernel)
set_option maxRecDepth 100000 in
theorem inX5 : ∀ w ∈ wsX50, w ∈ lw_tbl := mem_places [303, 305, 307, 309, 311, 313, 315, 317, 319, 321, 323, 325, 327, 329] (by decide +kernel)
set_option maxRecDepth 100000 in
theorem inX6 : ∀ w ∈ wsX60, w ∈ lw_tbl := mem_places [355, 357, 359, 361, 363, 365, 367, 369, 371, 373, 375, 377, 379, 381, 383] (by decide +kernel)
set_option maxRecDepth 100000 in
theorem inX7 : ∀ w ∈ wsX70, w ∈ lw_tbl := mem_places [504, 506, 508, 510, 512, 514] (by decide +kernel)
set_option maxRecDepth 100000 in
theorem inX8 : ∀ w ∈ wsX80, w ∈ lw_tbl := mem_places [651, 653, 655, 657, 659] (by decide +kernel)
set_option maxRecDepth 100000 in
theorem inX9 : ∀ w ∈ wsX90, w ∈ lw_tbl := mem_places [195, 197, 199, 201, 203, 205, 207, 209, 211, 213, 215, 217] (by decide +kernel)
set_option maxRecDepth 100000 in
theorem inX10 : ∀ w ∈ wsX100, w ∈ lw_tbl := mem_places [546, 548, 550, 552, 554, 556, 558, 560, 562, 564, 566, 568, 570, 572, 574, 576, 578, 580, 582, 584] (by decide +kernel)
set_option maxRecDepth 100000 in
theorem inX11 : ∀ w ∈ wsX110, w ∈ lw_tbl := mem_places [713, 715, 717, 719, 721, 723, 725, 727, 729, 731, 733, 735, 737, 739, 741] (by decide +kernel)
end
section
/-! THE SMALL MACHINE. A method's run told by a function: frames as lists, the system's cells by numbers 0, 1, .. in the order in which they were made. Part 03, 04: what the small machine does, the machine does. -/
/-- a cell: an array (its type's number, length and contents), or an object (its class's number in vwCl, its fields) -/
abbrev pE : Type := (Nat × vp_A) ⊕ (Nat × List Value)
/-- how many cells there are, how many slots they have had, what they hold -/
abbrev pH : Type := Nat × Nat × (Nat → pE)
/-- a frame: pc, locals, stack -/
abbrev pF : Type := Nat × List (Nat × Value) × List Value
abbrev pX : Type := Int × Nat × Nat
/-- an instruction: pc, what it is, its length, what it is linked to -/
abbrev pI : Type := Nat × Instr × Nat × pX
abbrev pR : Type := Option Value × pH
/-- a reference of the small machine: a cell's number (.ref), or one of the cells that were there before (.retAddr); .float: the one static of which nothing is known but that it is a reference or null -/
def rV (b : Nat) (o : Nat → Nat) : Value → Value
  | .ref a => .ref (b + a)
  | .retAddr i => .ref (o i)
  | .float _ => if o 9 = 0 then .null else .ref (o 9 - 1)
  | v => v
def rL (b : Nat) (o : Nat → Nat) (l : List (Nat × Value)) : List (Nat × Value) := l.map (fun q => (q.1, rV b o q.2))
def rS (b : Nat) (o : Nat → Nat) (l : List Value) : List Value := l.map (rV b o)
theorem rV_cat (b : Nat) (o : Nat → Nat) (v : Value) : (rV b o v).category = v.category := by
  cases v <;> try rfl
  show (if o 9 = 0 then Value.null else Value.ref (o 9 - 1)).category = 1
  split <;> rfl
def p_up (f : Nat → pE) (k : Nat) (e : pE) : Nat → pE := fun j => if j = k then e else f j
def p_get (l : List (Nat × Value)) (i : Nat) : Option Value := match l with
  | [] => none
  | q :: r => if q.1 = i then some q.2 else p_get r i
def p_set1 (l : List (Nat × Value)) (i : Nat) (v : Value) : List (Nat × Value) := (i, v) :: l.filter (fun q => !(q.1 == i) && !(q.1 + 1 == i && q.2.category == 2))
def p_set2 (l : List (Nat × Value)) (i : Nat) (v : Value) : List (Nat × Value) := (i, v) :: l.filter (fun q => !(q.1 == i) && (!(q.1 == i + 1) && !(q.1 + 1 == i && q.2.category == 2)))
theorem rL_set1 (b : Nat) (o : Nat → Nat) (l : List (Nat × Value)) (i : Nat) (v : Value) : rL b o (p_set1 l i v) = (i, rV b o v) :: (rL b o l).filter (fun q => !(q.1 == i) && !(q.1 + 1 == i && q.2.category == 2)) := by
  unfold p_set1 rL
  rw [List.map_cons, List.filter_map]
  congr 2
  apply List.filter_congr
  intro q _
  show _ = (!(q.1 == i) && !(q.1 + 1 == i && (rV b o q.2).category == 2))
  rw [rV_cat]
theorem rL_set2 (b : Nat) (o : Nat → Nat) (l : List (Nat × Value)) (i : Nat) (v : Value) : rL b o (p_set2 l i v) = (i, rV b o v) :: (rL b o l).filter (fun q => !(q.1 == i) && (!(q.1 == i + 1) && !(q.1 + 1 == i && q.2.category == 2))) := by
  unfold p_set2 rL
  rw [List.map_cons, List.filter_map]
  congr 2
  apply List.filter_congr
  intro q _
  show _ = (!(q.1 == i) && (!(q.1 == i + 1) && !(q.1 + 1 == i && (rV b o q.2).category == 2)))
  rw [rV_cat]
theorem p_get_mem {l : List (Nat × Value)} {i : Nat} {v : Value} (h : p_get l i = some v) : (i, v) ∈ l := by
  induction l with
  | nil => cases h
  | cons q r ih =>
    unfold p_get at h
    by_cases hq : q.1 = i
    · rw [if_pos hq] at h
      cases h
      subst hq
      exact List.mem_cons_self
    · rw [if_neg hq] at h
      exact List.mem_cons_of_mem _ (ih h)
theorem p_at {b : Nat} {o : Nat → Nat} {LS : Array Slot} {nL : Nat} {l : List (Nat × Value)} {i : Nat} {v : Value} (hl : lv_has LS nL (rL b o l)) (h : p_get l i = some v) : LS[i]? = some (.val (rV b o v)) :=
  hl.2.2 (i, rV b o v) (List.mem_map.mpr ⟨(i, v), p_get_mem h, rfl⟩)
theorem p_place {b : Nat} {o : Nat → Nat} {l : List (Nat × Value)} {i : Nat} {v : Value} (h : p_get l i = some v) : ∃ k : Nat, (rL b o l)[k]? = some (i, rV b o v) :=
  List.getElem?_of_mem (List.mem_map.mpr ⟨(i, v), p_get_mem h, rfl⟩)
def p_bin (i : Instr) (x y : Int32) : Option Int32 := match i with
  | .iadd => some (x + y)
  | .isub => some (x - y)
  | .imul => some (x * y)
  | .iand => some (x &&& y)
  | .ior => some (x ||| y)
  | .ixor => some (x ^^^ y)
  | .ishl => some (x <<< (y &&& 31))
  | .ishr => some (x >>> (y &&& 31))
  | .iushr => some (x.toUInt32 >>> (y.toUInt32 &&& Int32.toUInt32 31)).toInt32
  | .idiv => if y = 0 then none else some (x / y)
  | .irem => if y = 0 then none else some (x - x / y * y)
  | _ => none
def p_binl (i : Instr) (x y : Int64) : Option Int64 := match i with
  | .ladd => some (x + y)
  | .lsub => some (x - y)
  | .lmul => some (x * y)
  | .land => some (x &&& y)
  | .lor => some (x ||| y)
  | .lxor => some (x ^^^ y)
  | _ => none
def p_shl (i : Instr) (x : Int64) (y : Int32) : Option Int64 := match i with
  | .lshl => some (x <<< (y.toInt64 &&& 63))
  | .lshr => some (x >>> (y.toInt64 &&& 63))
  | .lushr => some (x.toUInt64 >>> (y.toInt64.toUInt64 &&& Int64.toUInt64 63)).toInt64
  | _ => none
def p_cnd (c : Jvm.ClassFile.Cond) (x y : Int32) : Bool := match c with
  | .eq => decide (x = y)
  | .ne => decide (¬ x = y)
  | .lt => decide (x < y)
  | .ge => decide (y ≤ x)
  | .gt => decide (y < x)
  | .le => decide (x ≤ y)
def p_br (c : Bool) (t e : Nat) : Nat := match c with
  | true => t
  | false => e
def p_tgt (pc : Nat) (off : Int) : Nat := ((pc : Int) + off).toNat
def p_sw (d lo hi : Int) (offs : Array Int) (x : Int) : Int := if x < lo then d else if hi < x then d else (offs[(x - lo).toNat]?).getD d
def p_isRef : Value → Bool
  | .ref _ => true
  | .retAddr _ => true
  | _ => false
/-- arithmetic on two -/
def pstepA (pc : Nat) (i : Instr) (ls : List (Nat × Value)) (st : List Value) : Option pF := match st with
  | .int y :: .int x :: r => match p_bin i x y with
    | some z => some (pc + 1, ls, .int z :: r)
    | none => none
  | .long y :: .long x :: r => match p_binl i x y with
    | some z => some (pc + 1, ls, .long z :: r)
    | none => none
  | .int y :: .long x :: r => match p_shl i x y with
    | some z => some (pc + 1, ls, .long z :: r)
    | none => none
  | _ => none
/-- instructions that need no cell -/
def pstepL (pc : Nat) (i : Instr) (ls : List (Nat × Value)) (st : List Value) : Option pF := match i with
  | .iconst n => some (pc + 1, ls, .int (Int32.ofInt n) :: st)
  | .bipush n => some (pc + 2, ls, .int (Int8.ofInt n).toInt32 :: st)
  | .sipush n => some (pc + 3, ls, .int (Int16.ofInt n).toInt32 :: st)
  | .lconst n => some (pc + 1, ls, .long (Int64.ofNat (n : Nat)) :: st)
  | .iload_n n => match p_get ls n with
    | some (.int x) => some (pc + 1, ls, .int x :: st)
    | _ => none
  | .iload n => match p_get ls n with
    | some (.int x) => some (pc + 2, ls, .int x :: st)
    | _ => none
  | .lload_n n => match p_get ls n with
    | some (.long x) => some (pc + 1, ls, .long x :: st)
    | _ => none
  | .lload n => match p_get ls n with
    | some (.long x) => some (pc + 2, ls, .long x :: st)
    | _ => none
  | .aload_n n => match p_get ls n with
    | some (.ref x) => some (pc + 1, ls, .ref x :: st)
    | some (.retAddr x) => some (pc + 1, ls, .retAddr x :: st)
    | _ => none
  | .aload n => match p_get ls n with
    | some (.ref x) => some (pc + 2, ls, .ref x :: st)
    | some (.retAddr x) => some (pc + 2, ls, .retAddr x :: st)
    | _ => none
  | .istore_n n => match st with
    | .int x :: r => some (pc + 1, p_set1 ls n (.int x), r)
    | _ => none
  | .istore n => match st with
    | .int x :: r => some (pc + 2, p_set1 ls n (.int x), r)
    | _ => none
  | .lstore_n n => match st with
    | .long x :: r => some (pc + 1, p_set2 ls n (.long x), r)
    | _ => none
  | .lstore n => match st with
    | .long x :: r => some (pc + 2, p_set2 ls n (.long x), r)
    | _ => none
  | .astore_n n => match st with
    | .ref x :: r => some (pc + 1, p_set1 ls n (.ref x), r)
    | .retAddr x :: r => some (pc + 1, p_set1 ls n (.retAddr x), r)
    | _ => none
  | .astore n => match st with
    | .ref x :: r => some (pc + 2, p_set1 ls n (.ref x), r)
    | .retAddr x :: r => some (pc + 2, p_set1 ls n (.retAddr x), r)
    | _ => none
  | .iinc n d => match p_get ls n with
    | some (.int x) => some (pc + 3, p_set1 ls n (.int (x + Int32.ofInt d)), st)
    | _ => none
  | .dup => match st with
    | .int x :: r => some (pc + 1, ls, .int x :: .int x :: r)
    | .ref x :: r => some (pc + 1, ls, .ref x :: .ref x :: r)
    | .retAddr x :: r => some (pc + 1, ls, .retAddr x :: .retAddr x :: r)
    | _ => none
  | .dup2 => match st with
    | .int x :: .ref a :: r => some (pc + 1, ls, .int x :: .ref a :: .int x :: .ref a :: r)
    | .int x :: .int a :: r => some (pc + 1, ls, .int x :: .int a :: .int x :: .int a :: r)
    | .long x :: r => some (pc + 1, ls, .long x :: .long x :: r)
    | _ => none
  | .pop => match st with
    | .int _ :: r => some (pc + 1, ls, r)
    | .ref _ :: r => some (pc + 1, ls, r)
    | _ => none
  | .goto off => some (p_tgt pc off, ls, st)
  | .ifCond c off => match st with
    | .int x :: r => some (p_br (p_cnd c x 0) (p_tgt pc off) (pc + 3), ls, r)
    | _ => none
  | .if_icmp c off => match st with
    | .int y :: .int x :: r => some (p_br (p_cnd c x y) (p_tgt pc off) (pc + 3), ls, r)
    | _ => none
  | .tableswitch d lo hi offs => match st with
    | .int x :: r => some (p_tgt pc (p_sw d lo hi offs x.toInt), ls, r)
    | _ => none
  | .lookupswitch d ps => match st with
    | .int x :: r => some (p_tgt pc (Op.lookupswitch.offset ps.toList d x.toInt), ls, r)
    | _ => none
  | .lcmp => match st with
    | .long y :: .long x :: r => some (pc + 1, ls, .int (lg_cmp x y) :: r)
    | _ => none
  | .ineg => match st with
    | .int x :: r => some (pc + 1, ls, .int (-x) :: r)
    | _ => none
  | .i2l => match st with
    | .int x :: r => some (pc + 1, ls, .long x.toInt64 :: r)
    | _ => none
  | .l2i => match st with
    | .long x :: r => some (pc + 1, ls, .int x.toInt32 :: r)
    | _ => none
  | .i2b => match st with
    | .int x :: r => some (pc + 1, ls, .int x.toInt8.toInt32 :: r)
    | _ => none
  | .i2c => match st with
    | .int x :: r => some (pc + 1, ls, .int (x.toUInt32 % 65536).toInt32 :: r)
    | _ => none
  | i => pstepA pc i ls st
/-- the length that the rows of the kit want -/
def p_len : Instr → Nat
  | .iload _ => 2
  | .lload _ => 2
  | .aload _ => 2
  | .istore _ => 2
  | .lstore _ => 2
  | .astore _ => 2
  | .bipush _ => 2
  | .ldc _ => 2
  | .newarray _ => 2
  | .sipush _ => 3
  | .iinc _ _ => 3
  | .goto _ => 3
  | .ifCond _ _ => 3
  | .if_icmp _ _ => 3
  | .getfield _ => 3
  | .putfield _ => 3
  | .getstatic _ => 3
  | .invokevirtual _ => 3
  | .invokestatic _ => 3
  | .invokespecial _ => 3
  | .new _ => 3
  | .ldc_w _ => 3
  | .ldc2_w _ => 3
  | .multianewarray _ _ => 4
  | _ => 1
def p_in0 (pc : Nat) (off : Int) : Bool := decide (0 ≤ (pc : Int) + off)
/-- what can be seen of an instruction alone: lengths, places of jumps, locals within -/
def p_ok (nL pc : Nat) (i : Instr) (len : Nat) : Bool := match i with
  | .tableswitch d lo hi offs => p_in0 pc d && (offs.toList.all (fun o => p_in0 pc o) && (decide (lo ≤ hi) && decide ((hi - lo).toNat < offs.size)))
  | .lookupswitch d ps => p_in0 pc d && (ps.toList.all (fun q => p_in0 pc q.2) && (ps.toList.zip (ps.toList.drop 1)).all (fun (a, next) => a.1 < next.1))
  | .goto off => decide (len = 3) && p_in0 pc off
  | .ifCond _ off => decide (len = 3) && p_in0 pc off
  | .if_icmp _ off => decide (len = 3) && p_in0 pc off
  | .istore_n n => decide (len = 1) && decide ((n : Nat) < nL)
  | .astore_n n => decide (len = 1) && decide ((n : Nat) < nL)
  | .lstore_n n => decide (len = 1) && decide ((n : Nat) + 1 < nL)
  | .istore n => decide (len = 2) && decide (n < nL)
  | .astore n => decide (len = 2) && decide (n < nL)
  | .lstore n => decide (len = 2) && decide (n + 1 < nL)
  | .iinc n _ => decide (len = 3) && decide (n < nL)
  | i => decide (len = p_len i)
end
section
section SIML
variable {p : Program} {l : Launch} {e : Env} {R : Room} {s : State} {m : MethodId} {args : Array Value} {below : List Frame} {meth : Method} {c : Code} {H : Heap} {locs : List Loc} {cells slots : Nat} {Q : State → Prop} {cc : ByteArray}
theorem p_tgt_eq {pc : Nat} {off : Int} (h : p_in0 pc off = true) : (pc : Int) + off = ((p_tgt pc off : Nat) : Int) := by
  unfold p_in0 at h
  unfold p_tgt
  have := of_decide_eq_true h
  omega
theorem p_br_W {pc tgt : Nat} {LS : Array Slot} {stk : List Value} {t : Bool} {g : JFrame} (h : (t = true → W p l e R s m args below meth c H locs cells slots Q (F0 m tgt LS stk)) → (¬ t = true → W p l e R s m args below meth c H locs cells slots Q (F0 m (pc + 3) LS stk)) → W p l e R s m args below meth c H locs cells slots Q g)
    (k : W p l e R s m args below meth c H locs cells slots Q (F0 m (p_br t tgt (pc + 3)) LS stk)) : W p l e R s m args below meth c H locs cells slots Q g := by
  cases t with
  | true => exact h (fun _ => k) (fun z => absurd rfl z)
  | false => exact h (fun z => by cases z) (fun _ => k)
theorem sA {b : Nat} {o : Nat → Nat} {nL pc : Nat} {i : Instr} {ls ls' : List (Nat × Value)} {st st' : List Value} {pc' : Nat} {LS : Array Slot} (hx : p.tables.exec = Jvm.exec) (hb : c.code = cc) (hdg : decode cc pc = .ok (i, 1)) (hl : lv_has LS nL (rL b o ls)) (hs : pstepA pc i ls st = some (pc', ls', st'))
    (k : ∀ LS' : Array Slot, lv_has LS' nL (rL b o ls') → W p l e R s m args below meth c H locs cells slots Q (F0 m pc' LS' (rS b o st'))) : W p l e R s m args below meth c H locs cells slots Q (F0 m pc LS (rS b o st)) := by
  unfold pstepA at hs
  split at hs
  · rename_i y x r
    split at hs
    · rename_i z hz
      simp only [Option.some.injEq, Prod.mk.injEq] at hs
      obtain ⟨rfl, rfl, rfl⟩ := hs
      show W p l e R s m args below meth c H locs cells slots Q (F0 m pc LS (.int y :: .int x :: rS b o r))
      have k2 : W p l e R s m args below meth c H locs cells slots Q (F0 m (pc + 1) LS (.int z :: rS b o r)) := k LS hl
      cases i
      case iadd =>
        simp only [p_bin, Option.some.injEq] at hz
        subst hz
        exact lv_iadd hx hb hdg k2
      case isub =>
        simp only [p_bin, Option.some.injEq] at hz
        subst hz
        exact lv_isub hx hb hdg k2
      case imul =>
        simp only [p_bin, Option.some.injEq] at hz
        subst hz
        exact lv_imul hx hb hdg k2
      case iand =>
        simp only [p_bin, Option.some.injEq] at hz
        subst hz
        exact lv_iand hx hb hdg k2
      case ior =>
        simp only [p_bin, Option.some.injEq] at hz
        subst hz
        exact lv_ior hx hb hdg k2
      case ixor =>
        simp only [p_bin, Option.some.injEq] at hz
        subst hz
        exact lv_ixor hx hb hdg k2
      case ishl =>
        simp only [p_bin, Option.some.injEq] at hz
        subst hz
        exact lv_ishl hx hb hdg k2
      case ishr =>
        simp only [p_bin, Option.some.injEq] at hz
        subst hz
        exact lv_ishr hx hb hdg k2
      case iushr =>
        simp only [p_bin, Option.some.injEq] at hz
        exact lv_iushr hx hb hdg hz k2
      case idiv =>
        simp only [p_bin] at hz
        by_cases h0 : y = 0
        · rw [if_pos h0] at hz
          cases hz
        · rw [if_neg h0] at hz
          simp only [Option.some.injEq] at hz
          subst hz
          exact lv_idiv hx hb hdg h0 k2
      case irem =>
        simp only [p_bin] at hz
        by_cases h0 : y = 0
        · rw [if_pos h0] at hz
          cases hz
        · rw [if_neg h0] at hz
          simp only [Option.some.injEq] at hz
          subst hz
          exact lv_irem hx hb hdg h0 k2
      all_goals (simp [p_bin] at hz)
    · cases hs
  · rename_i y x r
    split at hs
    · rename_i z hz
      simp only [Option.some.injEq, Prod.mk.injEq] at hs
      obtain ⟨rfl, rfl, rfl⟩ := hs
      show W p l e R s m args below meth c H locs cells slots Q (F0 m pc LS (.long y :: .long x :: rS b o r))
      have k2 : W p l e R s m args below meth c H locs cells slots Q (F0 m (pc + 1) LS (.long z :: rS b o r)) := k LS hl
      cases i
      case ladd =>
        simp only [p_binl, Option.some.injEq] at hz
        subst hz
        exact lv_ladd hx hb hdg k2
      case lsub =>
        simp only [p_binl, Option.some.injEq] at hz
        subst hz
        exact lv_lsub hx hb hdg k2
      case lmul =>
        simp only [p_binl, Option.some.injEq] at hz
        subst hz
        exact lv_lmul hx hb hdg k2
      case land =>
        simp only [p_binl, Option.some.injEq] at hz
        subst hz
        exact lv_land hx hb hdg k2
      case lor =>
        simp only [p_binl, Option.some.injEq] at hz
        subst hz
        exact lv_lor hx hb hdg k2
      case lxor =>
        simp only [p_binl, Option.some.injEq] at hz
        subst hz
        exact lv_lxor hx hb hdg k2
      all_goals (simp [p_binl] at hz)
    · cases hs
  · rename_i y x r
    split at hs
    · rename_i z hz
      simp only [Option.some.injEq, Prod.mk.injEq] at hs
      obtain ⟨rfl, rfl, rfl⟩ := hs
      show W p l e R s m args below meth c H locs cells slots Q (F0 m pc LS (.int y :: .long x :: rS b o r))
      have k2 : W p l e R s m args below meth c H locs cells slots Q (F0 m (pc + 1) LS (.long z :: rS b o r)) := k LS hl
      cases i
      case lshl =>
        simp only [p_shl, Option.some.injEq] at hz
        exact lv_lshl hx hb hdg hz k2
      case lshr =>
        simp only [p_shl, Option.some.injEq] at hz
        exact lv_lshr hx hb hdg hz k2
      case lushr =>
        simp only [p_shl, Option.some.injEq] at hz
        exact lv_lushr hx hb hdg hz k2
      all_goals (simp [p_shl] at hz)
    · cases hs
  · cases hs
theorem sL {b : Nat} {o : Nat → Nat} {nL pc len : Nat} {i : Instr} {ls ls' : List (Nat × Value)} {st st' : List Value} {pc' : Nat} {LS : Array Slot} (hx : p.tables.exec = Jvm.exec) (hb : c.code = cc) (hdg : decode cc pc = .ok (i, len)) (hok : p_ok nL pc i len = true) (hl : lv_has LS nL (rL b o ls)) (hs : pstepL pc i ls st = some (pc', ls', st'))
    (k : ∀ LS' : Array Slot, lv_has LS' nL (rL b o ls') → W p l e R s m args below meth c H locs cells slots Q (F0 m pc' LS' (rS b o st'))) : W p l e R s m args below meth c H locs cells slots Q (F0 m pc LS (rS b o st)) := by
  cases i
  case iconst n =>
    obtain rfl : len = 1 := of_decide_eq_true hok
    simp only [pstepL, Option.some.injEq, Prod.mk.injEq] at hs
    obtain ⟨rfl, rfl, rfl⟩ := hs
    exact lv_iconst hx hb hdg rfl (k LS hl)
  case bipush n =>
    obtain rfl : len = 2 := of_decide_eq_true hok
    simp only [pstepL, Option.some.injEq, Prod.mk.injEq] at hs
    obtain ⟨rfl, rfl, rfl⟩ := hs
    exact lv_bipush hx hb hdg rfl (k LS hl)
  case sipush n =>
    obtain rfl : len = 3 := of_decide_eq_true hok
    simp only [pstepL, Option.some.injEq, Prod.mk.injEq] at hs
    obtain ⟨rfl, rfl, rfl⟩ := hs
    exact lv_sipush hx hb hdg rfl (k LS hl)
  case lconst n =>
    obtain rfl : len = 1 := of_decide_eq_true hok
    simp only [pstepL, Option.some.injEq, Prod.mk.injEq] at hs
    obtain ⟨rfl, rfl, rfl⟩ := hs
    exact lv_lconst hx hb hdg rfl (k LS hl)
  case iload_n n =>
    obtain rfl : len = 1 := of_decide_eq_true hok
    simp only [pstepL] at hs
    split at hs
    · rename_i x hg
      simp only [Option.some.injEq, Prod.mk.injEq] at hs
      obtain ⟨rfl, rfl, rfl⟩ := hs
      exact lv_iload_n (x := x) hx hb hdg rfl (p_at hl hg) (k LS hl)
    · cases hs
  case iload n =>
    obtain rfl : len = 2 := of_decide_eq_true hok
    simp only [pstepL] at hs
    split at hs
    · rename_i x hg
      simp only [Option.some.injEq, Prod.mk.injEq] at hs
      obtain ⟨rfl, rfl, rfl⟩ := hs
      exact lv_iload (x := x) hx hb hdg (p_at hl hg) (k LS hl)
    · cases hs
  case lload_n n =>
    obtain rfl : len = 1 := of_decide_eq_true hok
    simp only [pstepL] at hs
    split at hs
    · rename_i x hg
      simp only [Option.some.injEq, Prod.mk.injEq] at hs
      obtain ⟨rfl, rfl, rfl⟩ := hs
      exact lv_lload_n (x := x) hx hb hdg rfl (p_at hl hg) (k LS hl)
    · cases hs
  case lload n =>
    obtain rfl : len = 2 := of_decide_eq_true hok
    simp only [pstepL] at hs
    split at hs
    · rename_i x hg
      simp only [Option.some.injEq, Prod.mk.injEq] at hs
      obtain ⟨rfl, rfl, rfl⟩ := hs
      exact lv_lload (x := x) hx hb hdg (p_at hl hg) (k LS hl)
    · cases hs
  case aload_n n =>
    obtain rfl : len = 1 := of_decide_eq_true hok
    simp only [pstepL] at hs
    split at hs
    · rename_i x hg
      simp only [Option.some.injEq, Prod.mk.injEq] at hs
      obtain ⟨rfl, rfl, rfl⟩ := hs
      exact lv_aload_n (x := b + x) hx hb hdg rfl (p_at hl hg) (k LS hl)
    · rename_i x hg
      simp only [Option.some.injEq, Prod.mk.injEq] at hs
      obtain ⟨rfl, rfl, rfl⟩ := hs
      exact lv_aload_n (x := o x) hx hb hdg rfl (p_at hl hg) (k LS hl)
    · cases hs
  case aload n =>
    obtain rfl : len = 2 := of_decide_eq_true hok
    simp only [pstepL] at hs
    split at hs
    · rename_i x hg
      simp only [Option.some.injEq, Prod.mk.injEq] at hs
      obtain ⟨rfl, rfl, rfl⟩ := hs
      exact lv_aload (x := b + x) hx hb hdg (p_at hl hg) (k LS hl)
    · rename_i x hg
      simp only [Option.some.injEq, Prod.mk.injEq] at hs
      obtain ⟨rfl, rfl, rfl⟩ := hs
      exact lv_aload (x := o x) hx hb hdg (p_at hl hg) (k LS hl)
    · cases hs
  case istore_n n =>
    obtain ⟨h1, h2⟩ := (Bool.and_eq_true _ _).mp hok
    obtain rfl : len = 1 := of_decide_eq_true h1
    simp only [pstepL] at hs
    split at hs
    · rename_i x r
      simp only [Option.some.injEq, Prod.mk.injEq] at hs
      obtain ⟨rfl, rfl, rfl⟩ := hs
      exact lv_istore_n (x := x) hx hb hdg rfl hl (of_decide_eq_true h2) (rL_set1 b o ls _ (.int x)).symm (fun LS' h => k LS' h)
    · cases hs
  case istore n =>
    obtain ⟨h1, h2⟩ := (Bool.and_eq_true _ _).mp hok
    obtain rfl : len = 2 := of_decide_eq_true h1
    simp only [pstepL] at hs
    split at hs
    · rename_i x r
      simp only [Option.some.injEq, Prod.mk.injEq] at hs
      obtain ⟨rfl, rfl, rfl⟩ := hs
      exact lv_istore (x := x) hx hb hdg hl (of_decide_eq_true h2) (rL_set1 b o ls _ (.int x)).symm (fun LS' h => k LS' h)
    · cases hs
  case lstore_n n =>
    obtain ⟨h1, h2⟩ := (Bool.and_eq_true _ _).mp hok
    obtain rfl : len = 1 := of_decide_eq_true h1
    simp only [pstepL] at hs
    split at hs
    · rename_i x r
      simp only [Option.some.injEq, Prod.mk.injEq] at hs
      obtain ⟨rfl, rfl, rfl⟩ := hs
      exact lv_lstore_n (x := x) hx hb hdg rfl hl (of_decide_eq_true h2) (rL_set2 b o ls _ (.long x)).symm (fun LS' h => k LS' h)
    · cases hs
  case lstore n =>
    obtain ⟨h1, h2⟩ := (Bool.and_eq_true _ _).mp hok
    obtain rfl : len = 2 := of_decide_eq_true h1
    simp only [pstepL] at hs
    split at hs
    · rename_i x r
      simp only [Option.some.injEq, Prod.mk.injEq] at hs
      obtain ⟨rfl, rfl, rfl⟩ := hs
      exact lv_lstore (x := x) hx hb hdg hl (of_decide_eq_true h2) (rL_set2 b o ls _ (.long x)).symm (fun LS' h => k LS' h)
    · cases hs
  case astore_n n =>
    obtain ⟨h1, h2⟩ := (Bool.and_eq_true _ _).mp hok
    obtain rfl : len = 1 := of_decide_eq_true h1
    simp only [pstepL] at hs
    split at hs
    · rename_i x r
      simp only [Option.some.injEq, Prod.mk.injEq] at hs
      obtain ⟨rfl, rfl, rfl⟩ := hs
      exact lv_astore_n (x := b + x) hx hb hdg rfl hl (of_decide_eq_true h2) (rL_set1 b o ls _ (.ref x)).symm (fun LS' h => k LS' h)
    · rename_i x r
      simp only [Option.some.injEq, Prod.mk.injEq] at hs
      obtain ⟨rfl, rfl, rfl⟩ := hs
      exact lv_astore_n (x := o x) hx hb hdg rfl hl (of_decide_eq_true h2) (rL_set1 b o ls _ (.retAddr x)).symm (fun LS' h => k LS' h)
    · cases hs
  case astore n =>
    obtain ⟨h1, h2⟩ := (Bool.and_eq_true _ _).mp hok
    obtain rfl : len = 2 := of_decide_eq_true h1
    simp only [pstepL] at hs
    split at hs
    · rename_i x r
      simp only [Option.some.injEq, Prod.mk.injEq] at hs
      obtain ⟨rfl, rfl, rfl⟩ := hs
      exact lv_astore (x := b + x) hx hb hdg hl (of_decide_eq_true h2) (rL_set1 b o ls _ (.ref x)).symm (fun LS' h => k LS' h)
    · rename_i x r
      simp only [Option.some.injEq, Prod.mk.injEq] at hs
      obtain ⟨rfl, rfl, rfl⟩ := hs
      exact lv_astore (x := o x) hx hb hdg hl (of_decide_eq_true h2) (rL_set1 b o ls _ (.retAddr x)).symm (fun LS' h => k LS' h)
    · cases hs
  case iinc n d =>
    obtain ⟨h1, h2⟩ := (Bool.and_eq_true _ _).mp hok
    obtain rfl : len = 3 := of_decide_eq_true h1
    simp only [pstepL] at hs
    split at hs
    · rename_i x hg
      simp only [Option.some.injEq, Prod.mk.injEq] at hs
      obtain ⟨rfl, rfl, rfl⟩ := hs
      obtain ⟨q, hq⟩ := p_place (b := b) (o := o) hg
      exact lv_iinc hx hb hdg hl hq rfl (of_decide_eq_true h2) (rL_set1 b o ls _ (.int (x + Int32.ofInt d))).symm (fun LS' h => k LS' h)
    · cases hs
  case dup =>
    obtain rfl : len = 1 := of_decide_eq_true hok
    simp only [pstepL] at hs
    split at hs
    · rename_i x r
      simp only [Option.some.injEq, Prod.mk.injEq] at hs
      obtain ⟨rfl, rfl, rfl⟩ := hs
      exact lv_dup (va := .int x) hx hb hdg rfl (k LS hl)
    · rename_i x r
      simp only [Option.some.injEq, Prod.mk.injEq] at hs
      obtain ⟨rfl, rfl, rfl⟩ := hs
      exact lv_dup (va := .ref (b + x)) hx hb hdg rfl (k LS hl)
    · rename_i x r
      simp only [Option.some.injEq, Prod.mk.injEq] at hs
      obtain ⟨rfl, rfl, rfl⟩ := hs
      exact lv_dup (va := .ref (o x)) hx hb hdg rfl (k LS hl)
    · cases hs
  case dup2 =>
    obtain rfl : len = 1 := of_decide_eq_true hok
    simp only [pstepL] at hs
    split at hs
    · rename_i x a r
      simp only [Option.some.injEq, Prod.mk.injEq] at hs
      obtain ⟨rfl, rfl, rfl⟩ := hs
      exact lv_dup2_11 (va := .int x) (vb := .ref (b + a)) hx hb hdg rfl rfl (k LS hl)
    · rename_i x a r
      simp only [Option.some.injEq, Prod.mk.injEq] at hs
      obtain ⟨rfl, rfl, rfl⟩ := hs
      exact lv_dup2_11 (va := .int x) (vb := .int a) hx hb hdg rfl rfl (k LS hl)
    · rename_i x r
      simp only [Option.some.injEq, Prod.mk.injEq] at hs
      obtain ⟨rfl, rfl, rfl⟩ := hs
      exact lv_dup2_2 (va := .long x) hx hb hdg rfl (k LS hl)
    · cases hs
  case pop =>
    obtain rfl : len = 1 := of_decide_eq_true hok
    simp only [pstepL] at hs
    split at hs
    · rename_i x r
      simp only [Option.some.injEq, Prod.mk.injEq] at hs
      obtain ⟨rfl, rfl, rfl⟩ := hs
      exact lv_pop (va := .int x) hx hb hdg rfl (k LS hl)
    · rename_i x r
      simp only [Option.some.injEq, Prod.mk.injEq] at hs
      obtain ⟨rfl, rfl, rfl⟩ := hs
      exact lv_pop (va := .ref (b + x)) hx hb hdg rfl (k LS hl)
    · cases hs
  case goto off =>
    obtain ⟨h1, h2⟩ := (Bool.and_eq_true _ _).mp hok
    obtain rfl : len = 3 := of_decide_eq_true h1
    simp only [pstepL, Option.some.injEq, Prod.mk.injEq] at hs
    obtain ⟨rfl, rfl, rfl⟩ := hs
    exact lv_goto hx hb hdg (p_tgt_eq h2) (k LS hl)
  case ifCond q off =>
    obtain ⟨h1, h2⟩ := (Bool.and_eq_true _ _).mp hok
    obtain rfl : len = 3 := of_decide_eq_true h1
    simp only [pstepL] at hs
    split at hs
    · rename_i x r
      simp only [Option.some.injEq, Prod.mk.injEq] at hs
      obtain ⟨rfl, rfl, rfl⟩ := hs
      refine p_br_W (pc := pc) (tgt := p_tgt pc off) (LS := LS) (stk := rS b o r) (t := p_cnd q x 0) ?_ (k LS hl)
      intro kt kf
      cases q
      case eq =>
        exact lv_if_eq hx hb hdg (p_tgt_eq h2) (fun z => kt (decide_eq_true z)) (fun z => kf (fun w => z (of_decide_eq_true w)))
      case ne =>
        exact lv_if_ne hx hb hdg (p_tgt_eq h2) (fun z => kt (decide_eq_true z)) (fun z => kf (fun w => absurd z (of_decide_eq_true w)))
      case lt =>
        exact lv_if_lt hx hb hdg (p_tgt_eq h2) (fun z => kt (decide_eq_true z)) (fun z => kf (fun w => z (of_decide_eq_true w)))
      case ge =>
        exact lv_if_ge hx hb hdg (p_tgt_eq h2) (fun z => kt (decide_eq_true z)) (fun z => kf (fun w => z (of_decide_eq_true w)))
      case gt =>
        exact lv_if_gt hx hb hdg (p_tgt_eq h2) (fun z => kt (decide_eq_true z)) (fun z => kf (fun w => z (of_decide_eq_true w)))
      case le =>
        exact lv_if_le hx hb hdg (p_tgt_eq h2) (fun z => kt (decide_eq_true z)) (fun z => kf (fun w => z (of_decide_eq_true w)))
    · cases hs
  case if_icmp q off =>
    obtain ⟨h1, h2⟩ := (Bool.and_eq_true _ _).mp hok
    obtain rfl : len = 3 := of_decide_eq_true h1
    simp only [pstepL] at hs
    split at hs
    · rename_i y x r
      simp only [Option.some.injEq, Prod.mk.injEq] at hs
      obtain ⟨rfl, rfl, rfl⟩ := hs
      refine p_br_W (pc := pc) (tgt := p_tgt pc off) (LS := LS) (stk := rS b o r) (t := p_cnd q x y) ?_ (k LS hl)
      intro kt kf
      cases q
      case eq =>
        exact lv_icmp_eq hx hb hdg (p_tgt_eq h2) (fun z => kt (decide_eq_true z)) (fun z => kf (fun w => z (of_decide_eq_true w)))
      case ne =>
        exact lv_icmp_ne hx hb hdg (p_tgt_eq h2) (fun z => kt (decide_eq_true z)) (fun z => kf (fun w => absurd z (of_decide_eq_true w)))
      case lt =>
        exact lv_icmp_lt hx hb hdg (p_tgt_eq h2) (fun z => kt (decide_eq_true z)) (fun z => kf (fun w => z (of_decide_eq_true w)))
      case ge =>
        exact lv_icmp_ge hx hb hdg (p_tgt_eq h2) (fun z => kt (decide_eq_true z)) (fun z => kf (fun w => z (of_decide_eq_true w)))
      case gt =>
        exact lv_icmp_gt hx hb hdg (p_tgt_eq h2) (fun z => kt (decide_eq_true z)) (fun z => kf (fun w => z (of_decide_eq_true w)))
      case le =>
        exact lv_icmp_le hx hb hdg (p_tgt_eq h2) (fun z => kt (decide_eq_true z)) (fun z => kf (fun w => z (of_decide_eq_true w)))
    · cases hs
  case tableswitch d lo hi offs =>
    obtain ⟨h1, h2⟩ := (Bool.and_eq_true _ _).mp hok
    obtain ⟨h2, h3⟩ := (Bool.and_eq_true _ _).mp h2
    obtain ⟨h3, h4⟩ := (Bool.and_eq_true _ _).mp h3
    have h3 := of_decide_eq_true h3
    have h4 := of_decide_eq_true h4
    simp only [pstepL] at hs
    split at hs
    · rename_i x r
      simp only [Option.some.injEq, Prod.mk.injEq] at hs
      obtain ⟨rfl, rfl, rfl⟩ := hs
      have k2 := k LS hl
      unfold p_sw at k2
      by_cases a1 : x.toInt < lo
      · rw [if_pos a1] at k2
        exact lv_tableOut hx hb hdg (Or.inl a1) (p_tgt_eq h1) k2
      · rw [if_neg a1] at k2
        by_cases a2 : hi < x.toInt
        · rw [if_pos a2] at k2
          exact lv_tableOut hx hb hdg (Or.inr a2) (p_tgt_eq h1) k2
        · rw [if_neg a2] at k2
          have a3 : (x.toInt - lo).toNat < offs.size := by omega
          have a4 : offs[(x.toInt - lo).toNat]? = some offs[(x.toInt - lo).toNat] := Array.getElem?_eq_getElem a3
          rw [a4] at k2
          have a5 : offs[(x.toInt - lo).toNat] ∈ offs.toList := by
            rw [← Array.getElem_toList]
            exact List.getElem_mem _
          exact lv_tableIn hx hb hdg a1 a2 a4 (p_tgt_eq (List.all_eq_true.mp h2 _ a5)) k2
    · cases hs
  case lookupswitch d ps =>
    obtain ⟨h1, h2⟩ := (Bool.and_eq_true _ _).mp hok
    obtain ⟨h2, h3⟩ := (Bool.and_eq_true _ _).mp h2
    simp only [pstepL] at hs
    split at hs
    · rename_i x r
      simp only [Option.some.injEq, Prod.mk.injEq] at hs
      obtain ⟨rfl, rfl, rfl⟩ := hs
      have key : ∀ l : List (Int × Int), l.all (fun q => p_in0 pc q.2) = true → p_in0 pc (Op.lookupswitch.offset l d x.toInt) = true := by
        intro l
        induction l with
        | nil => intro _; exact h1
        | cons q l ih =>
          intro hq
          obtain ⟨q1, q2⟩ := q
          rw [List.all_cons] at hq
          obtain ⟨g1, g2⟩ := (Bool.and_eq_true _ _).mp hq
          rw [Op.lookupswitch.offset_cons]
          split
          · exact g1
          · exact ih g2
      exact lv_lookup hx hb hdg h3 rfl (p_tgt_eq (key _ h2)) (k LS hl)
    · cases hs
  case lcmp =>
    obtain rfl : len = 1 := of_decide_eq_true hok
    simp only [pstepL] at hs
    split at hs
    · rename_i y x r
      simp only [Option.some.injEq, Prod.mk.injEq] at hs
      obtain ⟨rfl, rfl, rfl⟩ := hs
      exact W.lcmp hx hb hdg (k LS hl)
    · cases hs
  case ineg =>
    obtain rfl : len = 1 := of_decide_eq_true hok
    simp only [pstepL] at hs
    split at hs
    · rename_i x r
      simp only [Option.some.injEq, Prod.mk.injEq] at hs
      obtain ⟨rfl, rfl, rfl⟩ := hs
      exact lv_ineg hx hb hdg (k LS hl)
    · cases hs
  case i2l =>
    obtain rfl : len = 1 := of_decide_eq_true hok
    simp only [pstepL] at hs
    split at hs
    · rename_i x r
      simp only [Option.some.injEq, Prod.mk.injEq] at hs
      obtain ⟨rfl, rfl, rfl⟩ := hs
      exact lv_i2l hx hb hdg rfl (k LS hl)
    · cases hs
  case l2i =>
    obtain rfl : len = 1 := of_decide_eq_true hok
    simp only [pstepL] at hs
    split at hs
    · rename_i x r
      simp only [Option.some.injEq, Prod.mk.injEq] at hs
      obtain ⟨rfl, rfl, rfl⟩ := hs
      exact lv_l2i hx hb hdg rfl (k LS hl)
    · cases hs
  case i2b =>
    obtain rfl : len = 1 := of_decide_eq_true hok
    simp only [pstepL] at hs
    split at hs
    · rename_i x r
      simp only [Option.some.injEq, Prod.mk.injEq] at hs
      obtain ⟨rfl, rfl, rfl⟩ := hs
      exact lv_i2b hx hb hdg rfl (k LS hl)
    · cases hs
  case i2c =>
    obtain rfl : len = 1 := of_decide_eq_true hok
    simp only [pstepL] at hs
    split at hs
    · rename_i x r
      simp only [Option.some.injEq, Prod.mk.injEq] at hs
      obtain ⟨rfl, rfl, rfl⟩ := hs
      exact lv_i2c hx hb hdg rfl (k LS hl)
    · cases hs
  case iadd =>
    obtain rfl : len = 1 := of_decide_eq_true hok
    exact sA hx hb hdg hl hs k
  case isub =>
    obtain rfl : len = 1 := of_decide_eq_true hok
    exact sA hx hb hdg hl hs k
  case imul =>
    obtain rfl : len = 1 := of_decide_eq_true hok
    exact sA hx hb hdg hl hs k
  case iand =>
    obtain rfl : len = 1 := of_decide_eq_true hok
    exact sA hx hb hdg hl hs k
  case ior =>
    obtain rfl : len = 1 := of_decide_eq_true hok
    exact sA hx hb hdg hl hs k
  case ixor =>
    obtain rfl : len = 1 := of_decide_eq_true hok
    exact sA hx hb hdg hl hs k
  case ishl =>
    obtain rfl : len = 1 := of_decide_eq_true hok
    exact sA hx hb hdg hl hs k
  case ishr =>
    obtain rfl : len = 1 := of_decide_eq_true hok
    exact sA hx hb hdg hl hs k
  case iushr =>
    obtain rfl : len = 1 := of_decide_eq_true hok
    exact sA hx hb hdg hl hs k
  case idiv =>
    obtain rfl : len = 1 := of_decide_eq_true hok
    exact sA hx hb hdg hl hs k
  case irem =>
    obtain rfl : len = 1 := of_decide_eq_true hok
    exact sA hx hb hdg hl hs k
  case ladd =>
    obtain rfl : len = 1 := of_decide_eq_true hok
    exact sA hx hb hdg hl hs k
  case lsub =>
    obtain rfl : len = 1 := of_decide_eq_true hok
    exact sA hx hb hdg hl hs k
  case lmul =>
    obtain rfl : len = 1 := of_decide_eq_true hok
    exact sA hx hb hdg hl hs k
  case land =>
    obtain rfl : len = 1 := of_decide_eq_true hok
    exact sA hx hb hdg hl hs k
  case lor =>
    obtain rfl : len = 1 := of_decide_eq_true hok
    exact sA hx hb hdg hl hs k
  case lxor =>
    obtain rfl : len = 1 := of_decide_eq_true hok
    exact sA hx hb hdg hl hs k
  case lshl =>
    obtain rfl : len = 1 := of_decide_eq_true hok
    exact sA hx hb hdg hl hs k
  case lshr =>
    obtain rfl : len = 1 := of_decide_eq_true hok
    exact sA hx hb hdg hl hs k
  case lushr =>
    obtain rfl : len = 1 := of_decide_eq_true hok
    exact sA hx hb hdg hl hs k
  all_goals
    (exfalso
     simp only [pstepL] at hs
     unfold pstepA at hs
     split at hs
     · simp [p_bin] at hs
     · simp [p_binl] at hs
     · simp [p_shl] at hs
     · cases hs)
end SIML
end
section
/-! THE SMALL MACHINE'S CELLS, and what of the machine's heap they are. -/
/-- the words that every method's contract carries: those of the tables that stay -/
def gT : List Cond := lw_tbl.filter goodWord
theorem gT_of {w : Cond} (h : w ∈ lw_tbl) (hg : goodWord w = true) : w ∈ gT := List.mem_filter.mpr ⟨h, hg⟩
theorem gT_place {w : Cond} {i : Nat} (h : lw_tbl[i]? = some w) (hg : goodWord w = true) : w ∈ gT := gT_of (List.mem_of_getElem? h) hg
theorem gT_good {ws : List Cond} (h : ∀ w ∈ ws, w ∈ gT) : GoodIn gT ws := fun w hw => ⟨h w hw, good_of_word (List.mem_filter.mp (h w hw)).2⟩
theorem gT_lay (C : String) (T : u_T) (k : Nat) : goodWord (u_lay C T k) = true := by
  unfold u_lay
  split <;> rfl
theorem gT_ws {C : String} {T : u_T} {N : Nat} (h : ∀ w ∈ u_ws C T N, w ∈ lw_tbl) : ∀ w ∈ u_ws C T N, w ∈ gT := by
  intro w hw
  refine gT_of (h w hw) ?_
  obtain ⟨k, -, rfl⟩ := List.mem_map.mp hw
  exact gT_lay C T k
/-- the types of the fields of class ci -/
def clTy (ci : Nat) : Nat → FieldType := match ci with
  | 0 => tyX0
  | 1 => tyX1
  | 2 => tyX2
  | 3 => tyX3
  | 4 => tyX4
  | 5 => tyX5
  | 6 => tyX6
  | 7 => tyX7
  | 8 => tyX8
  | 9 => tyX9
  | 10 => tyX10
  | _ => tyX11
theorem cl_all {P : Nat → vw_C → Prop} (h0 : P 0 (RX0, TX0, 7)) (h1 : P 1 (RX1, TX1, 11)) (h2 : P 2 (RX2, TX2, 14)) (h3 : P 3 (RX3, TX3, 13)) (h4 : P 4 (RX4, TX4, 5)) (h5 : P 5 (RX5, TX5, 14)) (h6 : P 6 (RX6, TX6, 15)) (h7 : P 7 (RX7, TX7, 6)) (h8 : P 8 (RX8, TX8, 5)) (h9 : P 9 (RX9, TX9, 12)) (h10 : P 10 (RX10, TX10, 20)) (h11 : P 11 (RX11, TX11, 15)) :
    ∀ (ci : Nat) (q : vw_C), vwCl[ci]? = some q → P ci q := by
  intro ci q h
  match ci, h with
  | 0, h => cases h; exact h0
  | 1, h => cases h; exact h1
  | 2, h => cases h; exact h2
  | 3, h => cases h; exact h3
  | 4, h => cases h; exact h4
  | 5, h => cases h; exact h5
  | 6, h => cases h; exact h6
  | 7, h => cases h; exact h7
  | 8, h => cases h; exact h8
  | 9, h => cases h; exact h9
  | 10, h => cases h; exact h10
  | 11, h => cases h; exact h11
  | n + 12, h => simp [vwCl] at h
theorem cl_in : ∀ (ci : Nat) (q : vw_C), vwCl[ci]? = some q → ∀ w ∈ u_ws q.1 q.2.1 q.2.2, w ∈ gT :=
  cl_all (gT_ws inX0) (gT_ws inX1) (gT_ws inX2) (gT_ws inX3) (gT_ws inX4) (gT_ws inX5) (gT_ws inX6) (gT_ws inX7) (gT_ws inX8) (gT_ws inX9) (gT_ws inX10) (gT_ws inX11)
theorem cl_ty : ∀ (ci : Nat) (q : vw_C), vwCl[ci]? = some q → ∀ k, k < q.2.2 → parseFieldDescriptor (q.2.1 k).2.2.1 = some (clTy ci k) :=
  cl_all tyX0_ok tyX1_ok tyX2_ok tyX3_ok tyX4_ok tyX5_ok tyX6_ok tyX7_ok tyX8_ok tyX9_ok tyX10_ok tyX11_ok
theorem cl_nm : ∀ (ci : Nat) (q : vw_C), vwCl[ci]? = some q → ∀ a, a < q.2.2 → ∀ b, b < q.2.2 → a ≠ b → (q.2.1 a).2.1 ≠ (q.2.1 b).2.1 :=
  cl_all nmX0 nmX1 nmX2 nmX3 nmX4 nmX5 nmX6 nmX7 nmX8 nmX9 nmX10 nmX11
theorem cl_nf : ∀ (ci : Nat) (q : vw_C), vwCl[ci]? = some q → ∀ k, k < q.2.2 → clTy ci k ≠ .float :=
  cl_all (by decide +kernel) (by decide +kernel) (by decide +kernel) (by decide +kernel) (by decide +kernel) (by decide +kernel) (by decide +kernel) (by decide +kernel) (by decide +kernel) (by decide +kernel) (by decide +kernel) (by decide +kernel)
/-- the arrays' types by their numbers -/
def aTy (t : Nat) : FieldType := match t with
  | 0 => .int
  | 1 => .long
  | 2 => .boolean
  | 3 => .byte
  | _ => .array .int
def tysL (cA : Nat → ClassId) : List (ClassId × FieldType) := [(cA 0, .int), (cA 1, .long), (cA 2, .boolean), (cA 3, .byte), (cA 4, .array .int)]
def rA (b : Nat) (a : vp_A) : vp_A := match a with
  | (n, .inr (.inr (.inr (.inr f)))) => (n, .inr (.inr (.inr (.inr (fun j => (f j).map (fun q => b + q))))))
  | a => a
def rE (b : Nat) (o : Nat → Nat) (cA : Nat → ClassId) (x : pE) : va_E := match x with
  | .inl (t, a) => .inl (cA t, rA b a)
  | .inr (ci, fs) => .inr (ci, rS b o fs)
/-- the heap from b on is the small machine's -/
def sRep (D : va_G) (cA : Nat → ClassId) (b : Nat) (o : Nat → Nat) (h : pH) (H : Heap) : Prop := H.size = b + h.1 ∧ ∀ j : Nat, j < h.1 → va_at D vwCl (b + j, rE b o cA (h.2.2 j)) H
theorem va_one {D : va_G} {cl : List vw_C} {q : Nat × va_E} {H : Heap} (h : va_at D cl q H) : va_P D cl [q] H := by
  intro k x hx
  match k, hx with
  | 0, hx => cases hx; exact h
  | n + 1, hx => simp at hx
theorem sRep.set {D : va_G} {cA : Nat → ClassId} {b : Nat} {o : Nat → Nat} {h : pH} {H H1 : Heap} (hR : sRep D cA b o h H) {a : Nat} {e : pE} (z : H1.size = H.size) (oq : ∀ q : Nat, q ≠ b + a → H1[q]? = H[q]?) (he : va_at D vwCl (b + a, rE b o cA e) H1) : sRep D cA b o (h.1, h.2.1, p_up h.2.2 a e) H1 := by
  refine ⟨z.trans hR.1, fun j hj => ?_⟩
  show va_at D vwCl (b + j, rE b o cA (p_up h.2.2 a e j)) H1
  unfold p_up
  by_cases hq : j = a
  · rw [if_pos hq, hq]
    exact he
  · rw [if_neg hq]
    exact (hR.2 j hj).kept (oq (b + j) (by omega))
theorem sRep.push {D : va_G} {cA : Nat → ClassId} {b : Nat} {o : Nat → Nat} {h : pH} {H H1 : Heap} (hR : sRep D cA b o h H) {e : pE} {n : Nat} (z : H1.size = H.size + 1) (oq : ∀ q : Nat, q < H.size → H1[q]? = H[q]?) (he : va_at D vwCl (b + h.1, rE b o cA e) H1) : sRep D cA b o (h.1 + 1, n, p_up h.2.2 h.1 e) H1 := by
  refine ⟨by rw [z, hR.1]; rfl, fun j hj => ?_⟩
  show va_at D vwCl (b + j, rE b o cA (p_up h.2.2 h.1 e j)) H1
  have hj : j < h.1 + 1 := hj
  unfold p_up
  by_cases hq : j = h.1
  · rw [if_pos hq, hq]
    exact he
  · rw [if_neg hq]
    have hR1 := hR.1
    exact (hR.2 j (by omega)).kept (oq (b + j) (by omega))
/-- what a field or an array of a small type takes as it is -/
def p_fit (ty : FieldType) (v : Value) : Bool := match ty, v with
  | .int, .int _ => true
  | .long, .long _ => true
  | .boolean, .int x => decide (x = 0) || decide (x = 1)
  | .object _, .ref _ => true
  | .object _, .retAddr _ => true
  | .array _, .ref _ => true
  | .array _, .retAddr _ => true
  | _, _ => false
theorem p_fit_spec {ty : FieldType} {v : Value} {b : Nat} {o : Nat → Nat} (h : p_fit ty v = true) : narrow ty (rV b o v) = rV b o v ∧ fits ty (rV b o v) = true := by
  unfold p_fit at h
  split at h
  · exact ⟨rfl, rfl⟩
  · exact ⟨rfl, rfl⟩
  · rename_i x
    rcases (Bool.or_eq_true _ _).mp h with h | h
    · have h := of_decide_eq_true h
      subst h
      exact ⟨rfl, rfl⟩
    · have h := of_decide_eq_true h
      subst h
      exact ⟨rfl, rfl⟩
  · exact ⟨rfl, rfl⟩
  · exact ⟨rfl, rfl⟩
  · exact ⟨rfl, rfl⟩
  · exact ⟨rfl, rfl⟩
  · cases h
section SIMH
variable {p : Program} {l : Launch} {e : Env} {R : Room} {s : State} {m : MethodId} {args : Array Value} {below : List Frame} {meth : Method} {c : Code} {H : Heap} {locs : List Loc} {cells slots : Nat} {Q : State → Prop} {cc : ByteArray}
variable {pc : Nat} {ls : Array Slot} {rest : List Value} {D : va_G} {cA : Nat → ClassId} {b : Nat} {o : Nat → Nat} {h : pH} {H0 : Heap} {own : String} {index : Nat} {a : Nat}
theorem s_get (hx : p.tables.exec = Jvm.exec) (hb : c.code = cc) (hts : ∀ w ∈ gT, w.before args s = true) (hown : s.vm.findClass own = some m.cls) (hK : va_K D vwCl (tysL cA) s) (hR : sRep D cA b o h H) {ci k : Nat} {r : vw_C} {fs : List Value} {v : Value} (ha : a < h.1) (he : h.2.2 a = .inr (ci, fs)) (hc : vwCl[ci]? = some r) (hk : k < r.2.2) (hlink : (Cond.fieldLink own index (r.2.1 k).1 (r.2.1 k).2.1 (r.2.1 k).2.2.1).before args s = true) (hv : fs[k]? = some v) (hdg : decode cc pc = .ok (.getfield index, 3))
    (kk : W p l e R s m args below meth c H locs cells slots Q (F0 m (pc + 3) ls (rV b o v :: rest))) : W p l e R s m args below meth c H locs cells slots Q (F0 m pc ls (.ref (b + a) :: rest)) := by
  have hat := hR.2 a ha
  rw [he] at hat
  have hP := va_one hat
  obtain ⟨C, T, N⟩ := r
  refine va_get (D := D) (cl := vwCl) (tys := tysL cA) (C := C) (T := T) (N := N) (ci := ci) (v := rV b o v) hx hb hts (cl_in ci _ hc) hown hK hP 0 rfl hc k hk hlink (fun _ z => z) ?_ hdg kk
  show (rS b o fs)[k]? = _
  unfold rS
  rw [List.getElem?_map, hv]
  rfl
theorem s_put (hx : p.tables.exec = Jvm.exec) (hb : c.code = cc) (hts : ∀ w ∈ gT, w.before args s = true) (hown : s.vm.findClass own = some m.cls) (hK : va_K D vwCl (tysL cA) s) (hR : sRep D cA b o h H) (hS0 : va_S (fun q => b ≤ q) H0 H locs) {ci k : Nat} {r : vw_C} {fs : List Value} {v : Value} (ha : a < h.1) (he : h.2.2 a = .inr (ci, fs)) (hc : vwCl[ci]? = some r) (hk : k < r.2.2) (hlink : (Cond.fieldLink own index (r.2.1 k).1 (r.2.1 k).2.1 (r.2.1 k).2.2.1).before args s = true) (hl : k < fs.length) (hfit : p_fit (clTy ci k) v = true)
    (hfin : (r.2.1 k).2.2.2 = false ∨ ((r.2.1 k).2.2.2 = true ∧ meth.name = "<init>" ∧ (r.2.1 k).1 = own)) (hdg : decode cc pc = .ok (.putfield index, 3))
    (kk : ∀ (H1 : Heap) (locs1 : List Loc), sRep D cA b o (h.1, h.2.1, p_up h.2.2 a (.inr (ci, fs.set k v))) H1 → va_S (fun q => b ≤ q) H0 H1 locs1 → W p l e R s m args below meth c H1 locs1 cells slots Q (F0 m (pc + 3) ls rest)) : W p l e R s m args below meth c H locs cells slots Q (F0 m pc ls (rV b o v :: .ref (b + a) :: rest)) := by
  obtain ⟨hn, hf⟩ := p_fit_spec (b := b) (o := o) hfit
  have hin := cl_in ci _ hc
  have hap := va_apart (own := own) hts hin (clTy ci) (cl_ty ci _ hc) (cl_nm ci _ hc) hK hc
  have hd := cl_ty ci _ hc k hk
  have hat := hR.2 a ha
  rw [he] at hat
  obtain ⟨r', h1, cell, q1, q2, q3, q4⟩ := hat
  have hr : r' = r := Option.some.inj (h1.symm.trans hc)
  subst hr
  obtain ⟨C, T, N⟩ := r'
  obtain ⟨hS, hfc, kC, hkC, hkind⟩ := hK.1 ci _ hc
  obtain ⟨cf, kf, fi, f, hi, hsl⟩ := hS k hk
  have hlay := hts _ (hin _ (u_in_lay hk))
  unfold u_lay at hlay
  have hst := (u_facts hfc hkC (u_lays hts hin hk) hi).1
  have new : ∀ H' : Heap, H'[b + a]? = some (cell.setSlot (D.2 ci k) (rV b o v)) → H'.size = H.size → (∀ q, q ≠ b + a → H'[q]? = H[q]?) → sRep D cA b o (h.1, h.2.1, p_up h.2.2 a (.inr (ci, fs.set k v))) H' := by
    intro H' e1 e2 e3
    refine hR.set e2 e3 ?_
    show va_at D vwCl (b + a, .inr (ci, rS b o (fs.set k v))) H'
    have e4 : rS b o (fs.set k v) = (rS b o fs).set k (rV b o v) := by
      unfold rS
      rw [List.map_set]
    rw [e4]
    exact ⟨_, hc, t_OB.to (V := updV (vp_V (rS b o fs)) k (rV b o v)) ⟨_, e1, q2, q3, t_set q4 hap hk _⟩ (fun j _ => vp_updV_set (by unfold rS; rw [List.length_map]; exact hl) _ j)⟩
  rcases hfin with hfin | ⟨hfin, hin2, hdecl⟩
  · rw [if_neg (by rw [hfin]; decide)] at hlay
    have h6 := u_store hfc hkC hkind hlay hi hd hn hf
    refine W.putK hx hb (f := f) ⟨hown, hlink, ⟨_, _, _, hi⟩, hst⟩ (by rw [q2]; exact h6) q1 q3 (by rw [hsl]; exact k2_hasslot (q4 k hk)) rfl rfl hdg fun H' e1 e2 e3 => ?_
    rw [hsl] at e1 ⊢
    exact kk H' _ (new H' e1 e2 e3) (hS0.put e2 e3 (Nat.le_add_right b a))
  · rw [if_pos hfin] at hlay
    have hcf : m.cls = cf := by
      obtain ⟨_, _, c', _, _, _, -, -, hf', -, -, -, hown2, -⟩ := Cond.laysFinal_spec hlay
      have e1 : c' = cf := by have := hi.symm.trans hf'; simp at this; exact this.1.symm
      rw [hdecl] at hown2
      rw [← e1]; exact Option.some.inj (hown.symm.trans hown2)
    have h6 := u_fits hfc hkC hkind (Or.inr hlay) hi hd hn hf
    refine W.putFinK hx hb hown hlink hi hst hcf hin2 (by rw [q2]; exact h6) q1 q3 (by rw [hsl]; exact k2_hasslot (q4 k hk)) rfl rfl hdg fun H' e1 e2 e3 => ?_
    rw [hsl] at e1 ⊢
    exact kk H' _ (new H' e1 e2 e3) (hS0.put e2 e3 (Nat.le_add_right b a))
theorem s_ild (hx : p.tables.exec = Jvm.exec) (hb : c.code = cc) (hK : va_K D vwCl (tysL cA) s) (hR : sRep D cA b o h H) {n : Nat} {f : Nat → Int32} (ha : a < h.1) (he : h.2.2 a = .inl (0, n, .inl f)) {i : Int32} (hin : vp_in i n) (hdg : decode cc pc = .ok (.iaload, 1))
    (kk : W p l e R s m args below meth c H locs cells slots Q (F0 m (pc + 1) ls (.int (f i.toNatClampNeg) :: rest))) : W p l e R s m args below meth c H locs cells slots Q (F0 m pc ls (.int i :: .ref (b + a) :: rest)) := by
  have hat := hR.2 a ha
  rw [he] at hat
  exact va_iald (tys := tysL cA) hx hb hK (va_one hat) 0 0 rfl rfl hin hdg kk
theorem s_lld (hx : p.tables.exec = Jvm.exec) (hb : c.code = cc) (hK : va_K D vwCl (tysL cA) s) (hR : sRep D cA b o h H) {n : Nat} {f : Nat → Int64} (ha : a < h.1) (he : h.2.2 a = .inl (1, n, .inr (.inl f))) {i : Int32} (hin : vp_in i n) (hdg : decode cc pc = .ok (.laload, 1))
    (kk : W p l e R s m args below meth c H locs cells slots Q (F0 m (pc + 1) ls (.long (f i.toNatClampNeg) :: rest))) : W p l e R s m args below meth c H locs cells slots Q (F0 m pc ls (.int i :: .ref (b + a) :: rest)) := by
  have hat := hR.2 a ha
  rw [he] at hat
  exact va_lald (tys := tysL cA) hx hb hK (va_one hat) 0 1 rfl rfl hin hdg kk
theorem s_zld (hx : p.tables.exec = Jvm.exec) (hb : c.code = cc) (hK : va_K D vwCl (tysL cA) s) (hR : sRep D cA b o h H) {n : Nat} {f : Nat → Int32} (ha : a < h.1) (he : h.2.2 a = .inl (2, n, .inl f)) {i : Int32} (hin : vp_in i n) (hdg : decode cc pc = .ok (.baload, 1))
    (kk : W p l e R s m args below meth c H locs cells slots Q (F0 m (pc + 1) ls (.int (f i.toNatClampNeg) :: rest))) : W p l e R s m args below meth c H locs cells slots Q (F0 m pc ls (.int i :: .ref (b + a) :: rest)) := by
  have hat := hR.2 a ha
  rw [he] at hat
  exact va_zald (tys := tysL cA) hx hb hK (va_one hat) 0 2 rfl rfl hin hdg kk
theorem s_bld (hx : p.tables.exec = Jvm.exec) (hb : c.code = cc) (hK : va_K D vwCl (tysL cA) s) (hR : sRep D cA b o h H) {n : Nat} {f : Nat → Int32} (ha : a < h.1) (he : h.2.2 a = .inl (3, n, .inl f)) {i : Int32} (hin : vp_in i n) (hdg : decode cc pc = .ok (.baload, 1))
    (kk : W p l e R s m args below meth c H locs cells slots Q (F0 m (pc + 1) ls (.int (f i.toNatClampNeg) :: rest))) : W p l e R s m args below meth c H locs cells slots Q (F0 m pc ls (.int i :: .ref (b + a) :: rest)) := by
  have hat := hR.2 a ha
  rw [he] at hat
  exact va_bald (tys := tysL cA) hx hb hK (va_one hat) 0 3 rfl rfl hin hdg kk
theorem s_ald (hx : p.tables.exec = Jvm.exec) (hb : c.code = cc) (hK : va_K D vwCl (tysL cA) s) (hR : sRep D cA b o h H) {n q : Nat} {f : Nat → Option Nat} (ha : a < h.1) (he : h.2.2 a = .inl (4, n, .inr (.inr (.inr (.inr f))))) {i : Int32} (hin : vp_in i n) (hq : f i.toNatClampNeg = some q) (hdg : decode cc pc = .ok (.aaload, 1))
    (kk : W p l e R s m args below meth c H locs cells slots Q (F0 m (pc + 1) ls (.ref (b + q) :: rest))) : W p l e R s m args below meth c H locs cells slots Q (F0 m pc ls (.int i :: .ref (b + a) :: rest)) := by
  have hat := hR.2 a ha
  rw [he] at hat
  have hlt : i.toNatClampNeg < n := Nat.not_le.mp fun z => hin (Or.inr z)
  exact W.aald (v := .ref (b + q)) hx hb hat ((hK.2 4 _ rfl).1 n (fun j => va_rf ((f j).map (fun q => b + q)))) rfl (fun z => by cases z) (by show ¬ (i < 0 ∨ (arrV _ _ _).slots.size ≤ _); rw [arrV_size]; exact hin) (by show (arrV (cA 4) n (fun j => va_rf ((f j).map (fun q => b + q)))).slots[_]? = _; rw [arrV_read _ _ hlt, hq]; rfl) rfl rfl hdg kk
theorem s_len (hx : p.tables.exec = Jvm.exec) (hb : c.code = cc) (hK : va_K D vwCl (tysL cA) s) (hR : sRep D cA b o h H) {t : Nat} {x : vp_A} (ha : a < h.1) (he : h.2.2 a = .inl (t, x)) (ht : t < 5) (hdg : decode cc pc = .ok (.arraylength, 1))
    (kk : W p l e R s m args below meth c H locs cells slots Q (F0 m (pc + 1) ls (.int (Int32.ofNat x.1) :: rest))) : W p l e R s m args below meth c H locs cells slots Q (F0 m pc ls (.ref (b + a) :: rest)) := by
  have hat := hR.2 a ha
  rw [he] at hat
  have h1 : (rA b x).1 = x.1 := by
    obtain ⟨n, f | f | f | f | f⟩ := x <;> rfl
  have key : ∀ (t : Nat), t < 5 → (tysL cA)[t]? = some (cA t, aTy t) := by
    intro t ht
    match t, ht with
    | 0, _ => rfl
    | 1, _ => rfl
    | 2, _ => rfl
    | 3, _ => rfl
    | 4, _ => rfl
  exact va_alen (tys := tysL cA) hx hb hK (va_one hat) 0 t rfl (key t ht) (by rw [h1]) hdg kk
theorem s_ist (hx : p.tables.exec = Jvm.exec) (hb : c.code = cc) (hK : va_K D vwCl (tysL cA) s) (hR : sRep D cA b o h H) (hS0 : va_S (fun q => b ≤ q) H0 H locs) {n : Nat} {f : Nat → Int32} (ha : a < h.1) (he : h.2.2 a = .inl (0, n, .inl f)) {i x : Int32} (hin : vp_in i n) (hdg : decode cc pc = .ok (.iastore, 1))
    (kk : ∀ (H1 : Heap) (locs1 : List Loc), sRep D cA b o (h.1, h.2.1, p_up h.2.2 a (.inl (0, n, .inl (upd f i.toNatClampNeg x)))) H1 → va_S (fun q => b ≤ q) H0 H1 locs1 → W p l e R s m args below meth c H1 locs1 cells slots Q (F0 m (pc + 1) ls rest)) : W p l e R s m args below meth c H locs cells slots Q (F0 m pc ls (.int x :: .int i :: .ref (b + a) :: rest)) := by
  have hat := hR.2 a ha
  rw [he] at hat
  refine W.iast hx hb hat ((hK.2 0 _ rfl).1 n (fun j => .int (f j))) (fun z => by cases z) (by show ¬ (i < 0 ∨ (arrV _ _ _).slots.size ≤ _); rw [arrV_size]; exact hin) rfl rfl hdg fun H1 e1 z oq => ?_
  refine kk H1 _ (hR.set z oq ?_) (hS0.put z oq (Nat.le_add_right b a))
  show H1[b + a]? = some (vp_cell _ _)
  rw [e1]
  show some ((vp_cell (cA 0) (n, .inl f)).setSlot _ _) = some (vp_cell (cA 0) (n, .inl (upd f i.toNatClampNeg x)))
  rw [vp_cell_i, vp_cell_i, arrV_store]
  congr 2
  funext q
  by_cases hq : q = i.toNatClampNeg
  · subst hq
    simp [updV, upd]
  · simp [updV, upd, hq]
theorem s_lst (hx : p.tables.exec = Jvm.exec) (hb : c.code = cc) (hK : va_K D vwCl (tysL cA) s) (hR : sRep D cA b o h H) (hS0 : va_S (fun q => b ≤ q) H0 H locs) {n : Nat} {f : Nat → Int64} (ha : a < h.1) (he : h.2.2 a = .inl (1, n, .inr (.inl f))) {i : Int32} {x : Int64} (hin : vp_in i n) (hdg : decode cc pc = .ok (.lastore, 1))
    (kk : ∀ (H1 : Heap) (locs1 : List Loc), sRep D cA b o (h.1, h.2.1, p_up h.2.2 a (.inl (1, n, .inr (.inl (vp_updL f i.toNatClampNeg x))))) H1 → va_S (fun q => b ≤ q) H0 H1 locs1 → W p l e R s m args below meth c H1 locs1 cells slots Q (F0 m (pc + 1) ls rest)) : W p l e R s m args below meth c H locs cells slots Q (F0 m pc ls (.long x :: .int i :: .ref (b + a) :: rest)) := by
  have hat := hR.2 a ha
  rw [he] at hat
  refine W.last hx hb hat ((hK.2 1 _ rfl).1 n (fun j => .long (f j))) (fun z => by cases z) (by show ¬ (i < 0 ∨ (arrV _ _ _).slots.size ≤ _); rw [arrV_size]; exact hin) rfl rfl hdg fun H1 e1 z oq => ?_
  refine kk H1 _ (hR.set z oq ?_) (hS0.put z oq (Nat.le_add_right b a))
  show H1[b + a]? = some (vp_cell _ _)
  rw [e1]
  show some ((vp_cell (cA 1) (n, .inr (.inl f))).setSlot _ _) = some (vp_cell (cA 1) (n, .inr (.inl (vp_updL f i.toNatClampNeg x))))
  rw [vp_cell_l, vp_cell_l, arrV_store]
  congr 2
  funext q
  by_cases hq : q = i.toNatClampNeg
  · subst hq
    simp [updV, vp_updL]
  · simp [updV, vp_updL, hq]
theorem s_zst (hx : p.tables.exec = Jvm.exec) (hb : c.code = cc) (hK : va_K D vwCl (tysL cA) s) (hR : sRep D cA b o h H) (hS0 : va_S (fun q => b ≤ q) H0 H locs) {n : Nat} {f : Nat → Int32} (ha : a < h.1) (he : h.2.2 a = .inl (2, n, .inl f)) {i x : Int32} (hin : vp_in i n) (hdg : decode cc pc = .ok (.bastore, 1))
    (kk : ∀ (H1 : Heap) (locs1 : List Loc), sRep D cA b o (h.1, h.2.1, p_up h.2.2 a (.inl (2, n, .inl (upd f i.toNatClampNeg (vp_nar .boolean x))))) H1 → va_S (fun q => b ≤ q) H0 H1 locs1 → W p l e R s m args below meth c H1 locs1 cells slots Q (F0 m (pc + 1) ls rest)) : W p l e R s m args below meth c H locs cells slots Q (F0 m pc ls (.int x :: .int i :: .ref (b + a) :: rest)) := by
  have hat := hR.2 a ha
  rw [he] at hat
  refine W.zast hx hb hat ((hK.2 2 _ rfl).1 n (fun j => .int (f j))) (fun z => by cases z) (by show ¬ (i < 0 ∨ (arrV _ _ _).slots.size ≤ _); rw [arrV_size]; exact hin) rfl rfl hdg fun H1 e1 z oq => ?_
  refine kk H1 _ (hR.set z oq ?_) (hS0.put z oq (Nat.le_add_right b a))
  show H1[b + a]? = some (vp_cell _ _)
  rw [e1]
  show some ((vp_cell (cA 2) (n, .inl f)).setSlot _ _) = some (vp_cell (cA 2) (n, .inl (upd f i.toNatClampNeg (vp_nar .boolean x))))
  rw [vp_cell_i, vp_cell_i, arrV_store]
  congr 2
  funext q
  by_cases hq : q = i.toNatClampNeg
  · subst hq
    simp [updV, upd, vp_nar]
    try rfl
  · simp [updV, upd, hq]
theorem s_bst (hx : p.tables.exec = Jvm.exec) (hb : c.code = cc) (hK : va_K D vwCl (tysL cA) s) (hR : sRep D cA b o h H) (hS0 : va_S (fun q => b ≤ q) H0 H locs) {n : Nat} {f : Nat → Int32} (ha : a < h.1) (he : h.2.2 a = .inl (3, n, .inl f)) {i x : Int32} (hin : vp_in i n) (hdg : decode cc pc = .ok (.bastore, 1))
    (kk : ∀ (H1 : Heap) (locs1 : List Loc), sRep D cA b o (h.1, h.2.1, p_up h.2.2 a (.inl (3, n, .inl (upd f i.toNatClampNeg (vp_nar .byte x))))) H1 → va_S (fun q => b ≤ q) H0 H1 locs1 → W p l e R s m args below meth c H1 locs1 cells slots Q (F0 m (pc + 1) ls rest)) : W p l e R s m args below meth c H locs cells slots Q (F0 m pc ls (.int x :: .int i :: .ref (b + a) :: rest)) := by
  have hat := hR.2 a ha
  rw [he] at hat
  refine W.bast hx hb hat ((hK.2 3 _ rfl).1 n (fun j => .int (f j))) (fun z => by cases z) (by show ¬ (i < 0 ∨ (arrV _ _ _).slots.size ≤ _); rw [arrV_size]; exact hin) rfl rfl hdg fun H1 e1 z oq => ?_
  refine kk H1 _ (hR.set z oq ?_) (hS0.put z oq (Nat.le_add_right b a))
  show H1[b + a]? = some (vp_cell _ _)
  rw [e1]
  show some ((vp_cell (cA 3) (n, .inl f)).setSlot _ _) = some (vp_cell (cA 3) (n, .inl (upd f i.toNatClampNeg (vp_nar .byte x))))
  rw [vp_cell_i, vp_cell_i, arrV_store]
  congr 2
  funext q
  by_cases hq : q = i.toNatClampNeg
  · subst hq
    simp [updV, upd, vp_nar]
    try rfl
  · simp [updV, upd, hq]
/-- the fields of a new object -/
def p_dfl (ci N : Nat) : List Value := (List.range N).map (fun j => defaultValue (clTy ci j))
theorem s_new (hx : p.tables.exec = Jvm.exec) (hb : c.code = cc) (hts : ∀ w ∈ gT, w.before args s = true) (hown : s.vm.findClass own = some m.cls) (hK : va_K D vwCl (tysL cA) s) (hR : sRep D cA b o h H) (hS0 : va_S (fun q => b ≤ q) H0 H locs) {ci : Nat} {r : vw_C} (hc : vwCl[ci]? = some r) (hcl : (Cond.classLink own index r.1).before args s = true) (hinst : (Cond.instantiable r.1 r.2.2).before args s = true) (hini : (Cond.initialized r.1).before args s = true) (hcells : cells + 1 ≤ R.cells) (hslots : slots + r.2.2 ≤ R.slots) (hdg : decode cc pc = .ok (.new index, 3))
    (kk : ∀ H1 : Heap, sRep D cA b o (h.1 + 1, h.2.1 + r.2.2, p_up h.2.2 h.1 (.inr (ci, p_dfl ci r.2.2))) H1 → va_S (fun q => b ≤ q) H0 H1 locs → W p l e R s m args below meth c H1 locs (cells + 1) (slots + r.2.2) Q (F0 m (pc + 3) ls (.ref (b + h.1) :: rest))) : W p l e R s m args below meth c H locs cells slots Q (F0 m pc ls rest) := by
  obtain ⟨C, T, N⟩ := r
  have hKn := hK.1 ci _ hc
  refine W.newcK hx hb hown hcl hinst hini rfl hdg hcells hslots hKn.2.1 hR.1 fun H1 kC hkC e1 z1 o1 => ?_
  refine kk H1 (hR.push (by rw [z1, hR.1]) (fun q hq => o1 q (by rw [← hR.1]; exact hq)) ?_) ⟨Nat.le_trans hS0.1 (by rw [z1, hR.1]; omega), fun x h1 h2 => (o1 x (by have := hS0.1; have := hR.1; omega)).trans (hS0.2.1 x h1 h2), hS0.2.2⟩
  refine ⟨_, hc, (u_born (clTy ci) hts (cl_in ci _ hc) hKn hkC e1 (cl_ty ci _ hc)).to fun j hj => ?_⟩
  have e2 : (rS b o (p_dfl ci N))[j]? = some (rV b o (defaultValue (clTy ci j))) := by
    unfold rS p_dfl
    rw [List.getElem?_map, List.getElem?_map, List.getElem?_range hj]
    rfl
  show _ = (rS b o (p_dfl ci N)).getD j .null
  rw [List.getD_eq_getElem?_getD, e2]
  have hnf := cl_nf ci _ hc j hj
  revert hnf
  cases clTy ci j <;> intro hnf <;> first | rfl | exact absurd rfl hnf
/-- the contents of a new array -/
def p_zero (t : Nat) : (Nat → Int32) ⊕ (Nat → Int64) ⊕ (Nat → UInt32) ⊕ (Nat → UInt64) ⊕ (Nat → Option Nat) := if t = 1 then .inr (.inl (fun _ => 0)) else .inl (fun _ => 0)
def p_aty (t : ArrayType) : Option Nat := match t with
  | .int => some 0
  | .long => some 1
  | .boolean => some 2
  | .byte => some 3
  | _ => none
theorem s_newa (hx : p.tables.exec = Jvm.exec) (hb : c.code = cc) (hK : va_K D vwCl (tysL cA) s) (hR : sRep D cA b o h H) (hS0 : va_S (fun q => b ≤ q) H0 H locs) {at' : ArrayType} {t : Nat} (ht : p_aty at' = some t) (harr : (Cond.arrayClass (aTy t)).before args s = true) {n : Int32} (hn : ¬ n < 0) (hbytes : n.toNatClampNeg * 8 ≤ 536870912) (hcells : cells + 1 ≤ R.cells) (hslots : slots + n.toNatClampNeg ≤ R.slots) (hdg : decode cc pc = .ok (.newarray at', 2))
    (kk : ∀ H1 : Heap, sRep D cA b o (h.1 + 1, h.2.1 + n.toNatClampNeg, p_up h.2.2 h.1 (.inl (t, n.toNatClampNeg, p_zero t))) H1 → va_S (fun q => b ≤ q) H0 H1 locs → W p l e R s m args below meth c H1 locs (cells + 1) (slots + n.toNatClampNeg) Q (F0 m (pc + 2) ls (.ref (b + h.1) :: rest))) : W p l e R s m args below meth c H locs cells slots Q (F0 m pc ls (.int n :: rest)) := by
  have key : newarray.typeOf at' = aTy t ∧ t < 4 := by
    cases at' <;> cases ht <;> exact ⟨rfl, by decide⟩
  obtain ⟨hty, ht4⟩ := key
  have hcb : n.toNatClampNeg * componentBytes (newarray.typeOf at') ≤ 536870912 := by
    have : componentBytes (newarray.typeOf at') ≤ 8 := by cases at' <;> decide
    exact Nat.le_trans (Nat.mul_le_mul_left _ this) hbytes
  refine va_newaK hx hb (by rw [hty]; exact harr) rfl hdg rfl hn rfl hcb hcells hslots hR.1 fun H1 c1 e1 z1 o1 hAr hNm => ?_
  refine kk H1 (hR.push (by rw [z1, hR.1]) (fun q hq => o1 q (by rw [← hR.1]; exact hq)) ?_) ⟨Nat.le_trans hS0.1 (by rw [z1, hR.1]; omega), fun x h1 h2 => (o1 x (by have := hS0.1; have := hR.1; omega)).trans (hS0.2.1 x h1 h2), hS0.2.2⟩
  have hc1 : c1 = cA t := by
    rw [hty] at hNm
    match t, ht4 with
    | 0, _ => exact Option.some.inj (hNm.symm.trans (hK.2 0 _ rfl).2)
    | 1, _ => exact Option.some.inj (hNm.symm.trans (hK.2 1 _ rfl).2)
    | 2, _ => exact Option.some.inj (hNm.symm.trans (hK.2 2 _ rfl).2)
    | 3, _ => exact Option.some.inj (hNm.symm.trans (hK.2 3 _ rfl).2)
  subst hc1
  rw [hty] at e1
  show H1[b + h.1]? = some (vp_cell _ _)
  rw [e1]
  match t, ht4 with
  | 0, _ => rfl
  | 1, _ => rfl
  | 2, _ => rfl
  | 3, _ => rfl
end SIMH
end
section
/-! new int[n][k]: the outer array, then the inner ones, one behind the other -/
theorem vr_outer (c : ClassId) (N h0 : Nat) : ∀ i : Nat, Jvm.Free.Multi.outerC c N h0 i = arrV c N (fun j => va_rf (if j < i then some (h0 + 1 + j) else none))
  | 0 => by
    show ({ cls := c, slots := Array.replicate N .null, vm := .none } : Cell) = _
    rw [arrV_new]
    refine congrArg (arrV c N) (funext fun j => ?_)
    simp [va_rf]
  | i + 1 => by
    show (Jvm.Free.Multi.outerC c N h0 i).setSlot i (.ref (h0 + 1 + i)) = _
    rw [vr_outer c N h0 i, arrV_store]
    refine congrArg (arrV c N) (funext fun j => ?_)
    by_cases e : j = i
    · subst e
      simp [updV, va_rf]
    · by_cases h : j < i
      · simp [updV, e, h, Nat.lt_succ_of_lt h]
      · simp [updV, e, h, show ¬ j < i + 1 by omega]
/-- the cells behind new int[n][k] -/
def p_mna (n k : Nat) (h : pH) : pH := (h.1 + 1 + n, h.2.1 + n + n * k, fun j => if j = h.1 then .inl (4, n, .inr (.inr (.inr (.inr (fun i => if i < n then some (h.1 + 1 + i) else none))))) else if h.1 < j then .inl (0, k, .inl (fun _ => 0)) else h.2.2 j)
section SIMM
variable {p : Program} {l : Launch} {e : Env} {R : Room} {s : State} {m : MethodId} {args : Array Value} {below : List Frame} {meth : Method} {c : Code} {H : Heap} {locs : List Loc} {cells slots : Nat} {Q : State → Prop} {cc : ByteArray}
variable {pc : Nat} {ls : Array Slot} {rest : List Value} {D : va_G} {cA : Nat → ClassId} {b : Nat} {o : Nat → Nat} {h : pH} {H0 : Heap} {own : String} {index : Nat} {a : Nat}
theorem s_mna (hexec : p.tables.exec = Jvm.exec) (hb : c.code = cc) (hown : s.vm.findClass own = some m.cls) (hclink : (Cond.classLink own index "[[I").before args s = true) (hover : (Cond.arrayOver (.array .int)).before #[] s = true) (harr : (Cond.arrayClass .int).before args s = true)
    (hK : va_K D vwCl (tysL cA) s) (hR : sRep D cA b o h H) (hS : va_S (fun q => b ≤ q) H0 H locs) {n k : Int32} (hn : ¬ n < 0) (hk : ¬ k < 0)
    (hb1 : n.toNatClampNeg * 4 ≤ 536870912) (hb2 : k.toNatClampNeg * 4 ≤ 536870912) (hcells : cells + (1 + n.toNatClampNeg) ≤ R.cells) (hslots : slots + (n.toNatClampNeg + n.toNatClampNeg * k.toNatClampNeg) ≤ R.slots) (hdg : decode cc pc = .ok (.multianewarray index 2, 4))
    (kk : ∀ H1 : Heap, sRep D cA b o (p_mna n.toNatClampNeg k.toNatClampNeg h) H1 → va_S (fun q => b ≤ q) H0 H1 locs → W p l e R s m args below meth c H1 locs (cells + 1 + n.toNatClampNeg) (slots + n.toNatClampNeg + n.toNatClampNeg * k.toNatClampNeg) Q (F0 m (pc + 4) ls (.ref (b + h.1) :: rest))) : W p l e R s m args below meth c H locs cells slots Q (F0 m pc ls (.int k :: .int n :: rest)) := by
  intro T hT Xs
  obtain ⟨vm₁, c4, comp, -, fA, fC, hO, -, X', step⟩ := Xs.multianewarray2F (ty := .int) hexec hown hclink hover harr (g := F0 m pc ls (.int k :: .int n :: rest)) rfl (by rw [hb]; exact hdg) rfl hn hk hb1 hb2 (by omega) rfl rfl hcells hslots
  generalize hF : Jvm.Free.Multi.fill (T.setVm vm₁) c4 comp n.toNatClampNeg k.toNatClampNeg (defaultValue .int) n.toNatClampNeg = F at X' step
  have hTh : (T.setVm vm₁).heap = H := hT
  obtain ⟨f1, f2, -, -⟩ := Jvm.Free.Multi.fill_facts (T.setVm vm₁) c4 comp n.toNatClampNeg k.toNatClampNeg (defaultValue .int) n.toNatClampNeg
  rw [hF, hTh] at f1 f2
  have hold : ∀ x : Nat, x < H.size → F.heap[x]? = H[x]? := fun x hx => by
    have := Jvm.Free.Multi.fill_old (T.setVm vm₁) c4 comp n.toNatClampNeg k.toNatClampNeg (defaultValue .int) (a := x) (by rw [hTh]; exact hx) n.toNatClampNeg
    rw [hF, hTh] at this
    exact this
  have hrow : ∀ j : Nat, j < n.toNatClampNeg → F.heap[H.size + 1 + j]? = some (Jvm.Free.Multi.innerC comp k.toNatClampNeg (defaultValue .int)) := fun j hj => by
    have := Jvm.Free.Multi.fill_inner (T.setVm vm₁) c4 comp n.toNatClampNeg k.toNatClampNeg (defaultValue .int) n.toNatClampNeg j hj
    rw [hF, hTh] at this
    exact this
  rw [vr_outer] at f2
  have e4 : c4 = cA 4 := Option.some.inj (fA.symm.trans (hK.2 4 _ rfl).2)
  have e0 : comp = cA 0 := Option.some.inj (fC.symm.trans (hK.2 0 _ rfl).2)
  have hz := hR.1
  have hRep : sRep D cA b o (p_mna n.toNatClampNeg k.toNatClampNeg h) F.heap := by
    refine ⟨by rw [f1, hz]; show b + h.1 + 1 + n.toNatClampNeg = b + (h.1 + 1 + n.toNatClampNeg); omega, fun j hj => ?_⟩
    have hj : j < h.1 + 1 + n.toNatClampNeg := hj
    show va_at D vwCl (b + j, rE b o cA (if j = h.1 then .inl (4, n.toNatClampNeg, .inr (.inr (.inr (.inr (fun i => if i < n.toNatClampNeg then some (h.1 + 1 + i) else none))))) else if h.1 < j then .inl (0, k.toNatClampNeg, .inl (fun _ => 0)) else h.2.2 j)) F.heap
    by_cases h1 : j = h.1
    · rw [if_pos h1, h1]
      show F.heap[b + h.1]? = some (vp_cell (cA 4) (n.toNatClampNeg, .inr (.inr (.inr (.inr (fun i => (if i < n.toNatClampNeg then some (h.1 + 1 + i) else none).map (fun q => b + q)))))))
      rw [← hz, f2, e4, vp_cell_q]
      congr 2
      funext i
      congr 1
      by_cases hi : i < n.toNatClampNeg
      · rw [if_pos hi, if_pos hi, hz]
        show some (b + h.1 + 1 + i) = some (b + (h.1 + 1 + i))
        congr 1
        omega
      · rw [if_neg hi, if_neg hi]
        rfl
    · rw [if_neg h1]
      by_cases h2 : h.1 < j
      · rw [if_pos h2]
        have h3 := hrow (j - (h.1 + 1)) (by omega)
        have h4 : H.size + 1 + (j - (h.1 + 1)) = b + j := by omega
        rw [h4, e0] at h3
        show F.heap[b + j]? = some (vp_cell (cA 0) (k.toNatClampNeg, .inl (fun _ => 0)))
        rw [h3, vp_cell_i]
        show some ({ cls := cA 0, slots := Array.replicate k.toNatClampNeg (.int 0), vm := .none } : Cell) = _
        rw [arrV_new]
      · rw [if_neg h2]
        exact (hR.2 j (by omega)).kept (hold (b + j) (by omega))
  obtain ⟨t, a1, b1⟩ := kk F.heap hRep ⟨by rw [f1]; have := hS.1; omega, fun x h1 h2 => (hold x (Nat.lt_of_lt_of_le h1 hS.1)).trans (hS.2.1 x h1 h2), hS.2.2⟩ F rfl X'
  refine ⟨t, step t ?_, b1⟩
  have e : T.heap.size = b + h.1 := by rw [hT, hz]
  rw [e]
  exact a1
end SIMM
end
section
/-! System.arraycopy between rows of ints, or of longs -/
def p_copy (st : List Value) (h : pH) : Option (List Value × pH) := match st with
  | .int n :: .int dp :: .ref a1 :: .int sp :: .ref a0 :: r => if ((a0 < h.1 ∧ a1 < h.1) ∧ (¬ sp < 0 ∧ ¬ dp < 0 ∧ ¬ n < 0)) ∧ (r.map fun v => v.category).sum ≤ 8 then (match h.2.2 a0 with
    | .inl (0, n0, .inl f) => match h.2.2 a1 with
      | .inl (0, n1, .inl g) => if sp.toNatClampNeg + n.toNatClampNeg ≤ n0 ∧ dp.toNatClampNeg + n.toNatClampNeg ≤ n1 then some (r, (h.1, h.2.1, p_up h.2.2 a1 (.inl (0, n1, .inl (va_cpy f g sp.toNatClampNeg dp.toNatClampNeg n.toNatClampNeg))))) else none
      | _ => none
    | .inl (1, n0, .inr (.inl f)) => match h.2.2 a1 with
      | .inl (1, n1, .inr (.inl g)) => if sp.toNatClampNeg + n.toNatClampNeg ≤ n0 ∧ dp.toNatClampNeg + n.toNatClampNeg ≤ n1 then some (r, (h.1, h.2.1, p_up h.2.2 a1 (.inl (1, n1, .inr (.inl (va_cpy f g sp.toNatClampNeg dp.toNatClampNeg n.toNatClampNeg)))))) else none
      | _ => none
    | _ => none) else none
  | _ => none
theorem gT_ac1 : Cond.native arraycopyName ∈ gT := gT_place (i := 1013) (by decide +kernel) (by decide +kernel)
theorem gT_ac2 : Cond.static arraycopyName ∈ gT := gT_place (i := 1012) (by decide +kernel) (by decide +kernel)
theorem gT_ac3 : Cond.initialized "java/lang/System" ∈ gT := gT_place (i := 112) (by decide +kernel) (by decide +kernel)
section SIMK
variable {p : Program} {l : Launch} {e : Env} {R : Room} {s : State} {m : MethodId} {args : Array Value} {below : List Frame} {meth : Method} {c : Code} {H : Heap} {locs : List Loc} {cells slots : Nat} {Q : State → Prop} {cc : ByteArray}
variable {pc : Nat} {ls : Array Slot} {rest : List Value} {D : va_G} {cA : Nat → ClassId} {b : Nat} {o : Nat → Nat} {h : pH} {H0 : Heap} {own : String} {index : Nat} {a0 a1 : Nat}
theorem p_nn : ∀ z : Int32, ¬ z < 0 → z.toInt = (z.toNatClampNeg : Int) := by
  intro z hz
  have hz0 : (0 : Int) ≤ z.toInt := by
    have := Int32.not_lt.mp hz
    simpa using Int32.le_iff_toInt_le.mp this
  show z.toInt = ((z.toInt.toNat : Nat) : Int)
  omega
theorem s_cpyi (hexec : p.tables.exec = Jvm.exec) (hb : c.code = cc) (hml : c.maxLocals = ls.size) (hts : ∀ w ∈ gT, w.before args s = true) (hown : s.vm.findClass own = some m.cls) (hlink : (Cond.methodLink own index arraycopyName).before args s = true)
    (hK : va_K D vwCl (tysL cA) s) (hR : sRep D cA b o h H) (hS : va_S (fun q => b ≤ q) H0 H locs) {n0 n1 : Nat} {f g : Nat → Int32} (q0 : a0 < h.1) (q1 : a1 < h.1) (he0 : h.2.2 a0 = .inl (0, n0, .inl f)) (he1 : h.2.2 a1 = .inl (0, n1, .inl g))
    {sp dp n : Int32} (h1 : ¬ sp < 0) (h2 : ¬ dp < 0) (h3 : ¬ n < 0) (h4 : sp.toNatClampNeg + n.toNatClampNeg ≤ n0) (h5 : dp.toNatClampNeg + n.toNatClampNeg ≤ n1)
    (hframes : 1 ≤ R.frames) (hlocals : (rest.map fun v => v.category).sum + 20 ≤ R.locals) (hdg : decode cc pc = .ok (.invokestatic index, 3))
    (kk : ∀ (H1 : Heap) (locs1 : List Loc), sRep D cA b o (h.1, h.2.1, p_up h.2.2 a1 (.inl (0, n1, .inl (va_cpy f g sp.toNatClampNeg dp.toNatClampNeg n.toNatClampNeg)))) H1 → va_S (fun q => b ≤ q) H0 H1 locs1 → W p l e R s m args below meth c H1 locs1 cells slots Q (F0 m (pc + 3) ls rest)) : W p l e R s m args below meth c H locs cells slots Q (F0 m pc ls (.int n :: .int dp :: .ref (b + a1) :: .int sp :: .ref (b + a0) :: rest)) := by
  have nn := p_nn
  have hnf : nativeFrameWords "java/lang/System" "arraycopy" 5 + 11 ≤ 20 := by decide
  intro T hT X
  have hc0 : H[b + a0]? = some (vp_cell (cA 0) (n0, .inl f)) := by
    have := hR.2 a0 q0
    rw [he0] at this
    exact this
  have hc1 : H[b + a1]? = some (vp_cell (cA 0) (n1, .inl g)) := by
    have := hR.2 a1 q1
    rw [he1] at this
    exact this
  obtain ⟨-, k0, hk0, cm0, hkk0⟩ := (hK.2 0 _ rfl).1 n0 (fun j => .int (f j))
  obtain ⟨-, k1, hk1, cm1, hkk1⟩ := (hK.2 0 _ rfl).1 n1 (fun j => .int (g j))
  obtain ⟨vm', X', step⟩ := X.arraycopy hexec hown hlink (hts _ gT_ac1) (hts _ gT_ac2) (hts _ gT_ac3) (src := b + a0) (dst := b + a1) (cs := vp_cell (cA 0) (n0, .inl f)) (cd := vp_cell (cA 0) (n1, .inl g)) (srcPos := sp) (destPos := dp) (n := n) (by rw [hT]; exact hc0) (by rw [hT]; exact hc1)
    (fun _ h => by cases h) (fun _ h => by cases h) (fun h => by cases h) (fun h => by cases h) hk0 hk1 hkk0 hkk1 (by simp [refKind]) h1 h2 h3
    (by rw [nn sp h1, nn n h3]; show ¬ _ > ((arrV (cA 0) n0 (fun j => .int (f j))).slots.size : Int); rw [arrV_size]; omega)
    (by rw [nn dp h2, nn n h3]; show ¬ _ > ((arrV (cA 0) n1 (fun j => .int (g j))).slots.size : Int); rw [arrV_size]; omega)
    (fun vm₁ _ i hi => by
      have e : (vp_cell (cA 0) (n0, .inl f)).slots.getD (sp.toNatClampNeg + i) .null = .int (f (sp.toNatClampNeg + i)) := by
        show (arrV (cA 0) n0 (fun j => .int (f j))).slots.getD _ _ = _
        rw [Array.getD_eq_getD_getElem?, arrV_read _ _ (by omega)]
        rfl
      refine ⟨?_, ?_⟩
      · rw [e]
        rfl
      · rw [e]
        exact trivial)
    (g := F0 m pc ls (.int n :: .int dp :: .ref (b + a1) :: .int sp :: .ref (b + a0) :: rest)) rfl (by rw [hml]) (rest := rest) rfl (by rw [hb]; exact hdg) hframes (by show 2 * 0 + _ + _ ≤ _; omega)
  have e1 : copied (vp_cell (cA 0) (n0, .inl f)) (vp_cell (cA 0) (n1, .inl g)) sp dp n = vp_cell (cA 0) (n1, .inl (va_cpy f g sp.toNatClampNeg dp.toNatClampNeg n.toNatClampNeg)) := va_copied (fun z => .int z) (cA 0) (cA 0) f g h4
  rw [e1] at X' step
  have hl : b + a1 < H.size := (Array.getElem?_eq_some_iff.mp hc1).1
  have hheap : ((T.setVm vm').setCell (b + a1) (vp_cell (cA 0) (n1, .inl (va_cpy f g sp.toNatClampNeg dp.toNatClampNeg n.toNatClampNeg)))).heap = H.setIfInBounds (b + a1) (vp_cell (cA 0) (n1, .inl (va_cpy f g sp.toNatClampNeg dp.toNatClampNeg n.toNatClampNeg))) := by rw [← hT]; rfl
  have oq : ∀ q : Nat, q ≠ b + a1 → (H.setIfInBounds (b + a1) (vp_cell (cA 0) (n1, .inl (va_cpy f g sp.toNatClampNeg dp.toNatClampNeg n.toNatClampNeg))))[q]? = H[q]? := fun q hq => by simp [Array.getElem?_setIfInBounds, Ne.symm hq]
  obtain ⟨t, x1, y1⟩ := kk _ _ (hR.set (by simp) oq (show (H.setIfInBounds (b + a1) _)[b + a1]? = some _ by simp [Array.getElem?_setIfInBounds, hl]; rfl)) ⟨by simp; exact hS.1, fun q g1 g2 => by
      rw [oq q (fun e => g2 (by rw [e]; exact Nat.le_add_right b a1))]
      exact hS.2.1 q g1 g2, fun q hq => by
      rcases List.mem_append.mp hq with h | h
      · exact hS.2.2 q h
      · obtain ⟨z, -, hz⟩ := List.mem_map.mp h
        rw [← hz]
        exact Nat.le_add_right b a1⟩ _ hheap X'
  exact ⟨t, step t x1, y1⟩
theorem s_cpyl (hexec : p.tables.exec = Jvm.exec) (hb : c.code = cc) (hml : c.maxLocals = ls.size) (hts : ∀ w ∈ gT, w.before args s = true) (hown : s.vm.findClass own = some m.cls) (hlink : (Cond.methodLink own index arraycopyName).before args s = true)
    (hK : va_K D vwCl (tysL cA) s) (hR : sRep D cA b o h H) (hS : va_S (fun q => b ≤ q) H0 H locs) {n0 n1 : Nat} {f g : Nat → Int64} (q0 : a0 < h.1) (q1 : a1 < h.1) (he0 : h.2.2 a0 = .inl (1, n0, .inr (.inl f))) (he1 : h.2.2 a1 = .inl (1, n1, .inr (.inl g)))
    {sp dp n : Int32} (h1 : ¬ sp < 0) (h2 : ¬ dp < 0) (h3 : ¬ n < 0) (h4 : sp.toNatClampNeg + n.toNatClampNeg ≤ n0) (h5 : dp.toNatClampNeg + n.toNatClampNeg ≤ n1)
    (hframes : 1 ≤ R.frames) (hlocals : (rest.map fun v => v.category).sum + 20 ≤ R.locals) (hdg : decode cc pc = .ok (.invokestatic index, 3))
    (kk : ∀ (H1 : Heap) (locs1 : List Loc), sRep D cA b o (h.1, h.2.1, p_up h.2.2 a1 (.inl (1, n1, .inr (.inl (va_cpy f g sp.toNatClampNeg dp.toNatClampNeg n.toNatClampNeg))))) H1 → va_S (fun q => b ≤ q) H0 H1 locs1 → W p l e R s m args below meth c H1 locs1 cells slots Q (F0 m (pc + 3) ls rest)) : W p l e R s m args below meth c H locs cells slots Q (F0 m pc ls (.int n :: .int dp :: .ref (b + a1) :: .int sp :: .ref (b + a0) :: rest)) := by
  have nn := p_nn
  have hnf : nativeFrameWords "java/lang/System" "arraycopy" 5 + 11 ≤ 20 := by decide
  intro T hT X
  have hc0 : H[b + a0]? = some (vp_cell (cA 1) (n0, .inr (.inl f))) := by
    have := hR.2 a0 q0
    rw [he0] at this
    exact this
  have hc1 : H[b + a1]? = some (vp_cell (cA 1) (n1, .inr (.inl g))) := by
    have := hR.2 a1 q1
    rw [he1] at this
    exact this
  obtain ⟨-, k0, hk0, cm0, hkk0⟩ := (hK.2 1 _ rfl).1 n0 (fun j => .long (f j))
  obtain ⟨-, k1, hk1, cm1, hkk1⟩ := (hK.2 1 _ rfl).1 n1 (fun j => .long (g j))
  obtain ⟨vm', X', step⟩ := X.arraycopy hexec hown hlink (hts _ gT_ac1) (hts _ gT_ac2) (hts _ gT_ac3) (src := b + a0) (dst := b + a1) (cs := vp_cell (cA 1) (n0, .inr (.inl f))) (cd := vp_cell (cA 1) (n1, .inr (.inl g))) (srcPos := sp) (destPos := dp) (n := n) (by rw [hT]; exact hc0) (by rw [hT]; exact hc1)
    (fun _ h => by cases h) (fun _ h => by cases h) (fun h => by cases h) (fun h => by cases h) hk0 hk1 hkk0 hkk1 (by simp [refKind]) h1 h2 h3
    (by rw [nn sp h1, nn n h3]; show ¬ _ > ((arrV (cA 1) n0 (fun j => .long (f j))).slots.size : Int); rw [arrV_size]; omega)
    (by rw [nn dp h2, nn n h3]; show ¬ _ > ((arrV (cA 1) n1 (fun j => .long (g j))).slots.size : Int); rw [arrV_size]; omega)
    (fun vm₁ _ i hi => by
      have e : (vp_cell (cA 1) (n0, .inr (.inl f))).slots.getD (sp.toNatClampNeg + i) .null = .long (f (sp.toNatClampNeg + i)) := by
        show (arrV (cA 1) n0 (fun j => .long (f j))).slots.getD _ _ = _
        rw [Array.getD_eq_getD_getElem?, arrV_read _ _ (by omega)]
        rfl
      refine ⟨?_, ?_⟩
      · rw [e]
        rfl
      · rw [e]
        exact trivial)
    (g := F0 m pc ls (.int n :: .int dp :: .ref (b + a1) :: .int sp :: .ref (b + a0) :: rest)) rfl (by rw [hml]) (rest := rest) rfl (by rw [hb]; exact hdg) hframes (by show 2 * 0 + _ + _ ≤ _; omega)
  have e1 : copied (vp_cell (cA 1) (n0, .inr (.inl f))) (vp_cell (cA 1) (n1, .inr (.inl g))) sp dp n = vp_cell (cA 1) (n1, .inr (.inl (va_cpy f g sp.toNatClampNeg dp.toNatClampNeg n.toNatClampNeg))) := va_copied (fun z => .long z) (cA 1) (cA 1) f g h4
  rw [e1] at X' step
  have hl : b + a1 < H.size := (Array.getElem?_eq_some_iff.mp hc1).1
  have hheap : ((T.setVm vm').setCell (b + a1) (vp_cell (cA 1) (n1, .inr (.inl (va_cpy f g sp.toNatClampNeg dp.toNatClampNeg n.toNatClampNeg))))).heap = H.setIfInBounds (b + a1) (vp_cell (cA 1) (n1, .inr (.inl (va_cpy f g sp.toNatClampNeg dp.toNatClampNeg n.toNatClampNeg)))) := by rw [← hT]; rfl
  have oq : ∀ q : Nat, q ≠ b + a1 → (H.setIfInBounds (b + a1) (vp_cell (cA 1) (n1, .inr (.inl (va_cpy f g sp.toNatClampNeg dp.toNatClampNeg n.toNatClampNeg)))))[q]? = H[q]? := fun q hq => by simp [Array.getElem?_setIfInBounds, Ne.symm hq]
  obtain ⟨t, x1, y1⟩ := kk _ _ (hR.set (by simp) oq (show (H.setIfInBounds (b + a1) _)[b + a1]? = some _ by simp [Array.getElem?_setIfInBounds, hl]; rfl)) ⟨by simp; exact hS.1, fun q g1 g2 => by
      rw [oq q (fun e => g2 (by rw [e]; exact Nat.le_add_right b a1))]
      exact hS.2.1 q g1 g2, fun q hq => by
      rcases List.mem_append.mp hq with h | h
      · exact hS.2.2 q h
      · obtain ⟨z, -, hz⟩ := List.mem_map.mp h
        rw [← hz]
        exact Nat.le_add_right b a1⟩ _ hheap X'
  exact ⟨t, step t x1, y1⟩
theorem p_copy_mono {st r : List Value} {h' : pH} (hs : p_copy st h = some (r, h')) : h.1 ≤ h'.1 ∧ h.2.1 ≤ h'.2.1 := by
  have key : ∀ {y : List Value × pH}, some y = some (r, h') → (h.1 ≤ y.2.1 ∧ h.2.1 ≤ y.2.2.1) → h.1 ≤ h'.1 ∧ h.2.1 ≤ h'.2.1 := by
    intro y hy hz
    cases hy
    exact hz
  unfold p_copy at hs
  repeat' split at hs
  all_goals first
    | exact key hs ⟨Nat.le_refl _, Nat.le_refl _⟩
    | cases hs
theorem s_copy {st r : List Value} {h' : pH} (hexec : p.tables.exec = Jvm.exec) (hb : c.code = cc) (hml : c.maxLocals = ls.size) (hts : ∀ w ∈ gT, w.before args s = true) (hown : s.vm.findClass own = some m.cls) (hlink : (Cond.methodLink own index arraycopyName).before args s = true)
    (hK : va_K D vwCl (tysL cA) s) (hR : sRep D cA b o h H) (hS : va_S (fun q => b ≤ q) H0 H locs) (hframes : 1 ≤ R.frames) (hlocals : 40 ≤ R.locals) (hdg : decode cc pc = .ok (.invokestatic index, 3)) (hs : p_copy st h = some (r, h'))
    (kk : ∀ (H1 : Heap) (locs1 : List Loc), h'.1 = h.1 ∧ h'.2.1 = h.2.1 → sRep D cA b o h' H1 → va_S (fun q => b ≤ q) H0 H1 locs1 → W p l e R s m args below meth c H1 locs1 cells slots Q (F0 m (pc + 3) ls (rS b o r))) : W p l e R s m args below meth c H locs cells slots Q (F0 m pc ls (rS b o st)) := by
  unfold p_copy at hs
  split at hs
  · rename_i n dp a1 sp a0 r0
    split at hs
    · rename_i hg
      obtain ⟨⟨⟨g1, g2⟩, g3, g4, g5⟩, g6⟩ := hg
      have hroom : ((rS b o r0).map fun v => v.category).sum + 20 ≤ R.locals := by
        have e1 : ((rS b o r0).map fun v => v.category).sum = (r0.map fun v => v.category).sum := by
          unfold rS
          rw [List.map_map]
          congr 1
          apply List.map_congr_left
          intro v _
          exact rV_cat b o v
        omega
      split at hs
      · rename_i n0 f he0
        split at hs
        · rename_i n1 g he1
          split at hs
          · rename_i hz
            cases hs
            exact s_cpyi hexec hb hml hts hown hlink hK hR hS g1 g2 he0 he1 g3 g4 g5 hz.1 hz.2 hframes hroom hdg (fun H1 locs1 z1 z2 => kk H1 locs1 ⟨rfl, rfl⟩ z1 z2)
          · cases hs
        · cases hs
      · rename_i n0 f he0
        split at hs
        · rename_i n1 g he1
          split at hs
          · rename_i hz
            cases hs
            exact s_cpyl hexec hb hml hts hown hlink hK hR hS g1 g2 he0 he1 g3 g4 g5 hz.1 hz.2 hframes hroom hdg (fun H1 locs1 z1 z2 => kk H1 locs1 ⟨rfl, rfl⟩ z1 z2)
          · cases hs
        · cases hs
      · cases hs
    · cases hs
  · cases hs
end SIMK
end
section
/-! THE SMALL MACHINE RUNS: the cells that were there before, steps, runs, calls. -/
/-- static fields that nobody writes, and what they hold -/
def stL : List (String × String × String × Value) := [("java/lang/String", "COMPACT_STRINGS", "Z", .int 1), ("jdk/internal/util/Preconditions", "SIOOBE_FORMATTER", "Ljava/util/function/BiFunction;", .float 0)]
def stOwn (i : Nat) : String := match i with
  | 0 => "TurnHouse$Tokens"
  | 1 => "TurnHouse$Reader"
  | _ => "TurnHouse$Tokens"
def stIdx (i : Nat) : Nat := match i with
  | 0 => 15
  | 1 => 11
  | _ => 101
def stTx (i : Nat) : String := match i with
  | 0 => "cas add lock unlock wait wake wakeall start join fence halt assert call reply if while else cell volatile thread later into always never may must leads fair ended wrong waits held stuck"
  | 1 => "write read plus push pop put get"
  | _ => "{}();,=+-*<>&|!."
/-- the bytes of the String constants -/
def stBy (i : Nat) : List Int32 := match i with
  | 0 => [99, 97, 115, 32, 97, 100, 100, 32, 108, 111, 99, 107, 32, 117, 110, 108, 111, 99, 107, 32, 119, 97, 105, 116, 32, 119, 97, 107, 101, 32, 119, 97, 107, 101, 97, 108, 108, 32, 115, 116, 97, 114, 116, 32, 106, 111, 105, 110, 32, 102, 101, 110, 99, 101, 32, 104, 97, 108, 116, 32, 97, 115, 115, 101, 114, 116, 32, 99, 97, 108, 108, 32, 114, 101, 112, 108, 121, 32, 105, 102, 32, 119, 104, 105, 108, 101, 32, 101, 108, 115, 101, 32, 99, 101, 108, 108, 32, 118, 111, 108, 97, 116, 105, 108, 101, 32, 116, 104, 114, 101, 97, 100, 32, 108, 97, 116, 101, 114, 32, 105, 110, 116, 111, 32, 97, 108, 119, 97, 121, 115, 32, 110, 101, 118, 101, 114, 32, 109, 97, 121, 32, 109, 117, 115, 116, 32, 108, 101, 97, 100, 115, 32, 102, 97, 105, 114, 32, 101, 110, 100, 101, 100, 32, 119, 114, 111, 110, 103, 32, 119, 97, 105, 116, 115, 32, 104, 101, 108, 100, 32, 115, 116, 117, 99, 107]
  | 1 => [119, 114, 105, 116, 101, 32, 114, 101, 97, 100, 32, 112, 108, 117, 115, 32, 112, 117, 115, 104, 32, 112, 111, 112, 32, 112, 117, 116, 32, 103, 101, 116]
  | _ => [123, 125, 40, 41, 59, 44, 61, 43, 45, 42, 60, 62, 38, 124, 33, 46]
/-- links between nest mates: not among the words that stay by themselves -/
def nestL : List Cond := [.methodLinkNest "TurnHouse" 9 ⟨"TurnHouse$Tokens", "<init>", "()V"⟩ "TurnHouse", .methodLinkNest "TurnHouse" 44 ⟨"TurnHouse$Turns", "<init>", "()V"⟩ "TurnHouse", .methodLinkNest "TurnHouse$Turns" 11 ⟨"TurnHouse$Machine", "<init>", "()V"⟩ "TurnHouse", .methodLinkNest "TurnHouse$Turns" 20 ⟨"TurnHouse$Findings", "<init>", "()V"⟩ "TurnHouse", .methodLinkNest "TurnHouse" 72 ⟨"TurnHouse$Run", "<init>", "()V"⟩ "TurnHouse", .methodLinkNest "TurnHouse$Run" 11 ⟨"TurnHouse$Machine", "<init>", "()V"⟩ "TurnHouse", .methodLinkNest "TurnHouse" 79 ⟨"TurnHouse$History", "<init>", "()V"⟩ "TurnHouse"]
/-- the script: how long it is, what it holds -/
abbrev pN : Type := Nat × (Nat → Int32)
/-- the arrays that were there before: the script, the String constants' bytes, two static arrays -/
def oArr (en : pN) (i : Nat) : Option (Nat × Nat × (Nat → Int32)) := match i with
  | 0 => some (0, en.1, en.2)
  | 4 => some (3, (stBy 0).length, fun j => (stBy 0).getD j 0)
  | 5 => some (3, (stBy 1).length, fun j => (stBy 1).getD j 0)
  | 6 => some (3, (stBy 2).length, fun j => (stBy 2).getD j 0)
  | _ => none
def sEnv (en : pN) (b : Nat) (o : Nat → Nat) (U : State) (H : Heap) : Prop :=
  (∀ (i t n : Nat) (f : Nat → Int32), oArr en i = some (t, n, f) → va_T (aTy t) (o i) n (fun j => .int (f j)) (fun q => b ≤ q) U H) ∧
  (∀ i : Nat, i < 3 → va_O "java/lang/String" (o (i + 1)) (fun q => b ≤ q) U H ∧ va_OF "java/lang/String" "coder" "B" (.int 0) (o (i + 1)) (fun q => b ≤ q) U H ∧ va_OF "java/lang/String" "value" "[B" (.ref (o (i + 4))) (o (i + 1)) (fun q => b ≤ q) U H ∧ vk_R (stOwn i) (stIdx i) (stTx i) (o (i + 1)) U) ∧
  (∀ q ∈ stL, va_Z q.1 q.2.1 q.2.2.1 (rV b o q.2.2.2) (fun q => b ≤ q) U H) ∧
  (∀ w ∈ nestL, va_Nw w U) ∧ (Cond.arrayOver (.array .int)).before #[] U = true
theorem sEnv.warm {en : pN} {b : Nat} {o : Nat → Nat} {s U : State} {H : Heap} (hW : s.WarmedH U.vm) (h : sEnv en b o s s.heap) (hk : ∀ q : Nat, q < s.heap.size → ¬ b ≤ q → H[q]? = s.heap[q]?) (hao : (Cond.arrayOver (.array .int)).before #[] U = true) : sEnv en b o U H := by
  obtain ⟨h1, h2, h3, h4, -⟩ := h
  refine ⟨fun i t n f hi => (va_T.moved hW.alike (h1 i t n f hi)).kept hk, fun i hi => ?_, fun q hq => (va_Z.moved hW.alike (h3 q hq)).kept hk, fun w hw => ?_, hao⟩
  · obtain ⟨g1, g2, g3, g4⟩ := h2 i hi
    exact ⟨(va_O.moved hW.alike g1).kept hk, (va_OF.moved hW.alike g2).kept hk, (va_OF.moved hW.alike g3).kept hk, vk_R.warm hW g4⟩
  · have hz := h4 w hw
    simp only [nestL, List.mem_cons, List.not_mem_nil, or_false] at hw
    rcases hw with rfl | rfl | rfl | rfl | rfl | rfl | rfl <;> exact va_Nw.warmM hW hz
theorem sEnv.same {en : pN} {b : Nat} {o : Nat → Nat} {u U : State} (hv : U.vm = u.vm) (hh : U.heap = u.heap) (h : sEnv en b o u u.heap) : sEnv en b o U U.heap := by
  have hA : u.vm.Alike U.vm := by rw [hv]; exact Vm.Alike.refl _
  obtain ⟨h1, h2, h3, h4, h5⟩ := h
  rw [hh]
  refine ⟨fun i t n f hi => va_T.moved hA (h1 i t n f hi), fun i hi => ?_, fun q hq => va_Z.moved hA (h3 q hq), fun w hw => ?_, ?_⟩
  · obtain ⟨g1, g2, g3, g4⟩ := h2 i hi
    exact ⟨va_O.moved hA g1, va_OF.moved hA g2, va_OF.moved hA g3, vk_R.same hv g4⟩
  · have hz := h4 w hw
    simp only [nestL, List.mem_cons, List.not_mem_nil, or_false] at hw
    rcases hw with rfl | rfl | rfl | rfl | rfl | rfl | rfl <;> exact va_Nw.same rfl hv.symm hz
  · first
      | (unfold Cond.before Cond.holds at h5 ⊢; simp only [Cond.value, hv] at h5 ⊢; exact h5)
      | (simp only [Cond.before, Cond.holds, Cond.value, hv] at h5 ⊢; exact h5)
/-- a method: name, code, locals, what it returns, how many arguments, kind (0 of an object, 1 static, 2 a constructor), its class's number (13: String), places of its words, its instructions -/
abbrev pM : Type := MethodName × ByteArray × Nat × Option FieldType × Nat × Nat × Nat × (Nat × Nat × Nat × Nat) × List pI
def p_find (tab : List pI) (pc : Nat) : Option (Instr × Nat × pX) := match tab with
  | [] => none
  | q :: r => if q.1 = pc then some q.2 else p_find r pc
theorem p_find_mem {tab : List pI} {pc : Nat} {q : Instr × Nat × pX} (h : p_find tab pc = some q) : (pc, q) ∈ tab := by
  induction tab with
  | nil => cases h
  | cons x r ih =>
    unfold p_find at h
    by_cases hq : x.1 = pc
    · rw [if_pos hq] at h
      cases h
      subst hq
      exact List.mem_cons_self
    · rw [if_neg hq] at h
      exact List.mem_cons_of_mem _ (ih h)
def p_inB (i : Int32) (n : Nat) : Bool := decide (¬ (i < 0 ∨ n ≤ i.toNatClampNeg))
def p_nar (v x : Int32) : Int32 := v
/-- instructions that read or write cells -/
def pstepH (en : pN) (pc : Nat) (i : Instr) (x : pX) (ls : List (Nat × Value)) (st : List Value) (h : pH) : Option (pF × pH) := match i with
  | .getfield _ => match st with
    | .ref a :: r => match h.2.2 a with
      | .inr (ci, fs) => if a < h.1 ∧ x.1 = (ci : Int) then (match fs[x.2.1]? with
        | some v => some ((pc + 3, ls, v :: r), h)
        | none => none) else none
      | _ => none
    | .retAddr q :: r => if (1 ≤ q ∧ q ≤ 3) ∧ x.1 = -1 then (if x.2.1 = 0 then some ((pc + 3, ls, .int 0 :: r), h) else some ((pc + 3, ls, .retAddr (q + 3) :: r), h)) else none
    | _ => none
  | .putfield _ => match st with
    | v :: .ref a :: r => match h.2.2 a with
      | .inr (ci, fs) => if (a < h.1 ∧ x.1 = (ci : Int)) ∧ (x.2.1 < fs.length ∧ p_fit (clTy ci x.2.1) v = true) then some ((pc + 3, ls, r), (h.1, h.2.1, p_up h.2.2 a (.inr (ci, fs.set x.2.1 v)))) else none
      | _ => none
    | _ => none
  | .getstatic _ => match stL[x.2.1]? with
    | some q => some ((pc + 3, ls, q.2.2.2 :: st), h)
    | none => none
  | .iaload => match st with
    | .int i :: .ref a :: r => match h.2.2 a with
      | .inl (0, n, .inl f) => if a < h.1 ∧ p_inB i n = true then some ((pc + 1, ls, .int (f i.toNatClampNeg) :: r), h) else none
      | _ => none
    | .int i :: .retAddr q :: r => match oArr en q with
      | some (0, n, f) => if p_inB i n = true then some ((pc + 1, ls, .int (f i.toNatClampNeg) :: r), h) else none
      | _ => none
    | _ => none
  | .laload => match st with
    | .int i :: .ref a :: r => match h.2.2 a with
      | .inl (1, n, .inr (.inl f)) => if a < h.1 ∧ p_inB i n = true then some ((pc + 1, ls, .long (f i.toNatClampNeg) :: r), h) else none
      | _ => none
    | _ => none
  | .baload => match st with
    | .int i :: .ref a :: r => match h.2.2 a with
      | .inl (2, n, .inl f) => if a < h.1 ∧ p_inB i n = true then some ((pc + 1, ls, .int (f i.toNatClampNeg) :: r), h) else none
      | .inl (3, n, .inl f) => if a < h.1 ∧ p_inB i n = true then some ((pc + 1, ls, .int (f i.toNatClampNeg) :: r), h) else none
      | _ => none
    | .int i :: .retAddr q :: r => match oArr en q with
      | some (3, n, f) => if p_inB i n = true then some ((pc + 1, ls, .int (f i.toNatClampNeg) :: r), h) else none
      | _ => none
    | _ => none
  | .aaload => match st with
    | .int i :: .ref a :: r => match h.2.2 a with
      | .inl (4, n, .inr (.inr (.inr (.inr f)))) => match f i.toNatClampNeg with
        | some q => if a < h.1 ∧ p_inB i n = true then some ((pc + 1, ls, .ref q :: r), h) else none
        | none => none
      | _ => none
    | _ => none
  | .arraylength => match st with
    | .ref a :: r => match h.2.2 a with
      | .inl (t, y) => if a < h.1 ∧ t < 5 then some ((pc + 1, ls, .int (Int32.ofNat y.1) :: r), h) else none
      | _ => none
    | .retAddr q :: r => match oArr en q with
      | some (_, n, _) => some ((pc + 1, ls, .int (Int32.ofNat n) :: r), h)
      | none => none
    | _ => none
  | .iastore => match st with
    | .int v :: .int i :: .ref a :: r => match h.2.2 a with
      | .inl (0, n, .inl f) => if a < h.1 ∧ p_inB i n = true then some ((pc + 1, ls, r), (h.1, h.2.1, p_up h.2.2 a (.inl (0, n, .inl (upd f i.toNatClampNeg v))))) else none
      | _ => none
    | _ => none
  | .lastore => match st with
    | .long v :: .int i :: .ref a :: r => match h.2.2 a with
      | .inl (1, n, .inr (.inl f)) => if a < h.1 ∧ p_inB i n = true then some ((pc + 1, ls, r), (h.1, h.2.1, p_up h.2.2 a (.inl (1, n, .inr (.inl (vp_updL f i.toNatClampNeg v)))))) else none
      | _ => none
    | _ => none
  | .bastore => match st with
    | .int v :: .int i :: .ref a :: r => match h.2.2 a with
      | .inl (2, n, .inl f) => if a < h.1 ∧ p_inB i n = true then some ((pc + 1, ls, r), (h.1, h.2.1, p_up h.2.2 a (.inl (2, n, .inl (upd f i.toNatClampNeg (vp_nar .boolean v)))))) else none
      | .inl (3, n, .inl f) => if a < h.1 ∧ p_inB i n = true then some ((pc + 1, ls, r), (h.1, h.2.1, p_up h.2.2 a (.inl (3, n, .inl (upd f i.toNatClampNeg (vp_nar .byte v)))))) else none
      | _ => none
    | _ => none
  | .new _ => match vwCl[x.1.toNat]? with
    | some r => some ((pc + 3, ls, .ref h.1 :: st), (h.1 + 1, h.2.1 + r.2.2, p_up h.2.2 h.1 (.inr (x.1.toNat, p_dfl x.1.toNat r.2.2))))
    | none => none
  | .newarray t => match p_aty t, st with
    | some k, .int n :: r => if ¬ n < 0 ∧ n.toNatClampNeg * 8 ≤ 536870912 then some ((pc + 2, ls, .ref h.1 :: r), (h.1 + 1, h.2.1 + n.toNatClampNeg, p_up h.2.2 h.1 (.inl (k, n.toNatClampNeg, p_zero k)))) else none
    | _, _ => none
  | .multianewarray _ dd => match st with
    | .int k :: .int n :: r => if (dd = 2 ∧ ¬ n < 0 ∧ ¬ k < 0) ∧ (n.toNatClampNeg * 4 ≤ 536870912 ∧ k.toNatClampNeg * 4 ≤ 536870912) then some ((pc + 4, ls, .ref h.1 :: r), p_mna n.toNatClampNeg k.toNatClampNeg h) else none
    | _ => none
  | .ldc _ => if x.2.1 = 0 then some ((pc + 2, ls, .int (Int32.ofInt x.1) :: st), h) else some ((pc + 2, ls, .retAddr x.2.1 :: st), h)
  | .ldc_w _ => some ((pc + 3, ls, .int (Int32.ofInt x.1) :: st), h)
  | .ldc2_w _ => some ((pc + 3, ls, .long (Int64.ofInt x.1) :: st), h)
  | _ => none
/-- a word of the tables, by its place -/
def wd (i : Nat) (w : Cond) : Bool := decide (lw_tbl[i]? = some w) && goodWord w
theorem wd_in {i : Nat} {w : Cond} (h : wd i w = true) : w ∈ gT := by
  obtain ⟨h1, h2⟩ := (Bool.and_eq_true _ _).mp h
  exact gT_place (of_decide_eq_true h1) h2
/-- places of 'can be made' and 'initialised' of each class -/
def clP (ci : Nat) : Nat × Nat := match ci with
  | 0 => (455, 104)
  | 1 => (663, 108)
  | 2 => (591, 106)
  | 3 => (393, 103)
  | 4 => (224, 99)
  | 5 => (249, 100)
  | 6 => (333, 101)
  | 7 => (483, 105)
  | 8 => (635, 107)
  | 9 => (122, 94)
  | 10 => (387, 102)
  | _ => (114, 93)
/-- what an instruction is linked to, by the tables -/
def lnk (own : String) (init : Bool) (i : Instr) (x : pX) : Bool := match i with
  | .getfield idx => if x.1 = -1 then (if x.2.1 = 0 then wd x.2.2 (.fieldLink own idx "java/lang/String" "coder" "B") else wd x.2.2 (.fieldLink own idx "java/lang/String" "value" "[B")) else (match vwCl[x.1.toNat]? with
    | some r => decide (x.2.1 < r.2.2) && wd x.2.2 (.fieldLink own idx (r.2.1 x.2.1).1 (r.2.1 x.2.1).2.1 (r.2.1 x.2.1).2.2.1)
    | none => false)
  | .putfield idx => match vwCl[x.1.toNat]? with
    | some r => decide (x.2.1 < r.2.2) && (wd x.2.2 (.fieldLink own idx (r.2.1 x.2.1).1 (r.2.1 x.2.1).2.1 (r.2.1 x.2.1).2.2.1) && (decide ((r.2.1 x.2.1).2.2.2 = false) || (decide ((r.2.1 x.2.1).2.2.2 = true) && (init && decide ((r.2.1 x.2.1).1 = own)))))
    | none => false
  | .getstatic idx => match stL[x.2.1]? with
    | some q => wd x.2.2 (.fieldLink own idx q.1 q.2.1 q.2.2.1)
    | none => false
  | .ldc idx => if x.2.1 = 0 then wd x.2.2 (.constant own idx (Int32.ofInt x.1)) else decide (x.2.1 ≤ 3) && (decide (stOwn (x.2.1 - 1) = own) && decide (stIdx (x.2.1 - 1) = idx))
  | .ldc_w idx => wd x.2.2 (.constant own idx (Int32.ofInt x.1))
  | .ldc2_w idx => wd x.2.2 (.constantLong own idx (Int64.ofInt x.1))
  | .new idx => match vwCl[x.1.toNat]? with
    | some r => wd x.2.2 (.classLink own idx r.1) && (wd (clP x.1.toNat).1 (.instantiable r.1 r.2.2) && wd (clP x.1.toNat).2 (.initialized r.1))
    | none => false
  | .newarray t => match p_aty t with
    | some k => wd x.2.2 (.arrayClass (aTy k))
    | none => false
  | .multianewarray idx dd => decide (dd = 2) && (wd x.2.2 (.classLink own idx "[[I") && wd x.2.1 (.arrayClass .int))
  | _ => true
section SIMS
variable {p : Program} {l : Launch} {e : Env} {R : Room} {s : State} {m : MethodId} {args : Array Value} {below : List Frame} {meth : Method} {c : Code} {H : Heap} {locs : List Loc} {cells slots : Nat} {Q : State → Prop} {cc : ByteArray}
theorem p_inB_spec {i : Int32} {n : Nat} (h : p_inB i n = true) : vp_in i n := by
  unfold p_inB at h
  show ¬ (i < 0 ∨ n ≤ i.toNatClampNeg)
  exact of_decide_eq_true h
/-- the count of cells and of slots never falls -/
theorem pstepH_mono {en : pN} {pc : Nat} {i : Instr} {x : pX} {ls : List (Nat × Value)} {st : List Value} {h h' : pH} {f' : pF} (hs : pstepH en pc i x ls st h = some (f', h')) : h.1 ≤ h'.1 ∧ h.2.1 ≤ h'.2.1 := by
  have key : ∀ {y : pF × pH}, some y = some (f', h') → (h.1 ≤ y.2.1 ∧ h.2.1 ≤ y.2.2.1) → h.1 ≤ h'.1 ∧ h.2.1 ≤ h'.2.1 := by
    intro y hy hz
    cases hy
    exact hz
  unfold pstepH at hs
  repeat' split at hs
  all_goals first
    | exact key hs ⟨Nat.le_refl _, Nat.le_refl _⟩
    | exact key hs ⟨Nat.le_succ _, Nat.le_add_right _ _⟩
    | exact key hs ⟨by show h.1 ≤ h.1 + 1 + _; omega, by show h.2.1 ≤ h.2.1 + _ + _; omega⟩
    | cases hs
theorem sH {D : va_G} {cA : Nat → ClassId} {en : pN} {b : Nat} {o : Nat → Nat} {own : String} {init : Bool} {nL pc len : Nat} {i : Instr} {x : pX} {ls ls' : List (Nat × Value)} {st st' : List Value} {h h' : pH} {pc' : Nat} {LS : Array Slot} {c0 n0 : Nat}
    (hx : p.tables.exec = Jvm.exec) (hb : c.code = cc) (hts : ∀ w ∈ gT, w.before args s = true) (hown : s.vm.findClass own = some m.cls) (hK : va_K D vwCl (tysL cA) s) (hE : sEnv en b o s s.heap) (hinit : init = true → meth.name = "<init>")
    (hR : sRep D cA b o h H) (hS : va_S (fun q => b ≤ q) s.heap H locs) (hdg : decode cc pc = .ok (i, len)) (hok : p_ok nL pc i len = true) (hlk : lnk own init i x = true) (hl : lv_has LS nL (rL b o ls)) (hs : pstepH en pc i x ls st h = some ((pc', ls', st'), h'))
    (hc0 : c0 ≤ h.1) (hn0 : n0 ≤ h.2.1) (hcR : h'.1 - c0 ≤ R.cells) (hnR : h'.2.1 - n0 ≤ R.slots)
    (k : ∀ (H1 : Heap) (locs1 : List Loc), sRep D cA b o h' H1 → va_S (fun q => b ≤ q) s.heap H1 locs1 → lv_has LS nL (rL b o ls') → W p l e R s m args below meth c H1 locs1 (h'.1 - c0) (h'.2.1 - n0) Q (F0 m pc' LS (rS b o st'))) : W p l e R s m args below meth c H locs (h.1 - c0) (h.2.1 - n0) Q (F0 m pc LS (rS b o st)) := by
  cases i
  case getfield idx =>
    obtain rfl : len = 3 := of_decide_eq_true hok
    simp only [pstepH] at hs
    split at hs
    · rename_i a r
      split at hs
      · rename_i ci fs he
        split at hs
        · rename_i hg
          split at hs
          · rename_i v hv
            simp only [Option.some.injEq, Prod.mk.injEq] at hs
            obtain ⟨⟨rfl, rfl, rfl⟩, rfl⟩ := hs
            have hne : ¬ x.1 = -1 := by rw [hg.2]; omega
            simp only [lnk, if_neg hne] at hlk
            have hci : x.1.toNat = ci := by rw [hg.2]; rfl
            rw [hci] at hlk
            split at hlk
            · rename_i r0 hc
              obtain ⟨g1, g2⟩ := (Bool.and_eq_true _ _).mp hlk
              exact s_get hx hb hts hown hK hR hg.1 he hc (of_decide_eq_true g1) (hts _ (wd_in g2)) hv hdg (k H locs hR hS hl)
            · cases hlk
          · cases hs
        · cases hs
      · cases hs
    · rename_i q r
      split at hs
      · rename_i hg
        simp only [lnk, if_pos hg.2] at hlk
        obtain ⟨j, rfl, hj⟩ : ∃ j, q = j + 1 ∧ j < 3 := ⟨q - 1, by omega, by omega⟩
        obtain ⟨g1, g2, g3, -⟩ := hE.2.1 j hj
        split at hs
        · rename_i h0
          rw [if_pos h0] at hlk
          simp only [Option.some.injEq, Prod.mk.injEq] at hs
          obtain ⟨⟨rfl, rfl, rfl⟩, rfl⟩ := hs
          exact vk_getf hx hb g2 hS hown (hts _ (wd_in hlk)) (fun _ z => z) hdg (k H locs hR hS hl)
        · rename_i h0
          rw [if_neg h0] at hlk
          simp only [Option.some.injEq, Prod.mk.injEq] at hs
          obtain ⟨⟨rfl, rfl, rfl⟩, rfl⟩ := hs
          exact vk_getf hx hb g3 hS hown (hts _ (wd_in hlk)) (fun _ z => z) hdg (k H locs hR hS hl)
      · cases hs
    · cases hs
  case putfield idx =>
    obtain rfl : len = 3 := of_decide_eq_true hok
    simp only [pstepH] at hs
    split at hs
    · rename_i v a r
      split at hs
      · rename_i ci fs he
        split at hs
        · rename_i hg
          simp only [Option.some.injEq, Prod.mk.injEq] at hs
          obtain ⟨⟨rfl, rfl, rfl⟩, rfl⟩ := hs
          obtain ⟨⟨ha, hxc⟩, hlen, hfit⟩ := hg
          have hci : x.1.toNat = ci := by rw [hxc]; rfl
          simp only [lnk] at hlk
          rw [hci] at hlk
          split at hlk
          · rename_i r0 hc
            obtain ⟨g1, g2⟩ := (Bool.and_eq_true _ _).mp hlk
            obtain ⟨g2, g3⟩ := (Bool.and_eq_true _ _).mp g2
            refine s_put hx hb hts hown hK hR hS ha he hc (of_decide_eq_true g1) (hts _ (wd_in g2)) hlen hfit ?_ hdg (fun H1 locs1 a1 a2 => k H1 locs1 a1 a2 hl)
            rcases (Bool.or_eq_true _ _).mp g3 with g3 | g3
            · exact Or.inl (of_decide_eq_true g3)
            · obtain ⟨g4, g5⟩ := (Bool.and_eq_true _ _).mp g3
              obtain ⟨g5, g6⟩ := (Bool.and_eq_true _ _).mp g5
              exact Or.inr ⟨of_decide_eq_true g4, hinit g5, of_decide_eq_true g6⟩
          · cases hlk
        · cases hs
      · cases hs
    · cases hs
  case getstatic idx =>
    obtain rfl : len = 3 := of_decide_eq_true hok
    simp only [pstepH] at hs
    split at hs
    · rename_i q hq
      simp only [Option.some.injEq, Prod.mk.injEq] at hs
      obtain ⟨⟨rfl, rfl, rfl⟩, rfl⟩ := hs
      simp only [lnk, hq] at hlk
      exact va_gets hx hb (hE.2.2.1 q (List.mem_of_getElem? hq)) hS hown (hts _ (wd_in hlk)) (fun _ z => z) hdg (k H locs hR hS hl)
    · cases hs
  case iaload =>
    obtain rfl : len = 1 := of_decide_eq_true hok
    simp only [pstepH] at hs
    split at hs
    · rename_i i a r
      split at hs
      · rename_i n f he
        split at hs
        · rename_i hg
          simp only [Option.some.injEq, Prod.mk.injEq] at hs
          obtain ⟨⟨rfl, rfl, rfl⟩, rfl⟩ := hs
          exact s_ild hx hb hK hR hg.1 he (p_inB_spec hg.2) hdg (k H locs hR hS hl)
        · cases hs
      · cases hs
    · rename_i i q r
      split at hs
      · rename_i n f he
        split at hs
        · rename_i hg
          simp only [Option.some.injEq, Prod.mk.injEq] at hs
          obtain ⟨⟨rfl, rfl, rfl⟩, rfl⟩ := hs
          exact va_ti hx hb (hE.1 _ _ _ _ he) hS (p_inB_spec hg) rfl hdg (k H locs hR hS hl)
        · cases hs
      · cases hs
    · cases hs
  case laload =>
    obtain rfl : len = 1 := of_decide_eq_true hok
    simp only [pstepH] at hs
    split at hs
    · rename_i i a r
      split at hs
      · rename_i n f he
        split at hs
        · rename_i hg
          simp only [Option.some.injEq, Prod.mk.injEq] at hs
          obtain ⟨⟨rfl, rfl, rfl⟩, rfl⟩ := hs
          exact s_lld hx hb hK hR hg.1 he (p_inB_spec hg.2) hdg (k H locs hR hS hl)
        · cases hs
      · cases hs
    · cases hs
  case baload =>
    obtain rfl : len = 1 := of_decide_eq_true hok
    simp only [pstepH] at hs
    split at hs
    · rename_i i a r
      split at hs
      · rename_i n f he
        split at hs
        · rename_i hg
          simp only [Option.some.injEq, Prod.mk.injEq] at hs
          obtain ⟨⟨rfl, rfl, rfl⟩, rfl⟩ := hs
          exact s_zld hx hb hK hR hg.1 he (p_inB_spec hg.2) hdg (k H locs hR hS hl)
        · cases hs
      · rename_i n f he
        split at hs
        · rename_i hg
          simp only [Option.some.injEq, Prod.mk.injEq] at hs
          obtain ⟨⟨rfl, rfl, rfl⟩, rfl⟩ := hs
          exact s_bld hx hb hK hR hg.1 he (p_inB_spec hg.2) hdg (k H locs hR hS hl)
        · cases hs
      · cases hs
    · rename_i i q r
      split at hs
      · rename_i n f he
        split at hs
        · rename_i hg
          simp only [Option.some.injEq, Prod.mk.injEq] at hs
          obtain ⟨⟨rfl, rfl, rfl⟩, rfl⟩ := hs
          exact va_tb hx hb (hE.1 _ _ _ _ he) hS (p_inB_spec hg) rfl hdg (k H locs hR hS hl)
        · cases hs
      · cases hs
    · cases hs
  case aaload =>
    obtain rfl : len = 1 := of_decide_eq_true hok
    simp only [pstepH] at hs
    split at hs
    · rename_i i a r
      split at hs
      · rename_i n f he
        split at hs
        · rename_i q hq
          split at hs
          · rename_i hg
            simp only [Option.some.injEq, Prod.mk.injEq] at hs
            obtain ⟨⟨rfl, rfl, rfl⟩, rfl⟩ := hs
            exact s_ald hx hb hK hR hg.1 he (p_inB_spec hg.2) hq hdg (k H locs hR hS hl)
          · cases hs
        · cases hs
      · cases hs
    · cases hs
  case arraylength =>
    obtain rfl : len = 1 := of_decide_eq_true hok
    simp only [pstepH] at hs
    split at hs
    · rename_i a r
      split at hs
      · rename_i t y he
        split at hs
        · rename_i hg
          simp only [Option.some.injEq, Prod.mk.injEq] at hs
          obtain ⟨⟨rfl, rfl, rfl⟩, rfl⟩ := hs
          exact s_len hx hb hK hR hg.1 he hg.2 hdg (k H locs hR hS hl)
        · cases hs
      · cases hs
    · rename_i q r
      split at hs
      · rename_i t n f he
        simp only [Option.some.injEq, Prod.mk.injEq] at hs
        obtain ⟨⟨rfl, rfl, rfl⟩, rfl⟩ := hs
        exact va_tlen hx hb (hE.1 _ _ _ _ he) hS rfl hdg (k H locs hR hS hl)
      · cases hs
    · cases hs
  case iastore =>
    obtain rfl : len = 1 := of_decide_eq_true hok
    simp only [pstepH] at hs
    split at hs
    · rename_i v i a r
      split at hs
      · rename_i n f he
        split at hs
        · rename_i hg
          simp only [Option.some.injEq, Prod.mk.injEq] at hs
          obtain ⟨⟨rfl, rfl, rfl⟩, rfl⟩ := hs
          exact s_ist hx hb hK hR hS hg.1 he (p_inB_spec hg.2) hdg (fun H1 locs1 a1 a2 => k H1 locs1 a1 a2 hl)
        · cases hs
      · cases hs
    · cases hs
  case lastore =>
    obtain rfl : len = 1 := of_decide_eq_true hok
    simp only [pstepH] at hs
    split at hs
    · rename_i v i a r
      split at hs
      · rename_i n f he
        split at hs
        · rename_i hg
          simp only [Option.some.injEq, Prod.mk.injEq] at hs
          obtain ⟨⟨rfl, rfl, rfl⟩, rfl⟩ := hs
          exact s_lst hx hb hK hR hS hg.1 he (p_inB_spec hg.2) hdg (fun H1 locs1 a1 a2 => k H1 locs1 a1 a2 hl)
        · cases hs
      · cases hs
    · cases hs
  case bastore =>
    obtain rfl : len = 1 := of_decide_eq_true hok
    simp only [pstepH] at hs
    split at hs
    · rename_i v i a r
      split at hs
      · rename_i n f he
        split at hs
        · rename_i hg
          simp only [Option.some.injEq, Prod.mk.injEq] at hs
          obtain ⟨⟨rfl, rfl, rfl⟩, rfl⟩ := hs
          exact s_zst hx hb hK hR hS hg.1 he (p_inB_spec hg.2) hdg (fun H1 locs1 a1 a2 => k H1 locs1 a1 a2 hl)
        · cases hs
      · rename_i n f he
        split at hs
        · rename_i hg
          simp only [Option.some.injEq, Prod.mk.injEq] at hs
          obtain ⟨⟨rfl, rfl, rfl⟩, rfl⟩ := hs
          exact s_bst hx hb hK hR hS hg.1 he (p_inB_spec hg.2) hdg (fun H1 locs1 a1 a2 => k H1 locs1 a1 a2 hl)
        · cases hs
      · cases hs
    · cases hs
  case new idx =>
    obtain rfl : len = 3 := of_decide_eq_true hok
    simp only [pstepH] at hs
    split at hs
    · rename_i r hc
      simp only [Option.some.injEq, Prod.mk.injEq] at hs
      obtain ⟨⟨rfl, rfl, rfl⟩, rfl⟩ := hs
      simp only [lnk, hc] at hlk
      obtain ⟨g1, g2⟩ := (Bool.and_eq_true _ _).mp hlk
      obtain ⟨g2, g3⟩ := (Bool.and_eq_true _ _).mp g2
      have e1 : h.1 + 1 - c0 = h.1 - c0 + 1 := by omega
      have e2 : h.2.1 + r.2.2 - n0 = h.2.1 - n0 + r.2.2 := by omega
      dsimp only at hcR hnR
      refine s_new hx hb hts hown hK hR hS hc (hts _ (wd_in g1)) (hts _ (wd_in g2)) (hts _ (wd_in g3)) (by omega) (by omega) hdg (fun H1 a1 a2 => ?_)
      exact W.cs e1.symm e2.symm (k H1 locs a1 a2 hl)
    · cases hs
  case newarray t =>
    obtain rfl : len = 2 := of_decide_eq_true hok
    simp only [pstepH] at hs
    split at hs
    · rename_i q n r hq
      split at hs
      · rename_i hg
        simp only [Option.some.injEq, Prod.mk.injEq] at hs
        obtain ⟨⟨rfl, rfl, rfl⟩, rfl⟩ := hs
        simp only [lnk, hq] at hlk
        have e1 : h.1 + 1 - c0 = h.1 - c0 + 1 := by omega
        have e2 : h.2.1 + n.toNatClampNeg - n0 = h.2.1 - n0 + n.toNatClampNeg := by omega
        dsimp only at hcR hnR
        refine s_newa hx hb hK hR hS hq (hts _ (wd_in hlk)) hg.1 hg.2 (by omega) (by omega) hdg (fun H1 a1 a2 => ?_)
        exact W.cs e1.symm e2.symm (k H1 locs a1 a2 hl)
      · cases hs
    · cases hs
  case multianewarray idx dd =>
    obtain rfl : len = 4 := of_decide_eq_true hok
    simp only [pstepH] at hs
    split at hs
    · rename_i kz n r
      split at hs
      · rename_i hg
        simp only [Option.some.injEq, Prod.mk.injEq] at hs
        obtain ⟨⟨rfl, rfl, rfl⟩, rfl⟩ := hs
        obtain ⟨⟨rfl, g1, g2⟩, g3, g4⟩ := hg
        simp only [lnk] at hlk
        obtain ⟨-, q2⟩ := (Bool.and_eq_true _ _).mp hlk
        obtain ⟨q2, q3⟩ := (Bool.and_eq_true _ _).mp q2
        have hcR : h.1 + 1 + n.toNatClampNeg - c0 ≤ R.cells := hcR
        have hnR : h.2.1 + n.toNatClampNeg + n.toNatClampNeg * kz.toNatClampNeg - n0 ≤ R.slots := hnR
        have e1 : h.1 + 1 + n.toNatClampNeg - c0 = h.1 - c0 + 1 + n.toNatClampNeg := by omega
        have e2 : h.2.1 + n.toNatClampNeg + n.toNatClampNeg * kz.toNatClampNeg - n0 = h.2.1 - n0 + n.toNatClampNeg + n.toNatClampNeg * kz.toNatClampNeg := by omega
        refine s_mna hx hb hown (hts _ (wd_in q2)) hE.2.2.2.2 (hts _ (wd_in q3)) hK hR hS g1 g2 g3 g4 (by omega) (by omega) hdg (fun H1 a1 a2 => ?_)
        exact W.cs e1.symm e2.symm (k H1 locs a1 a2 hl)
      · cases hs
    · cases hs
  case ldc idx =>
    obtain rfl : len = 2 := of_decide_eq_true hok
    simp only [pstepH] at hs
    split at hs
    · rename_i h0
      simp only [lnk, if_pos h0] at hlk
      simp only [Option.some.injEq, Prod.mk.injEq] at hs
      obtain ⟨⟨rfl, rfl, rfl⟩, rfl⟩ := hs
      exact lv_ldc hx hb hown (hts _ (wd_in hlk)) hdg (k H locs hR hS hl)
    · rename_i h0
      simp only [lnk, if_neg h0] at hlk
      simp only [Option.some.injEq, Prod.mk.injEq] at hs
      obtain ⟨⟨rfl, rfl, rfl⟩, rfl⟩ := hs
      obtain ⟨g1, g2⟩ := (Bool.and_eq_true _ _).mp hlk
      obtain ⟨g2, g3⟩ := (Bool.and_eq_true _ _).mp g2
      have g1 := of_decide_eq_true g1
      have g2 := of_decide_eq_true g2
      have g3 := of_decide_eq_true g3
      obtain ⟨a1, a2, a3, a4⟩ := hE.2.1 (x.2.1 - 1) (by omega)
      rw [g2, g3] at a4
      have e3 : x.2.1 - 1 + 1 = x.2.1 := by omega
      rw [e3] at a4
      exact va_ldcS hx hb hown a4 hdg (k H locs hR hS hl)
  case ldc_w idx =>
    obtain rfl : len = 3 := of_decide_eq_true hok
    simp only [pstepH, Option.some.injEq, Prod.mk.injEq] at hs
    obtain ⟨⟨rfl, rfl, rfl⟩, rfl⟩ := hs
    exact lv_ldcw hx hb hown (hts _ (wd_in hlk)) hdg (k H locs hR hS hl)
  case ldc2_w idx =>
    obtain rfl : len = 3 := of_decide_eq_true hok
    simp only [pstepH, Option.some.injEq, Prod.mk.injEq] at hs
    obtain ⟨⟨rfl, rfl, rfl⟩, rfl⟩ := hs
    exact lv_ldc2 hx hb hown (hts _ (wd_in hlk)) hdg (k H locs hR hS hl)
  all_goals (simp [pstepH] at hs)
end SIMS
end
section
/-! CALLS AND RUNS OF THE SMALL MACHINE; the machine does what it does (met_of). -/
def p_args (n : Nat) (st : List Value) : Option (List Value × List Value) := if n ≤ st.length then some ((st.take n).reverse, st.drop n) else none
def p_cats (st : List Value) : Nat := (st.map fun v => v.category).sum
def p_recv (h : pH) (ci : Nat) (v : Value) : Bool := match v with
  | .ref a => decide (a < h.1) && (match h.2.2 a with
    | .inr (cj, _) => decide (cj = ci)
    | _ => false)
  | .retAddr q => decide (1 ≤ q ∧ q ≤ 3) && decide (ci = 13)
  | _ => false
abbrev pFn : Type := Nat → List Value → pH → Option pR
/-- calls -/
def pstepC (ms : List pM) (F : pFn) (pc : Nat) (i : Instr) (x : pX) (ls : List (Nat × Value)) (st : List Value) (h : pH) : Option (pF × pH) := match i with
  | .invokevirtual _ => match ms[x.1.toNat]? with
    | some M => match p_args M.2.2.2.2.1 st with
      | some (as, v :: r) => if p_recv h M.2.2.2.2.2.2.1 v = true ∧ p_cats r ≤ 8 then (match F x.1.toNat (v :: as) h with
        | some (w, h') => some ((pc + 3, ls, w.toList ++ r), h')
        | none => none) else none
      | _ => none
    | none => none
  | .invokestatic _ => if x.1 = -2 then (match p_copy st h with
      | some y => some ((pc + 3, ls, y.1), y.2)
      | none => none) else (match ms[x.1.toNat]? with
    | some M => match p_args M.2.2.2.2.1 st with
      | some (as, r) => if p_cats r ≤ 8 then (match F x.1.toNat as h with
        | some (w, h') => some ((pc + 3, ls, w.toList ++ r), h')
        | none => none) else none
      | none => none
    | none => none)
  | .invokespecial _ => if x.1 = -1 then (match st with
      | .ref _ :: r => if p_cats r ≤ 8 then some ((pc + 3, ls, r), h) else none
      | _ => none) else (match ms[x.1.toNat]? with
    | some M => match p_args M.2.2.2.2.1 st with
      | some (as, .ref a :: r) => if p_cats r ≤ 8 then (match F x.1.toNat (.ref a :: as) h with
        | some (w, h') => some ((pc + 3, ls, w.toList ++ r), h')
        | none => none) else none
      | _ => none
    | none => none)
  | _ => none
def lnkC (ms : List pM) (own : String) (i : Instr) (x : pX) : Bool := match i with
  | .invokevirtual idx => match ms[x.1.toNat]? with
    | some M => decide (M.2.2.2.2.2.1 = 0) && wd x.2.2 (.methodLink own idx M.1)
    | none => false
  | .invokestatic idx => if x.1 = -2 then wd x.2.2 (.methodLink own idx arraycopyName) else (match ms[x.1.toNat]? with
    | some M => decide (M.2.2.2.2.2.1 = 1) && wd x.2.2 (.methodLink own idx M.1)
    | none => false)
  | .invokespecial idx => if x.1 = -1 then wd x.2.2 (.methodLink own idx Lib.objectInit) else (match ms[x.1.toNat]? with
    | some M => decide (M.2.2.2.2.2.1 = 2) && (if x.2.1 = 0 then wd x.2.2 (.methodLink own idx M.1) else decide (nestL[x.2.2]? = some (.methodLinkNest own idx M.1 "TurnHouse")))
    | none => false)
  | _ => true
/-- what a method returns -/
def p_ret (ret : Option FieldType) (i : Instr) (st : List Value) : Option (Option Value) := match i with
  | .ireturn => match st with
    | [.int v] => match ret with
      | some .int => some (some (.int v))
      | some .boolean => if v = 0 ∨ v = 1 then some (some (.int v)) else none
      | some .char => if narrow .char (.int v) = .int v then some (some (.int v)) else none
      | some .byte => if narrow .byte (.int v) = .int v then some (some (.int v)) else none
      | _ => none
    | _ => none
  | .lreturn => match st with
    | [.long v] => match ret with
      | some .long => some (some (.long v))
      | _ => none
    | _ => none
  | .areturn => match st with
    | [.ref a] => match ret with
      | some (.array _) => some (some (.ref a))
      | _ => none
    | _ => none
  | .return_ => match st with
    | [] => match ret with
      | none => some none
      | _ => none
    | _ => none
  | _ => none
def p_isH : Instr → Bool
  | .getfield _ => true
  | .putfield _ => true
  | .getstatic _ => true
  | .iaload => true
  | .laload => true
  | .baload => true
  | .aaload => true
  | .arraylength => true
  | .iastore => true
  | .lastore => true
  | .bastore => true
  | .new _ => true
  | .newarray _ => true
  | .multianewarray _ _ => true
  | .ldc _ => true
  | .ldc_w _ => true
  | .ldc2_w _ => true
  | _ => false
def p_isC : Instr → Bool
  | .invokevirtual _ => true
  | .invokestatic _ => true
  | .invokespecial _ => true
  | _ => false
def pstep (ms : List pM) (F : pFn) (en : pN) (pc : Nat) (i : Instr) (x : pX) (ls : List (Nat × Value)) (st : List Value) (h : pH) : Option (pF × pH) :=
  match p_isC i with
  | true => pstepC ms F pc i x ls st h
  | false => match p_isH i with
    | true => pstepH en pc i x ls st h
    | false => match pstepL pc i ls st with
      | some f => some (f, h)
      | none => none
/-- a run of at most n steps -/
def prun (ms : List pM) (F : pFn) (en : pN) (ret : Option FieldType) (tab : List pI) : Nat → pF → pH → Option pR
  | 0, _, _ => none
  | n + 1, f, h => match p_find tab f.1 with
    | none => none
    | some q => match p_ret ret q.1 f.2.2 with
      | some v => some (v, h)
      | none => match pstep ms F en f.1 q.1 q.2.2 f.2.1 f.2.2 h with
        | some y => prun ms F en ret tab n y.1 y.2
        | none => none
/-- what can be checked of a method by the tables -/
def mOK (ms : List pM) (M : pM) : Bool := match M with
  | (y, bytes, maxL, ret, n, kind, ci, (p0, p1, p2, p3), tab) =>
    (wd p0 (.code y bytes maxL ret) && (plainFor y && (decide (y.cls ≠ "java/lang/invoke/MethodHandle" ∧ y.cls ≠ "java/lang/invoke/VarHandle" ∧ (parseMethodDescriptor y.desc).map (fun d => d.parameters.length) = some n) && (decide (maxL ≤ 21) && wd p3 (.initialized y.cls))))) &&
    ((if kind = 1 then wd p1 (.static y) else wd p1 (.instanceMethod y)) && ((if kind = 0 then wd p2 (.selects y.cls y y) && (match vwCl[ci]? with
      | some r => decide (r.1 = y.cls)
      | none => decide (ci = 13) && decide (y.cls = "java/lang/String")) else true) && (if kind = 2 then decide (y.name = "<init>") && decide (ret = none) else true))) &&
    tab.all (fun q => decide (decode bytes q.1 = .ok (q.2.1, q.2.2.1)) && (p_ok maxL q.1 q.2.1 q.2.2.1 && (lnk y.cls (decide (kind = 2)) q.2.1 q.2.2.2 && lnkC ms y.cls q.2.1 q.2.2.2)))
def wsM (M : pM) : List Cond := .code M.1 M.2.1 M.2.2.1 M.2.2.2.1 :: gT
def rmd (d mc ms : Nat) : Room := { frames := d + 1, cells := mc, slots := ms, locals := 40 * (d + 1) }
def sPre (D : va_G) (cA : Nat → ClassId) (b : Nat) (o : Nat → Nat) (en : pN) (as : List Value) (h : pH) : Array Value → State → Prop := fun v U => v = (rS b o as).toArray ∧ sRep D cA b o h U.heap ∧ va_K D vwCl (tysL cA) U ∧ sEnv en b o U U.heap
def sPost (D : va_G) (cA : Nat → ClassId) (b : Nat) (o : Nat → Nat) (r : Option Value) (h' : pH) : Array Value → State → Outcome → State → Prop := fun _ st oc t => oc = .returned (r.map (rV b o)) ∧ sRep D cA b o h' t.heap ∧ va_F (fun q => b ≤ q) st t
/-- a function of the small machine that the machine does, with d frames -/
def sF (l : Launch) (D : va_G) (cA : Nat → ClassId) (b : Nat) (o : Nat → Nat) (en : pN) (ms : List pM) (d : Nat) (F : pFn) : Prop := ∀ (y : Nat) (as : List Value) (h : pH) (r : Option Value) (h' : pH), F y as h = some (r, h') → (h.1 ≤ h'.1 ∧ h.2.1 ≤ h'.2.1) ∧ ∀ M : pM, ms[y]? = some M → Met l M.1 (wsM M) (rmd d (h'.1 - h.1) (h'.2.1 - h.2.1)) (sPre D cA b o en as h) (sPost D cA b o r h') (h'.1 - h.1) (h'.2.1 - h.2.1) (fun q => b ≤ q)
theorem rS_app (b : Nat) (o : Nat → Nat) (l1 l2 : List Value) : rS b o (l1 ++ l2) = rS b o l1 ++ rS b o l2 := List.map_append
theorem rS_rev (b : Nat) (o : Nat → Nat) (l : List Value) : rS b o l.reverse = (rS b o l).reverse := List.map_reverse
theorem rS_cats (b : Nat) (o : Nat → Nat) (l : List Value) : ((rS b o l).map fun v => v.category).sum = p_cats l := by
  unfold rS p_cats
  rw [List.map_map]
  congr 1
  apply List.map_congr_left
  intro v _
  exact rV_cat b o v
theorem p_args_spec {n : Nat} {st as r : List Value} (h : p_args n st = some (as, r)) : st = as.reverse ++ r ∧ as.length = n := by
  unfold p_args at h
  split at h
  · rename_i hn
    cases h
    exact ⟨by rw [List.reverse_reverse, List.take_append_drop], by rw [List.length_reverse, List.length_take]; omega⟩
  · cases h
theorem sPre_blind {D : va_G} {cA : Nat → ClassId} {b : Nat} {o : Nat → Nat} {en : pN} {as : List Value} {h : pH} : FrameBlind (sPre D cA b o en as h) := fun a U g mk q => ⟨q.1, q.2.1, va_K.moved (u := U) (U := U.calling g mk a) (Vm.Alike.refl U.vm) q.2.2.1, sEnv.same (u := U) (U := U.calling g mk a) rfl rfl q.2.2.2⟩
section SIMC
variable {p : Program} {l : Launch} {e : Env} {R : Room} {s : State} {m : MethodId} {args : Array Value} {below : List Frame} {meth : Method} {c : Code} {H : Heap} {locs : List Loc} {cells slots : Nat} {Q : State → Prop} {cc : ByteArray}
variable {D : va_G} {cA : Nat → ClassId} {en : pN} {b : Nat} {o : Nat → Nat} {ms : List pM}
theorem s_call {pc mc ns : Nat} {LS : Array Slot} {st0 rest : List Value} {a : Array Value} {r : Option Value} {h' : pH} (hr : va_Run p l e R s m args below meth c H locs cells slots mc ns (F0 m pc LS st0) rest (sPost D cA b o r h' a) (fun q => b ≤ q)) (hS : va_S (fun q => b ≤ q) s.heap H locs)
    (kk : ∀ (H1 : Heap) (locs1 : List Loc), sRep D cA b o h' H1 → va_S (fun q => b ≤ q) s.heap H1 locs1 → W p l e R s m args below meth c H1 locs1 (cells + mc) (slots + ns) Q (F0 m (pc + 3) LS ((r.map (rV b o)).toList ++ rest))) : W p l e R s m args below meth c H locs cells slots Q (F0 m pc LS st0) := by
  intro T hT X
  obtain ⟨v, st₀, t, T', L, h0, X', hL, e1, e2, ⟨hv, hRp, hz, hk⟩, st⟩ := hr T hT X
  cases hv
  rw [h0] at hz hk
  obtain ⟨t2, a1, b1⟩ := kk T'.heap (locs ++ L) (by rw [e1]; exact hRp)
    ⟨Nat.le_trans hS.1 (by rw [e1]; exact hz), fun q h1 h2 => by rw [e1, hk q (Nat.lt_of_lt_of_le h1 hS.1) h2]; exact hS.2.1 q h1 h2, fun q hq => by
      rcases List.mem_append.mp hq with h | h
      · exact hS.2.2 q h
      · exact hL q h⟩ T' rfl X'
  exact ⟨t2, st t2 a1, b1⟩
theorem aoB_spec {u : State} (h : (Cond.arrayOver (.array .int)).before #[] u = true) :
    ∃ comp c k, u.vm.findClass (FieldType.array .int).toString = some comp ∧ (u.vm.classes.findIdx? fun (x : Class) => match x.kind with | .array component _ => component == comp | _ => false) = some c ∧ u.vm.classes[c]? = some k ∧ k.kind = .array comp (.array .int) ∧ u.vm.findClass ("[" ++ (FieldType.array .int).toString) = some c := by
  simp only [Cond.before, Cond.holds, Cond.value, beq_iff_eq] at h
  cases hc : u.vm.findClass (FieldType.array .int).toString with
  | none => simp [hc] at h
  | some comp =>
    simp only [hc, Option.bind_some, Option.bind_eq_some_iff, Option.map_eq_some_iff] at h
    obtain ⟨c, hi, k, hk, hb⟩ := h
    obtain ⟨hlt, hp, -⟩ := Array.findIdx?_eq_some_iff_getElem.mp hi
    have hkk : u.vm.classes[c] = k := (Array.getElem?_eq_some_iff.mp hk).2
    rw [hkk] at hp
    cases hkind : k.kind with
    | array component ty =>
      rw [hkind] at hb hp
      simp at hb hp
      exact ⟨comp, c, k, rfl, hi, hk, by rw [hkind, hp, hb.1], hb.2⟩
    | _ => rw [hkind] at hb; simp at hb
theorem aoB_moved {u U : State} (hvm : u.vm.Alike U.vm) (h : (Cond.arrayOver (.array .int)).before #[] u = true) : (Cond.arrayOver (.array .int)).before #[] U = true := by
  obtain ⟨comp, c, k, h1, h2, h3, h4, h5⟩ := aoB_spec h
  obtain ⟨k', hk', he⟩ := hvm.2.2 _ _ h3
  have hi : (U.vm.classes.findIdx? fun (x : Class) => match x.kind with | .array component _ => component == comp | _ => false) = some c := by
    exact ((hvm.findIdx?_eqK _ (fun _ => rfl)).trans h2)
  have hkind : k'.kind = .array comp (.array .int) := by rw [he]; exact h4
  have f1 : U.vm.findClass (FieldType.array .int).toString = some comp := by rw [hvm.findClass]; exact h1
  have f2 : U.vm.findClass ("[" ++ (FieldType.array .int).toString) = some c := by rw [hvm.findClass]; exact h5
  unfold Cond.before Cond.holds
  simp only [Cond.value]
  rw [f1, Option.bind_some]
  refine (congrArg (fun o : Option Nat => (o.bind (fun c => (U.vm.classes[c]?).map fun (k : Class) => match k.kind with | .array _ ty => decide (ty = FieldType.array .int) && decide (U.vm.findClass ("[" ++ (FieldType.array .int).toString) = some c) | _ => false) == some true)) hi).trans ?_
  simp [hk', hkind, f2]
theorem arrayOver_warm {U : State} (hW : s.WarmedH U.vm) (h : (Cond.arrayOver (.array .int)).before #[] s = true) : (Cond.arrayOver (.array .int)).before #[] U = true := aoB_moved hW.alike h
theorem s_preS {as : List Value} {h : pH} (hR : sRep D cA b o h H) (hS : va_S (fun q => b ≤ q) s.heap H locs) (hK : va_K D vwCl (tysL cA) s) (hE : sEnv en b o s s.heap) : ∀ U : State, U.heap = H → s.WarmedH U.vm → sPre D cA b o en as h (rS b o as).toArray U :=
  fun U hU hW => ⟨rfl, by rw [hU]; exact hR, va_K.moved hW.alike hK, by rw [hU]; exact hE.warm hW hS.2.1 (arrayOver_warm hW hE.2.2.2.2)⟩
theorem rV_toList (b : Nat) (o : Nat → Nat) (r : Option Value) (st : List Value) : (r.map (rV b o)).toList ++ rS b o st = rS b o (r.toList ++ st) := by
  cases r <;> rfl
theorem mOK_spec {M : pM} (h : mOK ms M = true) : (wsM M).head? = some (.code M.1 M.2.1 M.2.2.1 M.2.2.2.1) ∧ Cond.code M.1 M.2.1 M.2.2.1 M.2.2.2.1 ∈ gT ∧ plainFor M.1 = true ∧ (M.1.cls ≠ "java/lang/invoke/MethodHandle" ∧ M.1.cls ≠ "java/lang/invoke/VarHandle" ∧ (parseMethodDescriptor M.1.desc).map (fun d => d.parameters.length) = some M.2.2.2.2.1) ∧ M.2.2.1 ≤ 21 ∧ Cond.initialized M.1.cls ∈ gT ∧
    (M.2.2.2.2.2.1 = 1 → Cond.static M.1 ∈ gT) ∧ (¬ M.2.2.2.2.2.1 = 1 → Cond.instanceMethod M.1 ∈ gT) ∧ (M.2.2.2.2.2.1 = 0 → Cond.selects M.1.cls M.1 M.1 ∈ gT ∧ ((∃ r, vwCl[M.2.2.2.2.2.2.1]? = some r ∧ r.1 = M.1.cls) ∨ (M.2.2.2.2.2.2.1 = 13 ∧ M.1.cls = "java/lang/String"))) ∧ (M.2.2.2.2.2.1 = 2 → M.1.name = "<init>" ∧ M.2.2.2.1 = none) ∧
    ∀ q ∈ M.2.2.2.2.2.2.2.2, decode M.2.1 q.1 = .ok (q.2.1, q.2.2.1) ∧ p_ok M.2.2.1 q.1 q.2.1 q.2.2.1 = true ∧ lnk M.1.cls (decide (M.2.2.2.2.2.1 = 2)) q.2.1 q.2.2.2 = true ∧ lnkC ms M.1.cls q.2.1 q.2.2.2 = true := by
  obtain ⟨y, bytes, maxL, ret, n, kind, ci, ⟨p0, p1, p2, p3⟩, tab⟩ := M
  simp only [mOK, Bool.and_eq_true, decide_eq_true_eq, List.all_eq_true] at h
  obtain ⟨⟨⟨a1, a2, a3, a4, a5⟩, b1, b2, b3⟩, c1⟩ := h
  refine ⟨rfl, wd_in a1, a2, a3, a4, wd_in a5, fun z => ?_, fun z => ?_, fun z => ?_, fun z => ?_, fun q hq => ?_⟩
  · dsimp only at z
    rw [if_pos z] at b1
    exact wd_in b1
  · dsimp only at z
    rw [if_neg z] at b1
    exact wd_in b1
  · dsimp only at z
    rw [if_pos z] at b2
    simp only [Bool.and_eq_true] at b2
    refine ⟨wd_in b2.1, ?_⟩
    have b4 := b2.2
    split at b4
    · rename_i r hr
      exact Or.inl ⟨r, hr, of_decide_eq_true b4⟩
    · simp only [Bool.and_eq_true, decide_eq_true_eq] at b4
      exact Or.inr b4
  · dsimp only at z
    rw [if_pos z] at b3
    simp only [Bool.and_eq_true, decide_eq_true_eq] at b3
    exact b3
  · have h1 := c1 q hq
    exact ⟨h1.1, h1.2.1, h1.2.2.1, h1.2.2.2⟩
theorem ws_good {M : pM} (h : Cond.code M.1 M.2.1 M.2.2.1 M.2.2.2.1 ∈ gT) : ∀ w ∈ wsM M, w ∈ gT := by
  intro w hw
  rcases List.mem_cons.mp hw with rfl | hw
  · exact h
  · exact hw
end SIMC
end
section
/-! Calls, runs, methods: what the small machine does, the machine does. -/
section SIMR
variable {p : Program} {l : Launch} {e : Env} {R : Room} {s : State} {m : MethodId} {args : Array Value} {below : List Frame} {meth : Method} {c : Code} {H : Heap} {locs : List Loc} {cells slots : Nat} {Q : State → Prop} {cc : ByteArray}
variable {D : va_G} {cA : Nat → ClassId} {en : pN} {b : Nat} {o : Nat → Nat} {ms : List pM}
theorem gT_oi1 : Cond.instanceMethod Lib.objectInit ∈ gT := gT_place (i := 119) (by decide +kernel) (by decide +kernel)
theorem gT_oi2 : Cond.code Lib.objectInit ⟨#[0xb1]⟩ 1 none ∈ gT := gT_place (i := 120) (by decide +kernel) (by decide +kernel)
theorem rS_len (b : Nat) (o : Nat → Nat) (st : List Value) : (rS b o st).length = st.length := List.length_map _
theorem sC {own : String} {d nL pc len : Nat} {F : pFn} {i : Instr} {x : pX} {ls ls' : List (Nat × Value)} {st st' : List Value} {h h' : pH} {pc' : Nat} {LS : Array Slot} {c0 n0 : Nat}
    (hF : sF l D cA b o en ms d F) (hms : ∀ M ∈ ms, mOK ms M = true) (hfr : d + 2 ≤ R.frames) (hlo : 40 * (d + 1) + 40 ≤ R.locals)
    (hx : p.tables.exec = Jvm.exec) (hb : c.code = cc) (hml : c.maxLocals = nL) (hts : ∀ w ∈ gT, w.before args s = true) (hown : s.vm.findClass own = some m.cls) (hK : va_K D vwCl (tysL cA) s) (hE : sEnv en b o s s.heap)
    (hR : sRep D cA b o h H) (hS : va_S (fun q => b ≤ q) s.heap H locs) (hdg : decode cc pc = .ok (i, len)) (hok : p_ok nL pc i len = true) (hlk : lnkC ms own i x = true) (hl : lv_has LS nL (rL b o ls)) (hs : pstepC ms F pc i x ls st h = some ((pc', ls', st'), h'))
    (hc0 : c0 ≤ h.1) (hn0 : n0 ≤ h.2.1) (hcR : h'.1 - c0 ≤ R.cells) (hnR : h'.2.1 - n0 ≤ R.slots)
    (k : ∀ (H1 : Heap) (locs1 : List Loc), sRep D cA b o h' H1 → va_S (fun q => b ≤ q) s.heap H1 locs1 → lv_has LS nL (rL b o ls') → W p l e R s m args below meth c H1 locs1 (h'.1 - c0) (h'.2.1 - n0) Q (F0 m pc' LS (rS b o st'))) : W p l e R s m args below meth c H locs (h.1 - c0) (h.2.1 - n0) Q (F0 m pc LS (rS b o st)) := by
  have fin : ∀ {mc ns : Nat} {st0 r0 : List Value} {a : Array Value} {w : Option Value}, h.1 ≤ h'.1 ∧ h.2.1 ≤ h'.2.1 → mc = h'.1 - h.1 → ns = h'.2.1 - h.2.1 → va_Run p l e R s m args below meth c H locs (h.1 - c0) (h.2.1 - n0) mc ns (F0 m pc LS st0) (rS b o r0) (sPost D cA b o w h' a) (fun q => b ≤ q) → (pc', ls', st') = (pc + 3, ls, w.toList ++ r0) → W p l e R s m args below meth c H locs (h.1 - c0) (h.2.1 - n0) Q (F0 m pc LS st0) := by
    intro mc ns st0 r0 a w hm e1 e2 hr e3
    cases e3
    subst e1; subst e2
    refine s_call hr hS (fun H1 locs1 a1 a2 => ?_)
    rw [rV_toList]
    have q1 : h.1 - c0 + (h'.1 - h.1) = h'.1 - c0 := by omega
    have q2 : h.2.1 - n0 + (h'.2.1 - h.2.1) = h'.2.1 - n0 := by omega
    exact W.cs q1 q2 (k H1 locs1 a1 a2 hl)
  cases i
  case invokevirtual idx =>
    obtain rfl : len = 3 := of_decide_eq_true hok
    simp only [pstepC] at hs
    split at hs
    · rename_i M hM
      split at hs
      · rename_i as v r ha
        split at hs
        · rename_i hg
          split at hs
          · rename_i w h1 hw
            simp only [Option.some.injEq, Prod.mk.injEq] at hs
            obtain ⟨⟨rfl, rfl, rfl⟩, rfl⟩ := hs
            obtain ⟨hmono, hMet⟩ := hF _ _ _ _ _ hw
            have hmet := hMet M hM
            obtain ⟨-, gcode, gplain, gd, gl, gini, gst, ginst, gsel, ginit, -⟩ := mOK_spec (hms M (List.mem_of_getElem? hM))
            simp only [lnkC, hM] at hlk
            obtain ⟨l1, l2⟩ := (Bool.and_eq_true _ _).mp hlk
            have l1 := of_decide_eq_true l1
            obtain ⟨e1, e2⟩ := p_args_spec ha
            subst e1
            obtain ⟨s1, s2⟩ := gsel l1
            have hgood : GoodIn gT (wsV own idx M.1.cls M.1 (wsM M)) := gT_good (by
              intro w hw
              simp only [wsV, List.mem_append, List.mem_cons, List.not_mem_nil, or_false] at hw
              rcases hw with (rfl | rfl | rfl | rfl) | hw
              · exact wd_in l2
              · exact ginst (by rw [l1]; decide)
              · exact s1
              · exact gini
              · exact ws_good gcode w hw)
            have cw : CallW R s args own M.1.cls idx M.1 M.2.1 M.2.2.1 M.2.2.2.1 (wsM M) (rmd d (h1.1 - h.1) (h1.2.1 - h.2.1)) (h1.1 - h.1) (h1.2.1 - h.2.1) M.2.2.2.2.1 :=
              cwV M.2.2.2.2.1 hts hgood rfl rfl rfl ⟨rfl, gd⟩ ⟨hfr, by show 8 + (M.2.2.1 + 11) + 40 * (d + 1) ≤ R.locals; omega⟩
            have hf : h.1 - c0 + (h1.1 - h.1) ≤ R.cells ∧ h.2.1 - n0 + (h1.2.1 - h.2.1) ≤ R.slots := ⟨by omega, by omega⟩
            have hroom : ((rS b o r).map fun v => v.category).sum ≤ 8 := by rw [rS_cats]; exact hg.2
            have hst : rS b o (as.reverse ++ v :: r) = (rS b o as).reverse ++ rV b o v :: rS b o r := by rw [rS_app, rS_rev]; rfl
            rw [hst]
            have hn : (rS b o as).length = M.2.2.2.2.1 := by rw [rS_len, e2]
            have hrv := hg.1
            cases v with
            | ref a =>
              simp only [p_recv, Bool.and_eq_true] at hrv
              obtain ⟨r1, r2⟩ := hrv
              have r1 := of_decide_eq_true r1
              split at r2
              · rename_i cj fs he
                have r2 := of_decide_eq_true r2
                rw [r2] at he
                have hcl : ∃ cell : Cell, H[b + a]? = some cell ∧ cell.vm.isStatics = false ∧ s.vm.findClass M.1.cls = some cell.cls := by
                  have hat := hR.2 a r1
                  rw [he] at hat
                  obtain ⟨r', g1, cell, q1, q2, q3, -⟩ := hat
                  rcases s2 with ⟨r0, z1, z2⟩ | ⟨z1, -⟩
                  · refine ⟨cell, q1, by rw [q3]; rfl, ?_⟩
                    rw [← z2, q2]
                    exact (hK.1 _ _ z1).2.1
                  · dsimp only at g1
                    rw [z1] at g1
                    simp [vwCl] at g1
                exact fin hmono rfl rfl (va_runV (As := rS b o as) (rest := rS b o r) ⟨hx, hb, hml, hown, hts⟩ hmet cw ⟨sPre_blind, hcl, s_preS hR hS hK hE⟩ rfl hn hl.1 rfl (lv_room hroom) hdg hf) rfl
              · cases r2
            | retAddr q =>
              simp only [p_recv, Bool.and_eq_true] at hrv
              obtain ⟨r1, r2⟩ := hrv
              have r1 := of_decide_eq_true r1
              have r2 := of_decide_eq_true r2
              have hcl : ∃ cell : Cell, H[o q]? = some cell ∧ cell.vm.isStatics = false ∧ s.vm.findClass M.1.cls = some cell.cls := by
                obtain ⟨j, rfl, hj⟩ : ∃ j, q = j + 1 ∧ j < 3 := ⟨q - 1, by omega, by omega⟩
                obtain ⟨cell, z1, z2, z3, -⟩ := (hE.2.1 j hj).1.kept hS.2.1
                refine ⟨cell, z1, z2, ?_⟩
                rcases s2 with ⟨r0, y1, y2⟩ | ⟨-, y2⟩
                · rw [r2] at y1
                  simp [vwCl] at y1
                · rw [y2]
                  exact z3
              exact fin hmono rfl rfl (va_runV (As := rS b o as) (rest := rS b o r) ⟨hx, hb, hml, hown, hts⟩ hmet cw ⟨sPre_blind, hcl, s_preS hR hS hK hE⟩ rfl hn hl.1 rfl (lv_room hroom) hdg hf) rfl
            | _ => simp [p_recv] at hrv
          · cases hs
        · cases hs
      · cases hs
    · cases hs
  case invokestatic idx =>
    obtain rfl : len = 3 := of_decide_eq_true hok
    simp only [pstepC] at hs
    split at hs
    · rename_i hx1
      simp only [lnkC, if_pos hx1] at hlk
      split at hs
      · rename_i y hy
        simp only [Option.some.injEq, Prod.mk.injEq] at hs
        obtain ⟨⟨rfl, rfl, rfl⟩, rfl⟩ := hs
        obtain ⟨r, h1⟩ := y
        refine s_copy hx hb (by rw [hml]; exact hl.1.symm) hts hown (hts _ (wd_in hlk)) hK hR hS (by omega) (by omega) hdg hy (fun H1 locs1 z0 z1 z2 => ?_)
        have k3 := k H1 locs1 z1 z2 hl
        dsimp only at k3
        rw [z0.1, z0.2] at k3
        exact k3
      · cases hs
    · rename_i hx1
      split at hs
      · rename_i M hM
        split at hs
        · rename_i as r ha
          split at hs
          · rename_i hg
            split at hs
            · rename_i w h1 hw
              simp only [Option.some.injEq, Prod.mk.injEq] at hs
              obtain ⟨⟨rfl, rfl, rfl⟩, rfl⟩ := hs
              obtain ⟨hmono, hMet⟩ := hF _ _ _ _ _ hw
              have hmet := hMet M hM
              obtain ⟨-, gcode, gplain, gd, gl, gini, gst, ginst, gsel, ginit, -⟩ := mOK_spec (hms M (List.mem_of_getElem? hM))
              simp only [lnkC, if_neg hx1, hM] at hlk
              obtain ⟨l1, l2⟩ := (Bool.and_eq_true _ _).mp hlk
              have l1 := of_decide_eq_true l1
              obtain ⟨e1, e2⟩ := p_args_spec ha
              subst e1
              have hgood : GoodIn gT (va_wsS own idx M.1 (wsM M)) := gT_good (by
                intro w hw
                simp only [va_wsS, List.mem_append, List.mem_cons, List.not_mem_nil, or_false] at hw
                rcases hw with (rfl | rfl | rfl) | hw
                · exact wd_in l2
                · exact gst l1
                · exact gini
                · exact ws_good gcode w hw)
              have cw := va_cwS (R := R) (s := s) (args := args) (own := own) (index := idx) (y := M.1) (bytes := M.2.1) (maxL := M.2.2.1) (mc := h1.1 - h.1) (ms := h1.2.1 - h.2.1) (ret := M.2.2.2.1) (ws := wsM M) (rm := rmd d (h1.1 - h.1) (h1.2.1 - h.2.1)) M.2.2.2.2.1 hts hgood rfl rfl rfl gd ⟨hfr, by show 8 + (M.2.2.1 + 11) + 40 * (d + 1) ≤ R.locals; omega⟩
              have hf : h.1 - c0 + (h1.1 - h.1) ≤ R.cells ∧ h.2.1 - n0 + (h1.2.1 - h.2.1) ≤ R.slots := ⟨by omega, by omega⟩
              have hroom : ((rS b o r).map fun v => v.category).sum ≤ 8 := by rw [rS_cats]; exact hg
              have hst : rS b o (as.reverse ++ r) = (rS b o as).reverse ++ rS b o r := by rw [rS_app, rS_rev]
              rw [hst]
              have hn : (rS b o as).length = M.2.2.2.2.1 := by rw [rS_len, e2]
              exact fin hmono rfl rfl (va_runS (As := rS b o as) (rest := rS b o r) ⟨hx, hb, hml, hown, hts⟩ hmet cw ⟨sPre_blind, s_preS hR hS hK hE⟩ rfl hn hl.1 rfl (lv_room hroom) hdg hf) rfl
            · cases hs
          · cases hs
        · cases hs
      · cases hs
  case invokespecial idx =>
    obtain rfl : len = 3 := of_decide_eq_true hok
    simp only [pstepC] at hs
    split at hs
    · rename_i hx1
      simp only [lnkC, if_pos hx1] at hlk
      split at hs
      · rename_i a r
        split at hs
        · rename_i hg
          simp only [Option.some.injEq, Prod.mk.injEq] at hs
          obtain ⟨⟨rfl, rfl, rfl⟩, rfl⟩ := hs
          have hroom : ((rS b o r).map fun v => v.category).sum ≤ 8 := by rw [rS_cats]; exact hg
          refine W.objInit (a := b + a) (rest := rS b o r) hx hb hown (hts _ (wd_in hlk)) (hts _ gT_oi1) (hts _ gT_oi2) rfl (by rw [hml]; exact hl.1) rfl hdg (by omega) (by show 2 * 0 + _ + 12 ≤ R.locals; omega) ?_
          exact W.eq (g2 := F0 m (pc + 3) LS (rS b o r)) rfl (k H locs hR hS hl)
        · cases hs
      · cases hs
    · rename_i hx1
      simp only [lnkC, if_neg hx1] at hlk
      split at hs
      · rename_i M hM
        simp only [hM] at hlk
        split at hs
        · rename_i as a r ha
          split at hs
          · rename_i hg
            split at hs
            · rename_i w h1 hw
              simp only [Option.some.injEq, Prod.mk.injEq] at hs
              obtain ⟨⟨rfl, rfl, rfl⟩, rfl⟩ := hs
              obtain ⟨hmono, hMet⟩ := hF _ _ _ _ _ hw
              have hmet := hMet M hM
              obtain ⟨-, gcode, gplain, gd, gl, gini, gst, ginst, gsel, ginit, -⟩ := mOK_spec (hms M (List.mem_of_getElem? hM))
              obtain ⟨l1, l2⟩ := (Bool.and_eq_true _ _).mp hlk
              have l1 := of_decide_eq_true l1
              obtain ⟨i1, i2⟩ := ginit l1
              obtain ⟨e1, e2⟩ := p_args_spec ha
              subst e1
              have hw0 : wsM M = Cond.code M.1 M.2.1 M.2.2.1 none :: gT := by unfold wsM; rw [i2]
              have hf : h.1 - c0 + (h1.1 - h.1) ≤ R.cells ∧ h.2.1 - n0 + (h1.2.1 - h.2.1) ≤ R.slots := ⟨by omega, by omega⟩
              have hroom : ((rS b o r).map fun v => v.category).sum ≤ 8 := by rw [rS_cats]; exact hg
              have hst : rS b o (as.reverse ++ .ref a :: r) = (rS b o as).reverse ++ .ref (b + a) :: rS b o r := by rw [rS_app, rS_rev]; rfl
              rw [hst]
              have hn : (rS b o as).length = M.2.2.2.2.1 := by rw [rS_len, e2]
              split at l2
              · have cw := cwI (R := R) (s := s) (args := args) (own := own) (index := idx) (y := M.1) (bytes := M.2.1) (maxL := M.2.2.1) (mc := h1.1 - h.1) (ms := h1.2.1 - h.2.1) (ws := wsM M) (rm := rmd d (h1.1 - h.1) (h1.2.1 - h.2.1)) M.2.2.2.2.1 hts (gT_good (ws_good gcode)) hw0 rfl rfl (hts _ gini) (hts _ (wd_in l2)) (hts _ (ginst (by rw [l1]; decide))) i1 gd ⟨hfr, by show 8 + (M.2.2.1 + 11) + 40 * (d + 1) ≤ R.locals; omega⟩
                exact fin hmono rfl rfl (va_runI (As := rS b o as) (rest := rS b o r) ⟨hx, hb, hml, hown, hts⟩ hmet cw ⟨sPre_blind, s_preS hR hS hK hE⟩ rfl hn hl.1 rfl (lv_room hroom) hdg hf) rfl
              · have hne := hE.2.2.2.1 _ (List.mem_of_getElem? (of_decide_eq_true l2))
                have cw := va_cnB (R := R) (s := s) (args := args) (own := own) (host := "TurnHouse") (index := idx) (y := M.1) (bytes := M.2.1) (maxL := M.2.2.1) (mc := h1.1 - h.1) (ms := h1.2.1 - h.2.1) (ret := none) (ws := wsM M) (rm := rmd d (h1.1 - h.1) (h1.2.1 - h.2.1)) M.2.2.2.2.1 hts (gT_good (ws_good gcode)) hw0 rfl rfl hne (hts _ gini) gd ⟨hfr, by show 8 + (M.2.2.1 + 11) + 40 * (d + 1) ≤ R.locals; omega⟩
                exact fin hmono rfl rfl (va_runIN (As := rS b o as) (rest := rS b o r) ⟨hx, hb, hml, hown, hts⟩ hmet ⟨cw, i1, hts _ (ginst (by rw [l1]; decide))⟩ ⟨sPre_blind, s_preS hR hS hK hE⟩ rfl hn hl.1 rfl (lv_room hroom) hdg hf) rfl
            · cases hs
          · cases hs
        · cases hs
      · cases hs
  all_goals (simp [pstepC] at hs)
theorem pstepC_mono {d : Nat} {F : pFn} {pc : Nat} {i : Instr} {x : pX} {ls : List (Nat × Value)} {st : List Value} {h h' : pH} {f' : pF} (hF : sF l D cA b o en ms d F) (hs : pstepC ms F pc i x ls st h = some (f', h')) : h.1 ≤ h'.1 ∧ h.2.1 ≤ h'.2.1 := by
  have key : ∀ {y : pF × pH}, some y = some (f', h') → (h.1 ≤ y.2.1 ∧ h.2.1 ≤ y.2.2.1) → h.1 ≤ h'.1 ∧ h.2.1 ≤ h'.2.1 := by
    intro y hy hz
    cases hy
    exact hz
  unfold pstepC at hs
  repeat' split at hs
  all_goals first
    | (rename_i hw; exact key hs (p_copy_mono hw))
    | (rename_i hw; exact key hs (hF _ _ _ _ _ hw).1)
    | exact key hs ⟨Nat.le_refl _, Nat.le_refl _⟩
    | cases hs
theorem pstep_mono {d : Nat} {F : pFn} {pc : Nat} {i : Instr} {x : pX} {ls : List (Nat × Value)} {st : List Value} {h : pH} {y : pF × pH} (hF : sF l D cA b o en ms d F) (hs : pstep ms F en pc i x ls st h = some y) : h.1 ≤ y.2.1 ∧ h.2.1 ≤ y.2.2.1 := by
  unfold pstep at hs
  split at hs
  · exact pstepC_mono hF hs
  · split at hs
    · exact pstepH_mono hs
    · split at hs
      · cases hs
        exact ⟨Nat.le_refl _, Nat.le_refl _⟩
      · cases hs
theorem prun_mono {d : Nat} {F : pFn} {ret : Option FieldType} {tab : List pI} {r : Option Value} {h' : pH} (hF : sF l D cA b o en ms d F) : ∀ (n : Nat) (f : pF) (h : pH), prun ms F en ret tab n f h = some (r, h') → h.1 ≤ h'.1 ∧ h.2.1 ≤ h'.2.1 := by
  intro n
  induction n with
  | zero => intro f h hs; cases hs
  | succ n ih =>
    intro f h hs
    unfold prun at hs
    split at hs
    · cases hs
    · split at hs
      · cases hs
        exact ⟨Nat.le_refl _, Nat.le_refl _⟩
      · split at hs
        · rename_i y hy
          have h1 := pstep_mono hF hy
          have h2 := ih _ _ hs
          exact ⟨Nat.le_trans h1.1 h2.1, Nat.le_trans h1.2 h2.2⟩
        · cases hs
theorem s_runG {own : String} {init : Bool} {nL : Nat} {ret : Option FieldType} {tab : List pI} {d c0 n0 : Nat} {F : pFn} {r : Option Value} {h' : pH} (hF : sF l D cA b o en ms d F) (hms : ∀ M ∈ ms, mOK ms M = true) (hfr : d + 2 ≤ R.frames) (hlo : 40 * (d + 1) + 40 ≤ R.locals)
    (hx : p.tables.exec = Jvm.exec) (hb : c.code = cc) (hml : c.maxLocals = nL) (hts : ∀ w ∈ gT, w.before args s = true) (hown : s.vm.findClass own = some m.cls) (hK : va_K D vwCl (tysL cA) s) (hE : sEnv en b o s s.heap) (hinit : init = true → meth.name = "<init>")
    (gtab : ∀ q ∈ tab, decode cc q.1 = .ok (q.2.1, q.2.2.1) ∧ p_ok nL q.1 q.2.1 q.2.2.1 = true ∧ lnk own init q.2.1 q.2.2.2 = true ∧ lnkC ms own q.2.1 q.2.2.2 = true)
    (hcR : h'.1 - c0 ≤ R.cells) (hnR : h'.2.1 - n0 ≤ R.slots)
    (fin : ∀ (pc len : Nat) (i : Instr) (st : List Value) (H : Heap) (locs : List Loc) (LS : Array Slot), decode cc pc = .ok (i, len) → p_ok nL pc i len = true → p_ret ret i st = some r → sRep D cA b o h' H → va_S (fun q => b ≤ q) s.heap H locs → W p l e R s m args below meth c H locs (h'.1 - c0) (h'.2.1 - n0) Q (F0 m pc LS (rS b o st))) :
    ∀ (n : Nat) (f : pF) (h : pH) (H : Heap) (locs : List Loc) (LS : Array Slot), prun ms F en ret tab n f h = some (r, h') → c0 ≤ h.1 → n0 ≤ h.2.1 → sRep D cA b o h H → va_S (fun q => b ≤ q) s.heap H locs → lv_has LS nL (rL b o f.2.1) →
      W p l e R s m args below meth c H locs (h.1 - c0) (h.2.1 - n0) Q (F0 m f.1 LS (rS b o f.2.2)) := by
  intro n
  induction n with
  | zero => intro f h H locs LS hs; cases hs
  | succ n ih =>
    intro f h H locs LS hs hc0 hn0 hR hS hl
    unfold prun at hs
    split at hs
    · cases hs
    · rename_i q hq
      obtain ⟨hdg, hok, hlk, hlkC⟩ := gtab _ (p_find_mem hq)
      dsimp only at hdg hok hlk hlkC
      split at hs
      · rename_i v hv
        simp only [Option.some.injEq, Prod.mk.injEq] at hs
        obtain ⟨rfl, rfl⟩ := hs
        exact fin _ _ _ _ H locs LS hdg hok hv hR hS
      · split at hs
        · rename_i y hy
          have hm1 := pstep_mono hF hy
          have hm2 := prun_mono hF _ _ _ hs
          obtain ⟨pc, ls, st⟩ := f
          obtain ⟨i, len, x⟩ := q
          obtain ⟨⟨pc', ls', st'⟩, h1⟩ := y
          dsimp only at hdg hok hlk hlkC hy hl hs hm1 hm2 ⊢
          have go : ∀ (H1 : Heap) (locs1 : List Loc) (LS1 : Array Slot), sRep D cA b o h1 H1 → va_S (fun q => b ≤ q) s.heap H1 locs1 → lv_has LS1 nL (rL b o ls') → W p l e R s m args below meth c H1 locs1 (h1.1 - c0) (h1.2.1 - n0) Q (F0 m pc' LS1 (rS b o st')) :=
            fun H1 locs1 LS1 a1 a2 a3 => ih (pc', ls', st') h1 H1 locs1 LS1 hs (Nat.le_trans hc0 hm1.1) (Nat.le_trans hn0 hm1.2) a1 a2 a3
          unfold pstep at hy
          split at hy
          · exact sC hF hms hfr hlo hx hb hml hts hown hK hE hR hS hdg hok hlkC hl hy hc0 hn0 (by omega) (by omega) (fun H1 locs1 a1 a2 a3 => go H1 locs1 LS a1 a2 a3)
          · split at hy
            · exact sH hx hb hts hown hK hE hinit hR hS hdg hok hlk hl hy hc0 hn0 (by omega) (by omega) (fun H1 locs1 a1 a2 a3 => go H1 locs1 LS a1 a2 a3)
            · split at hy
              · rename_i f1 hf1
                cases hy
                exact sL hx hb hdg hok hl hf1 (fun LS' a3 => go H locs LS' hR hS a3)
              · cases hy
        · cases hs
theorem s_run {M : pM} {d c0 n0 : Nat} {F : pFn} {r : Option Value} {h' : pH} (hF : sF l D cA b o en ms d F) (hms : ∀ M ∈ ms, mOK ms M = true) (hMk : mOK ms M = true) (hfr : d + 2 ≤ R.frames) (hlo : 40 * (d + 1) + 40 ≤ R.locals)
    (hx : p.tables.exec = Jvm.exec) (hb : c.code = M.2.1) (hml : c.maxLocals = M.2.2.1) (hts : ∀ w ∈ gT, w.before args s = true) (hown : s.vm.findClass M.1.cls = some m.cls) (hK : va_K D vwCl (tysL cA) s) (hE : sEnv en b o s s.heap) (hname : meth.name = M.1.name) (hr : meth.sig.returnType = M.2.2.2.1) (hlocks : meth.locks = false)
    (hcR : h'.1 - c0 ≤ R.cells) (hnR : h'.2.1 - n0 ≤ R.slots) :
    ∀ (n : Nat) (f : pF) (h : pH) (H : Heap) (locs : List Loc) (LS : Array Slot), prun ms F en M.2.2.2.1 M.2.2.2.2.2.2.2.2 n f h = some (r, h') → c0 ≤ h.1 → n0 ≤ h.2.1 → sRep D cA b o h H → va_S (fun q => b ≤ q) s.heap H locs → lv_has LS M.2.2.1 (rL b o f.2.1) →
      W p l e R s m args below meth c H locs (h.1 - c0) (h.2.1 - n0) (MQ below (sPost D cA b o r h') args s (h'.1 - c0) (h'.2.1 - n0) (fun q => b ≤ q)) (F0 m f.1 LS (rS b o f.2.2)) := by
  obtain ⟨-, -, -, -, -, -, -, -, -, ginit, gtab⟩ := mOK_spec hMk
  refine s_runG hF hms hfr hlo hx hb hml hts hown hK hE (fun z => by rw [hname]; exact (ginit (of_decide_eq_true z)).1) gtab hcR hnR ?_
  intro pc len i st H locs LS hdg hok hv hR hS
  unfold p_ret at hv
  split at hv
  · obtain rfl : len = 1 := of_decide_eq_true hok
    split at hv
    · rename_i z
      split at hv
      · rename_i hret
        cases hv
        exact W.iret hx hb (by rw [hr, hret]) (fun t ht hW => ⟨rfl, by rw [ht]; exact hR, hS.F ht⟩) hS.2.2 hdg hlocks
      · rename_i hret
        split at hv
        · rename_i hz
          cases hv
          exact W.zret hx hb (ty := .boolean) (by rw [hr, hret]) (by rcases hz with rfl | rfl <;> rfl) (fun t ht hW => ⟨rfl, by rw [ht]; exact hR, hS.F ht⟩) hS.2.2 hdg hlocks
        · cases hv
      · rename_i hret
        split at hv
        · rename_i hz
          cases hv
          exact W.zret hx hb (ty := .char) (by rw [hr, hret]) hz (fun t ht hW => ⟨rfl, by rw [ht]; exact hR, hS.F ht⟩) hS.2.2 hdg hlocks
        · cases hv
      · rename_i hret
        split at hv
        · rename_i hz
          cases hv
          exact W.zret hx hb (ty := .byte) (by rw [hr, hret]) hz (fun t ht hW => ⟨rfl, by rw [ht]; exact hR, hS.F ht⟩) hS.2.2 hdg hlocks
        · cases hv
      · cases hv
    · cases hv
  · obtain rfl : len = 1 := of_decide_eq_true hok
    split at hv
    · rename_i z
      split at hv
      · rename_i hret
        cases hv
        exact W.lret hx hb (by rw [hr, hret]) (fun t ht hW => ⟨rfl, by rw [ht]; exact hR, hS.F ht⟩) hS.2.2 hdg hlocks
      · cases hv
    · cases hv
  · obtain rfl : len = 1 := of_decide_eq_true hok
    split at hv
    · rename_i z
      split at hv
      · rename_i t hret
        cases hv
        exact W.aret hx hb (rt := .array t) (by rw [hr, hret]) (Or.inr ⟨_, rfl⟩) (Or.inr ⟨_, rfl⟩) (fun t ht hW => ⟨rfl, by rw [ht]; exact hR, hS.F ht⟩) hS.2.2 hdg hlocks
      · cases hv
    · cases hv
  · obtain rfl : len = 1 := of_decide_eq_true hok
    split at hv
    · split at hv
      · rename_i hret
        cases hv
        exact W.vret hx hb (by rw [hr, hret]) (fun t ht hW => ⟨rfl, by rw [ht]; exact hR, hS.F ht⟩) hS.2.2 hdg hlocks
      · cases hv
    · cases hv
  · cases hv
theorem lv_args_rS (b : Nat) (o : Nat → Nat) : ∀ (as : List Value) (i : Nat), lv_args i (rS b o as) = rL b o (lv_args i as) := by
  intro as
  induction as with
  | nil => intro i; rfl
  | cons v as ih =>
    intro i
    show (i, rV b o v) :: lv_args (if (rV b o v).category = 2 then i + 2 else i + 1) (rS b o as) = (i, rV b o v) :: rL b o (lv_args (if v.category = 2 then i + 2 else i + 1) as)
    rw [rV_cat, ih]
theorem lg_sl_rS (b : Nat) (o : Nat → Nat) (as : List Value) : (lg_sl (rS b o as)).length = (lg_sl as).length := by
  induction as with
  | nil => rfl
  | cons v as ih =>
    have e1 : ∀ (w : Value) (l : List Value), lg_sl (w :: l) = (if w.category = 2 then [.val w, .second] else [.val w]) ++ lg_sl l := fun w l => by
      unfold lg_sl
      rw [List.flatMap_cons]
    show (lg_sl (rV b o v :: rS b o as)).length = _
    rw [e1, e1, List.length_append, List.length_append, ih, rV_cat]
    split <;> rfl
/-- a method that the small machine runs to its end meets that as its contract -/
theorem met_of {M : pM} {d n : Nat} {F : pFn} {as : List Value} {h h' : pH} {r : Option Value} (hF : sF l D cA b o en ms d F) (hms : ∀ M ∈ ms, mOK ms M = true) (hMk : mOK ms M = true) (hlen : (lg_sl as).length ≤ M.2.2.1) (hs : prun ms F en M.2.2.2.1 M.2.2.2.2.2.2.2.2 n (0, lv_args 0 as, []) h = some (r, h')) :
    (h.1 ≤ h'.1 ∧ h.2.1 ≤ h'.2.1) ∧ Met l M.1 (wsM M) (rmd (d + 1) (h'.1 - h.1) (h'.2.1 - h.2.1)) (sPre D cA b o en as h) (sPost D cA b o r h') (h'.1 - h.1) (h'.2.1 - h.2.1) (fun q => b ≤ q) := by
  refine ⟨prun_mono hF _ _ _ hs, ?_⟩
  obtain ⟨-, -, gplain, -, -, -, -, -, -, -, -⟩ := mOK_spec hMk
  refine MetFree.of_bodySF (code := M.2.1) (maxLocals := M.2.2.1) (ret := M.2.2.2.1) gplain (fun args s m h hn => ?_) ?_
  · obtain ⟨meth, c, k⟩ := Cond.code_spec hn (atoms_spec (ws := wsM M) h _ List.mem_cons_self)
    exact ⟨meth, c, k.1, k.2.1, k.2.2.1, k.2.2.2.1, k.2.2.2.2.1, k.2.2.2.2.2.1⟩
  intro p e s m args below meth c s₁ B hml hv _
  obtain ⟨rfl, hR, hK, hE⟩ := hv
  have hts0 := atoms_spec (ws := wsM M) B.pre
  have hl := lv_entry (rS b o as) (n := M.2.2.1) (by rw [lg_sl_rS]; exact hlen)
  rw [lv_args_rS] at hl
  rw [lg_entry_eq]
  have K := s_run (R := rmd (d + 1) (h'.1 - h.1) (h'.2.1 - h.2.1)) (p := p) (l := l) (e := e) (s := s) (m := m) (args := (rS b o as).toArray) (below := below) (meth := meth) (c := c) (M := M) (d := d) (c0 := h.1) (n0 := h.2.1) (F := F) (r := r) (h' := h') hF hms hMk (Nat.le_refl _) (by show 40 * (d + 1) + 40 ≤ 40 * (d + 1 + 1); omega)
    B.exec B.bytes hml (fun w hw => hts0 w (List.mem_cons_of_mem _ hw)) (findClass_of_methodNamed B.named) hK hE (name_of_methodNamed B.named B.method).1 B.returns B.notSynchronized (Nat.le_refl _) (Nat.le_refl _) n (0, lv_args 0 as, []) h s.heap [] _ hs (Nat.le_refl _) (Nat.le_refl _) hR va_S.rf hl
  rw [Nat.sub_self, Nat.sub_self] at K
  obtain ⟨t, k1, w, k2, k3, k4⟩ := K s₁ (by rw [B.state]; rfl) (Stand.of_body B)
  exact ⟨t, w, k1, k2, k3, k4.1, k4.2⟩
end SIMR
end
section
/-! ALL METHODS AT ONCE: pev ms en d y as h: what method y of the list gives, with d frames. -/
theorem prun_more {ms : List pM} {F : pFn} {en : pN} {ret : Option FieldType} {tab : List pI} {r : pR} : ∀ (n k : Nat) (f : pF) (h : pH), prun ms F en ret tab n f h = some r → prun ms F en ret tab (n + k) f h = some r := by
  intro n
  induction n with
  | zero => intro k f h hs; cases hs
  | succ n ih =>
    intro k f h hs
    rw [Nat.succ_add]
    unfold prun at hs ⊢
    split at hs
    · cases hs
    · rename_i q hq
      split at hs
      · exact hs
      · split at hs
        · exact ih k _ _ hs
        · cases hs
theorem prun_one {ms : List pM} {F : pFn} {en : pN} {ret : Option FieldType} {tab : List pI} {r1 r2 : pR} {n1 n2 : Nat} {f : pF} {h : pH} (h1 : prun ms F en ret tab n1 f h = some r1) (h2 : prun ms F en ret tab n2 f h = some r2) : r1 = r2 := by
  have a1 := prun_more n1 n2 f h h1
  have a2 := prun_more n2 n1 f h h2
  rw [Nat.add_comm n2 n1, a1] at a2
  exact Option.some.inj a2
noncomputable def pev (ms : List pM) (en : pN) : Nat → pFn
  | 0 => fun _ _ _ => none
  | d + 1 => fun y as h => match ms[y]? with
    | none => none
    | some M => @dite _ ((lg_sl as).length ≤ M.2.2.1 ∧ ∃ q : Nat × pR, prun ms (pev ms en d) en M.2.2.2.1 M.2.2.2.2.2.2.2.2 q.1 (0, lv_args 0 as, []) h = some q.2) (Classical.propDecidable _) (fun z => some z.2.choose.2) (fun _ => none)
theorem pev_of {ms : List pM} {en : pN} {d y n : Nat} {as : List Value} {h : pH} {M : pM} {r : pR} (hM : ms[y]? = some M) (hlen : (lg_sl as).length ≤ M.2.2.1) (hs : prun ms (pev ms en d) en M.2.2.2.1 M.2.2.2.2.2.2.2.2 n (0, lv_args 0 as, []) h = some r) : pev ms en (d + 1) y as h = some r := by
  have hz : (lg_sl as).length ≤ M.2.2.1 ∧ ∃ q : Nat × pR, prun ms (pev ms en d) en M.2.2.2.1 M.2.2.2.2.2.2.2.2 q.1 (0, lv_args 0 as, []) h = some q.2 := ⟨hlen, (n, r), hs⟩
  show (match ms[y]? with
    | none => none
    | some M => @dite _ ((lg_sl as).length ≤ M.2.2.1 ∧ ∃ q : Nat × pR, prun ms (pev ms en d) en M.2.2.2.1 M.2.2.2.2.2.2.2.2 q.1 (0, lv_args 0 as, []) h = some q.2) (Classical.propDecidable _) (fun z => some z.2.choose.2) (fun _ => none)) = some r
  rw [hM]
  dsimp only
  rw [dif_pos hz]
  exact congrArg some (prun_one hz.2.choose_spec hs)
theorem sF_pev {l : Launch} {D : va_G} {cA : Nat → ClassId} {en : pN} {b : Nat} {o : Nat → Nat} {ms : List pM} (hms : ∀ M ∈ ms, mOK ms M = true) : ∀ d : Nat, sF l D cA b o en ms d (pev ms en d) := by
  intro d
  induction d with
  | zero => intro y as h r h' hs; cases hs
  | succ d ih =>
    intro y as h r h' hs
    have hs : (match ms[y]? with
      | none => none
      | some M => @dite _ ((lg_sl as).length ≤ M.2.2.1 ∧ ∃ q : Nat × pR, prun ms (pev ms en d) en M.2.2.2.1 M.2.2.2.2.2.2.2.2 q.1 (0, lv_args 0 as, []) h = some q.2) (Classical.propDecidable _) (fun z => some z.2.choose.2) (fun _ => none)) = some (r, h') := hs
    split at hs
    · cases hs
    · rename_i M hM
      split at hs
      · rename_i hz
        have h1 := hz.2.choose_spec
        rw [Option.some.inj hs] at h1
        have h2 := met_of (l := l) (D := D) (cA := cA) (b := b) (o := o) ih hms (hms M (List.mem_of_getElem? hM)) hz.1 h1
        refine ⟨h2.1, fun M' hM' => ?_⟩
        cases hM.symm.trans hM'
        exact h2.2
      · cases hs
end
section
/-! the instructions of the methods, printed by program -/
set_option maxRecDepth 100000 in
def tb_X0_init : List pI := [(0, .aload_n 0, 1, (0, 0, 0)), (1, .invokespecial 3, 3, (-1, 0, 459)), (4, .aload_n 0, 1, (0, 0, 0)), (5, .sipush 10000, 3, (0, 0, 0)), (8, .newarray .int, 2, (0, 0, 222)), (10, .putfield 9, 3, (0, 0, 460)), (13, .aload_n 0, 1, (0, 0, 0)), (14, .bipush 8, 2, (0, 0, 0)), (16, .newarray .int, 2, (0, 0, 222)), (18, .putfield 15, 3, (0, 1, 461)), (21, .aload_n 0, 1, (0, 0, 0)), (22, .iconst 4, 1, (0, 0, 0)), (23, .newarray .int, 2, (0, 0, 222)), (25, .putfield 18, 3, (0, 2, 462)), (28, .aload_n 0, 1, (0, 0, 0)), (29, .iconst 5, 1, (0, 0, 0)), (30, .newarray .int, 2, (0, 0, 222)), (32, .putfield 21, 3, (0, 3, 463)), (35, .aload_n 0, 1, (0, 0, 0)), (36, .iconst 4, 1, (0, 0, 0)), (37, .newarray .int, 2, (0, 0, 222)), (39, .putfield 24, 3, (0, 4, 464)), (42, .aload_n 0, 1, (0, 0, 0)), (43, .iconst 4, 1, (0, 0, 0)), (44, .newarray .int, 2, (0, 0, 222)), (46, .putfield 27, 3, (0, 5, 465)), (49, .return_, 1, (0, 0, 0))]
set_option maxRecDepth 100000 in
def tb_X0_clear : List pI := [(0, .aload_n 0, 1, (0, 0, 0)), (1, .getfield 9, 3, (0, 0, 460)), (4, .iconst (-1), 1, (0, 0, 0)), (5, .invokestatic 30, 3, (435, 0, 983)), (8, .aload_n 0, 1, (0, 0, 0)), (9, .getfield 15, 3, (0, 1, 461)), (12, .iconst 1, 1, (0, 0, 0)), (13, .aload_n 1, 1, (0, 0, 0)), (14, .getfield 36, 3, (5, 10, 286)), (17, .ishl, 1, (0, 0, 0)), (18, .iconst 1, 1, (0, 0, 0)), (19, .isub, 1, (0, 0, 0)), (20, .invokestatic 30, 3, (435, 0, 983)), (23, .aload_n 0, 1, (0, 0, 0)), (24, .getfield 18, 3, (0, 2, 462)), (27, .iconst 0, 1, (0, 0, 0)), (28, .invokestatic 30, 3, (435, 0, 983)), (31, .aload_n 0, 1, (0, 0, 0)), (32, .getfield 21, 3, (0, 3, 463)), (35, .bipush (-2), 2, (0, 0, 0)), (37, .invokestatic 30, 3, (435, 0, 983)), (40, .aload_n 0, 1, (0, 0, 0)), (41, .getfield 21, 3, (0, 3, 463)), (44, .iconst 0, 1, (0, 0, 0)), (45, .iconst 0, 1, (0, 0, 0)), (46, .iastore, 1, (0, 0, 0)), (47, .aload_n 0, 1, (0, 0, 0)), (48, .getfield 21, 3, (0, 3, 463)), (51, .iconst 3, 1, (0, 0, 0)), (52, .iconst 0, 1, (0, 0, 0)), (53, .iastore, 1, (0, 0, 0)), (54, .aload_n 0, 1, (0, 0, 0)), (55, .iconst 0, 1, (0, 0, 0)), (56, .putfield 42, 3, (0, 6, 466)), (59, .return_, 1, (0, 0, 0))]
set_option maxRecDepth 100000 in
def tb_X0_see : List pI := [(0, .aload_n 1, 1, (0, 0, 0)), (1, .getfield 45, 3, (3, 7, 413)), (4, .astore_n 3, 1, (0, 0, 0)), (5, .iconst 0, 1, (0, 0, 0)), (6, .istore 4, 2, (0, 0, 0)), (8, .iload 4, 2, (0, 0, 0)), (10, .aload_n 3, 1, (0, 0, 0)), (11, .getfield 51, 3, (5, 11, 292)), (14, .if_icmp .ge 172, 3, (0, 0, 0)), (17, .aload_n 1, 1, (0, 0, 0)), (18, .getfield 54, 3, (3, 0, 399)), (21, .iconst 4, 1, (0, 0, 0)), (22, .iload 4, 2, (0, 0, 0)), (24, .iadd, 1, (0, 0, 0)), (25, .iaload, 1, (0, 0, 0)), (26, .istore 5, 2, (0, 0, 0)), (28, .iload 5, 2, (0, 0, 0)), (30, .ifCond .lt 25, 3, (0, 0, 0)), (33, .aload_n 3, 1, (0, 0, 0)), (34, .iload 5, 2, (0, 0, 0)), (36, .invokevirtual 57, 3, (103, 0, 1036)), (39, .ifCond .eq 16, 3, (0, 0, 0)), (42, .aload_n 1, 1, (0, 0, 0)), (43, .iload 4, 2, (0, 0, 0)), (45, .invokevirtual 61, 3, (44, 0, 1040)), (48, .ifCond .le 7, 3, (0, 0, 0)), (51, .iconst 1, 1, (0, 0, 0)), (52, .goto 4, 3, (0, 0, 0)), (55, .iconst 0, 1, (0, 0, 0)), (56, .istore 6, 2, (0, 0, 0)), (58, .aload_n 0, 1, (0, 0, 0)), (59, .getfield 24, 3, (0, 4, 464)), (62, .iload 4, 2, (0, 0, 0)), (64, .iload 6, 2, (0, 0, 0)), (66, .ifCond .eq 8, 3, (0, 0, 0)), (69, .iload 5, 2, (0, 0, 0)), (71, .goto 4, 3, (0, 0, 0)), (74, .iconst (-1), 1, (0, 0, 0)), (75, .iastore, 1, (0, 0, 0)), (76, .iload 6, 2, (0, 0, 0)), (78, .ifCond .eq 26, 3, (0, 0, 0)), (81, .aload_n 0, 1, (0, 0, 0)), (82, .getfield 15, 3, (0, 1, 461)), (85, .aload_n 3, 1, (0, 0, 0)), (86, .getfield 65, 3, (5, 6, 271)), (89, .iconst 2, 1, (0, 0, 0)), (90, .aaload, 1, (0, 0, 0)), (91, .iload 5, 2, (0, 0, 0)), (93, .iaload, 1, (0, 0, 0)), (94, .dup2, 1, (0, 0, 0)), (95, .iaload, 1, (0, 0, 0)), (96, .aload_n 1, 1, (0, 0, 0)), (97, .iload 4, 2, (0, 0, 0)), (99, .invokevirtual 69, 3, (50, 0, 1041)), (102, .iand, 1, (0, 0, 0)), (103, .iastore, 1, (0, 0, 0)), (104, .iconst 0, 1, (0, 0, 0)), (105, .istore 7, 2, (0, 0, 0)), (107, .iload 7, 2, (0, 0, 0)), (109, .iload 4, 2, (0, 0, 0)), (111, .if_icmp .ge 69, 3, (0, 0, 0)), (114, .iload 6, 2, (0, 0, 0)), (116, .ifCond .eq 58, 3, (0, 0, 0)), (119, .aload_n 0, 1, (0, 0, 0)), (120, .getfield 24, 3, (0, 4, 464)), (123, .iload 7, 2, (0, 0, 0)), (125, .iaload, 1, (0, 0, 0)), (126, .ifCond .lt 48, 3, (0, 0, 0)), (129, .aload_n 3, 1, (0, 0, 0)), (130, .iload 5, 2, (0, 0, 0)), (132, .aload_n 0, 1, (0, 0, 0)), (133, .getfield 24, 3, (0, 4, 464)), (136, .iload 7, 2, (0, 0, 0)), (138, .iaload, 1, (0, 0, 0)), (139, .invokevirtual 72, 3, (104, 0, 1045)), (142, .ifCond .eq 32, 3, (0, 0, 0)), (145, .aload_n 0, 1, (0, 0, 0)), (146, .iload 5, 2, (0, 0, 0)), (148, .aload_n 0, 1, (0, 0, 0)), (149, .getfield 24, 3, (0, 4, 464)), (152, .iload 7, 2, (0, 0, 0)), (154, .iaload, 1, (0, 0, 0)), (155, .invokestatic 76, 3, (412, 0, 1050)), (158, .iload 5, 2, (0, 0, 0)), (160, .aload_n 0, 1, (0, 0, 0)), (161, .getfield 24, 3, (0, 4, 464)), (164, .iload 7, 2, (0, 0, 0)), (166, .iaload, 1, (0, 0, 0)), (167, .invokestatic 82, 3, (411, 0, 1053)), (170, .iload_n 2, 1, (0, 0, 0)), (171, .invokevirtual 85, 3, (3, 0, 1054)), (174, .iinc 7 1, 3, (0, 0, 0)), (177, .goto (-70), 3, (0, 0, 0)), (180, .iinc 4 1, 3, (0, 0, 0)), (183, .goto (-175), 3, (0, 0, 0)), (186, .return_, 1, (0, 0, 0))]
set_option maxRecDepth 100000 in
def tb_X0_noteRace : List pI := [(0, .aload_n 0, 1, (0, 0, 0)), (1, .getfield 9, 3, (0, 0, 460)), (4, .iload_n 1, 1, (0, 0, 0)), (5, .bipush 100, 2, (0, 0, 0)), (7, .imul, 1, (0, 0, 0)), (8, .iload_n 2, 1, (0, 0, 0)), (9, .iadd, 1, (0, 0, 0)), (10, .iaload, 1, (0, 0, 0)), (11, .ifCond .ge 25, 3, (0, 0, 0)), (14, .aload_n 0, 1, (0, 0, 0)), (15, .getfield 9, 3, (0, 0, 460)), (18, .iload_n 1, 1, (0, 0, 0)), (19, .bipush 100, 2, (0, 0, 0)), (21, .imul, 1, (0, 0, 0)), (22, .iload_n 2, 1, (0, 0, 0)), (23, .iadd, 1, (0, 0, 0)), (24, .iload_n 3, 1, (0, 0, 0)), (25, .iastore, 1, (0, 0, 0)), (26, .aload_n 0, 1, (0, 0, 0)), (27, .dup, 1, (0, 0, 0)), (28, .getfield 42, 3, (0, 6, 466)), (31, .iconst 1, 1, (0, 0, 0)), (32, .iadd, 1, (0, 0, 0)), (33, .putfield 42, 3, (0, 6, 466)), (36, .return_, 1, (0, 0, 0))]
set_option maxRecDepth 100000 in
def tb_X0_noteTaking : List pI := [(0, .aload_n 1, 1, (0, 0, 0)), (1, .iload_n 2, 1, (0, 0, 0)), (2, .invokevirtual 89, 3, (51, 0, 1070)), (5, .istore_n 3, 1, (0, 0, 0)), (6, .aload_n 1, 1, (0, 0, 0)), (7, .iload_n 2, 1, (0, 0, 0)), (8, .invokevirtual 69, 3, (50, 0, 1041)), (11, .istore 4, 2, (0, 0, 0)), (13, .iconst 0, 1, (0, 0, 0)), (14, .istore 5, 2, (0, 0, 0)), (16, .iload 5, 2, (0, 0, 0)), (18, .iconst 4, 1, (0, 0, 0)), (19, .if_icmp .ge 45, 3, (0, 0, 0)), (22, .iload_n 3, 1, (0, 0, 0)), (23, .ifCond .lt 41, 3, (0, 0, 0)), (26, .iload 4, 2, (0, 0, 0)), (28, .iload 5, 2, (0, 0, 0)), (30, .ishr, 1, (0, 0, 0)), (31, .iconst 1, 1, (0, 0, 0)), (32, .iand, 1, (0, 0, 0)), (33, .ifCond .eq 25, 3, (0, 0, 0)), (36, .iload 4, 2, (0, 0, 0)), (38, .iload_n 3, 1, (0, 0, 0)), (39, .ishr, 1, (0, 0, 0)), (40, .iconst 1, 1, (0, 0, 0)), (41, .iand, 1, (0, 0, 0)), (42, .ifCond .ne 16, 3, (0, 0, 0)), (45, .aload_n 0, 1, (0, 0, 0)), (46, .getfield 18, 3, (0, 2, 462)), (49, .iload 5, 2, (0, 0, 0)), (51, .dup2, 1, (0, 0, 0)), (52, .iaload, 1, (0, 0, 0)), (53, .iconst 1, 1, (0, 0, 0)), (54, .iload_n 3, 1, (0, 0, 0)), (55, .ishl, 1, (0, 0, 0)), (56, .ior, 1, (0, 0, 0)), (57, .iastore, 1, (0, 0, 0)), (58, .iinc 5 1, 3, (0, 0, 0)), (61, .goto (-45), 3, (0, 0, 0)), (64, .return_, 1, (0, 0, 0))]
set_option maxRecDepth 100000 in
def tb_X0_seeStuck : List pI := [(0, .iconst 0, 1, (0, 0, 0)), (1, .istore_n 3, 1, (0, 0, 0)), (2, .iconst 0, 1, (0, 0, 0)), (3, .istore 4, 2, (0, 0, 0)), (5, .iload 4, 2, (0, 0, 0)), (7, .aload_n 1, 1, (0, 0, 0)), (8, .getfield 45, 3, (3, 7, 413)), (11, .getfield 51, 3, (5, 11, 292)), (14, .if_icmp .ge 32, 3, (0, 0, 0)), (17, .iload_n 3, 1, (0, 0, 0)), (18, .ifCond .ne 16, 3, (0, 0, 0)), (21, .aload_n 1, 1, (0, 0, 0)), (22, .getfield 54, 3, (3, 0, 399)), (25, .iconst 0, 1, (0, 0, 0)), (26, .iload 4, 2, (0, 0, 0)), (28, .iadd, 1, (0, 0, 0)), (29, .iaload, 1, (0, 0, 0)), (30, .iconst 2, 1, (0, 0, 0)), (31, .if_icmp .ne 7, 3, (0, 0, 0)), (34, .iconst 1, 1, (0, 0, 0)), (35, .goto 4, 3, (0, 0, 0)), (38, .iconst 0, 1, (0, 0, 0)), (39, .istore_n 3, 1, (0, 0, 0)), (40, .iinc 4 1, 3, (0, 0, 0)), (43, .goto (-38), 3, (0, 0, 0)), (46, .aload_n 0, 1, (0, 0, 0)), (47, .aload_n 1, 1, (0, 0, 0)), (48, .invokevirtual 98, 3, (9, 0, 1066)), (51, .istore 4, 2, (0, 0, 0)), (53, .iload 4, 2, (0, 0, 0)), (55, .ifCond .lt 11, 3, (0, 0, 0)), (58, .aload_n 0, 1, (0, 0, 0)), (59, .iconst 0, 1, (0, 0, 0)), (60, .iload_n 2, 1, (0, 0, 0)), (61, .iload 4, 2, (0, 0, 0)), (63, .invokevirtual 102, 3, (8, 0, 1074)), (66, .iload_n 3, 1, (0, 0, 0)), (67, .ifCond .eq 11, 3, (0, 0, 0)), (70, .aload_n 0, 1, (0, 0, 0)), (71, .iconst 3, 1, (0, 0, 0)), (72, .iload_n 2, 1, (0, 0, 0)), (73, .bipush (-2), 2, (0, 0, 0)), (75, .invokevirtual 102, 3, (8, 0, 1074)), (78, .return_, 1, (0, 0, 0))]
set_option maxRecDepth 100000 in
def tb_X0_noteStuck : List pI := [(0, .aload_n 0, 1, (0, 0, 0)), (1, .getfield 21, 3, (0, 3, 463)), (4, .iload_n 1, 1, (0, 0, 0)), (5, .iaload, 1, (0, 0, 0)), (6, .ifCond .ne 23, 3, (0, 0, 0)), (9, .aload_n 0, 1, (0, 0, 0)), (10, .getfield 21, 3, (0, 3, 463)), (13, .iload_n 1, 1, (0, 0, 0)), (14, .iconst 1, 1, (0, 0, 0)), (15, .iadd, 1, (0, 0, 0)), (16, .iload_n 2, 1, (0, 0, 0)), (17, .iastore, 1, (0, 0, 0)), (18, .iload_n 1, 1, (0, 0, 0)), (19, .ifCond .ne 10, 3, (0, 0, 0)), (22, .aload_n 0, 1, (0, 0, 0)), (23, .getfield 21, 3, (0, 3, 463)), (26, .iconst 2, 1, (0, 0, 0)), (27, .iload_n 3, 1, (0, 0, 0)), (28, .iastore, 1, (0, 0, 0)), (29, .aload_n 0, 1, (0, 0, 0)), (30, .getfield 21, 3, (0, 3, 463)), (33, .iload_n 1, 1, (0, 0, 0)), (34, .dup2, 1, (0, 0, 0)), (35, .iaload, 1, (0, 0, 0)), (36, .iconst 1, 1, (0, 0, 0)), (37, .iadd, 1, (0, 0, 0)), (38, .iastore, 1, (0, 0, 0)), (39, .return_, 1, (0, 0, 0))]
set_option maxRecDepth 100000 in
def tb_X0_leastInRing : List pI := [(0, .iconst 0, 1, (0, 0, 0)), (1, .istore_n 2, 1, (0, 0, 0)), (2, .iload_n 2, 1, (0, 0, 0)), (3, .aload_n 1, 1, (0, 0, 0)), (4, .getfield 45, 3, (3, 7, 413)), (7, .getfield 51, 3, (5, 11, 292)), (10, .if_icmp .ge 64, 3, (0, 0, 0)), (13, .iload_n 2, 1, (0, 0, 0)), (14, .istore_n 3, 1, (0, 0, 0)), (15, .iconst 0, 1, (0, 0, 0)), (16, .istore 4, 2, (0, 0, 0)), (18, .iload 4, 2, (0, 0, 0)), (20, .iconst 4, 1, (0, 0, 0)), (21, .if_icmp .ge 47, 3, (0, 0, 0)), (24, .iload_n 3, 1, (0, 0, 0)), (25, .ifCond .lt 43, 3, (0, 0, 0)), (28, .aload_n 1, 1, (0, 0, 0)), (29, .iload_n 3, 1, (0, 0, 0)), (30, .invokevirtual 89, 3, (51, 0, 1070)), (33, .istore 5, 2, (0, 0, 0)), (35, .iload 5, 2, (0, 0, 0)), (37, .ifCond .ge 7, 3, (0, 0, 0)), (40, .iconst (-1), 1, (0, 0, 0)), (41, .goto 13, 3, (0, 0, 0)), (44, .aload_n 1, 1, (0, 0, 0)), (45, .getfield 54, 3, (3, 0, 399)), (48, .bipush 40, 2, (0, 0, 0)), (50, .iload 5, 2, (0, 0, 0)), (52, .iadd, 1, (0, 0, 0)), (53, .iaload, 1, (0, 0, 0)), (54, .istore_n 3, 1, (0, 0, 0)), (55, .iload_n 3, 1, (0, 0, 0)), (56, .iload_n 2, 1, (0, 0, 0)), (57, .if_icmp .ne 5, 3, (0, 0, 0)), (60, .iload_n 2, 1, (0, 0, 0)), (61, .ireturn, 1, (0, 0, 0)), (62, .iinc 4 1, 3, (0, 0, 0)), (65, .goto (-47), 3, (0, 0, 0)), (68, .iinc 2 1, 3, (0, 0, 0)), (71, .goto (-69), 3, (0, 0, 0)), (74, .iconst (-1), 1, (0, 0, 0)), (75, .ireturn, 1, (0, 0, 0))]
set_option maxRecDepth 100000 in
def tb_X1_init : List pI := [(0, .aload_n 0, 1, (0, 0, 0)), (1, .invokespecial 3, 3, (-1, 0, 667)), (4, .aload_n 0, 1, (0, 0, 0)), (5, .bipush 6, 2, (0, 0, 0)), (7, .sipush 200, 3, (0, 0, 0)), (10, .multianewarray 11 2, 4, (0, 222, 668)), (14, .putfield 13, 3, (1, 0, 669)), (17, .aload_n 0, 1, (0, 0, 0)), (18, .bipush 13, 2, (0, 0, 0)), (20, .bipush 13, 2, (0, 0, 0)), (22, .multianewarray 11 2, 4, (0, 222, 668)), (26, .putfield 16, 3, (1, 1, 670)), (29, .aload_n 0, 1, (0, 0, 0)), (30, .bipush 13, 2, (0, 0, 0)), (32, .newarray .int, 2, (0, 0, 222)), (34, .putfield 19, 3, (1, 2, 671)), (37, .aload_n 0, 1, (0, 0, 0)), (38, .iconst 4, 1, (0, 0, 0)), (39, .newarray .int, 2, (0, 0, 222)), (41, .putfield 23, 3, (1, 3, 672)), (44, .aload_n 0, 1, (0, 0, 0)), (45, .bipush 12, 2, (0, 0, 0)), (47, .newarray .int, 2, (0, 0, 222)), (49, .putfield 26, 3, (1, 4, 673)), (52, .aload_n 0, 1, (0, 0, 0)), (53, .bipush 12, 2, (0, 0, 0)), (55, .newarray .int, 2, (0, 0, 222)), (57, .putfield 29, 3, (1, 5, 674)), (60, .return_, 1, (0, 0, 0))]
set_option maxRecDepth 100000 in
def tb_X2_init : List pI := [(0, .aload_n 0, 1, (0, 0, 0)), (1, .invokespecial 3, 3, (-1, 0, 595)), (4, .aload_n 0, 1, (0, 0, 0)), (5, .sipush 20000, 3, (0, 0, 0)), (8, .newarray .int, 2, (0, 0, 222)), (10, .putfield 9, 3, (2, 2, 598)), (13, .aload_n 0, 1, (0, 0, 0)), (14, .sipush 20000, 3, (0, 0, 0)), (17, .newarray .int, 2, (0, 0, 222)), (19, .putfield 15, 3, (2, 3, 599)), (22, .aload_n 0, 1, (0, 0, 0)), (23, .sipush 20000, 3, (0, 0, 0)), (26, .newarray .int, 2, (0, 0, 222)), (28, .putfield 18, 3, (2, 4, 600)), (31, .aload_n 0, 1, (0, 0, 0)), (32, .sipush 20000, 3, (0, 0, 0)), (35, .newarray .int, 2, (0, 0, 222)), (37, .putfield 21, 3, (2, 5, 601)), (40, .aload_n 0, 1, (0, 0, 0)), (41, .sipush 20000, 3, (0, 0, 0)), (44, .newarray .int, 2, (0, 0, 222)), (46, .putfield 24, 3, (2, 6, 602)), (49, .aload_n 0, 1, (0, 0, 0)), (50, .sipush 20000, 3, (0, 0, 0)), (53, .newarray .int, 2, (0, 0, 222)), (55, .putfield 27, 3, (2, 7, 603)), (58, .aload_n 0, 1, (0, 0, 0)), (59, .sipush 20000, 3, (0, 0, 0)), (62, .newarray .int, 2, (0, 0, 222)), (64, .putfield 30, 3, (2, 8, 604)), (67, .aload_n 0, 1, (0, 0, 0)), (68, .aload_n 1, 1, (0, 0, 0)), (69, .putfield 33, 3, (2, 0, 596)), (72, .aload_n 0, 1, (0, 0, 0)), (73, .aload_n 2, 1, (0, 0, 0)), (74, .putfield 37, 3, (2, 1, 597)), (77, .return_, 1, (0, 0, 0))]
set_option maxRecDepth 100000 in
def tb_X3_init : List pI := [(0, .aload_n 0, 1, (0, 0, 0)), (1, .invokespecial 3, 3, (-1, 0, 397)), (4, .aload_n 0, 1, (0, 0, 0)), (5, .sipush 236, 3, (0, 0, 0)), (8, .newarray .int, 2, (0, 0, 222)), (10, .putfield 11, 3, (3, 0, 398)), (13, .aload_n 0, 1, (0, 0, 0)), (14, .sipush 236, 3, (0, 0, 0)), (17, .newarray .int, 2, (0, 0, 222)), (19, .putfield 15, 3, (3, 1, 402)), (22, .aload_n 0, 1, (0, 0, 0)), (23, .bipush 40, 2, (0, 0, 0)), (25, .newarray .int, 2, (0, 0, 222)), (27, .putfield 18, 3, (3, 2, 403)), (30, .aload_n 0, 1, (0, 0, 0)), (31, .sipush 220, 3, (0, 0, 0)), (34, .newarray .int, 2, (0, 0, 222)), (36, .putfield 21, 3, (3, 4, 408)), (39, .return_, 1, (0, 0, 0))]
set_option maxRecDepth 100000 in
def tb_X3_localSlot : List pI := [(0, .bipush 16, 2, (0, 0, 0)), (2, .iload_n 0, 1, (0, 0, 0)), (3, .bipush 6, 2, (0, 0, 0)), (5, .imul, 1, (0, 0, 0)), (6, .iadd, 1, (0, 0, 0)), (7, .iload_n 1, 1, (0, 0, 0)), (8, .iadd, 1, (0, 0, 0)), (9, .ireturn, 1, (0, 0, 0))]
set_option maxRecDepth 100000 in
def tb_X3_enterFirst : List pI := [(0, .aload_n 0, 1, (0, 0, 0)), (1, .aload_n 1, 1, (0, 0, 0)), (2, .putfield 24, 3, (3, 7, 414)), (5, .aload_n 0, 1, (0, 0, 0)), (6, .iload_n 2, 1, (0, 0, 0)), (7, .putfield 28, 3, (3, 8, 417)), (10, .aload_n 0, 1, (0, 0, 0)), (11, .getfield 11, 3, (3, 0, 398)), (14, .iconst 0, 1, (0, 0, 0)), (15, .invokestatic 32, 3, (435, 0, 763)), (18, .iconst 0, 1, (0, 0, 0)), (19, .istore_n 3, 1, (0, 0, 0)), (20, .iload_n 3, 1, (0, 0, 0)), (21, .aload_n 0, 1, (0, 0, 0)), (22, .getfield 24, 3, (3, 7, 414)), (25, .getfield 38, 3, (5, 9, 283)), (28, .if_icmp .ge 66, 3, (0, 0, 0)), (31, .aload_n 0, 1, (0, 0, 0)), (32, .getfield 11, 3, (3, 0, 398)), (35, .bipush 48, 2, (0, 0, 0)), (37, .iload_n 3, 1, (0, 0, 0)), (38, .iadd, 1, (0, 0, 0)), (39, .aload_n 0, 1, (0, 0, 0)), (40, .getfield 24, 3, (3, 7, 414)), (43, .getfield 43, 3, (5, 4, 266)), (46, .iload_n 3, 1, (0, 0, 0)), (47, .iaload, 1, (0, 0, 0)), (48, .iastore, 1, (0, 0, 0)), (49, .aload_n 0, 1, (0, 0, 0)), (50, .getfield 28, 3, (3, 8, 417)), (53, .iconst 2, 1, (0, 0, 0)), (54, .if_icmp .ne 34, 3, (0, 0, 0)), (57, .aload_n 0, 1, (0, 0, 0)), (58, .getfield 11, 3, (3, 0, 398)), (61, .bipush 72, 2, (0, 0, 0)), (63, .iload_n 3, 1, (0, 0, 0)), (64, .iadd, 1, (0, 0, 0)), (65, .iconst 1, 1, (0, 0, 0)), (66, .iastore, 1, (0, 0, 0)), (67, .aload_n 0, 1, (0, 0, 0)), (68, .getfield 11, 3, (3, 0, 398)), (71, .bipush 80, 2, (0, 0, 0)), (73, .iload_n 3, 1, (0, 0, 0)), (74, .bipush 9, 2, (0, 0, 0)), (76, .imul, 1, (0, 0, 0)), (77, .iadd, 1, (0, 0, 0)), (78, .aload_n 0, 1, (0, 0, 0)), (79, .getfield 24, 3, (3, 7, 414)), (82, .getfield 43, 3, (5, 4, 266)), (85, .iload_n 3, 1, (0, 0, 0)), (86, .iaload, 1, (0, 0, 0)), (87, .iastore, 1, (0, 0, 0)), (88, .iinc 3 1, 3, (0, 0, 0)), (91, .goto (-71), 3, (0, 0, 0)), (94, .iconst 0, 1, (0, 0, 0)), (95, .istore_n 3, 1, (0, 0, 0)), (96, .iload_n 3, 1, (0, 0, 0)), (97, .iconst 4, 1, (0, 0, 0)), (98, .if_icmp .ge 19, 3, (0, 0, 0)), (101, .aload_n 0, 1, (0, 0, 0)), (102, .getfield 11, 3, (3, 0, 398)), (105, .bipush 40, 2, (0, 0, 0)), (107, .iload_n 3, 1, (0, 0, 0)), (108, .iadd, 1, (0, 0, 0)), (109, .iconst (-1), 1, (0, 0, 0)), (110, .iastore, 1, (0, 0, 0)), (111, .iinc 3 1, 3, (0, 0, 0)), (114, .goto (-18), 3, (0, 0, 0)), (117, .iconst 0, 1, (0, 0, 0)), (118, .istore_n 3, 1, (0, 0, 0)), (119, .iload_n 3, 1, (0, 0, 0)), (120, .iconst 4, 1, (0, 0, 0)), (121, .if_icmp .ge 57, 3, (0, 0, 0)), (124, .aload_n 0, 1, (0, 0, 0)), (125, .getfield 11, 3, (3, 0, 398)), (128, .iconst 4, 1, (0, 0, 0)), (129, .iload_n 3, 1, (0, 0, 0)), (130, .iadd, 1, (0, 0, 0)), (131, .iconst (-1), 1, (0, 0, 0)), (132, .iastore, 1, (0, 0, 0)), (133, .iload_n 3, 1, (0, 0, 0)), (134, .aload_n 0, 1, (0, 0, 0)), (135, .getfield 24, 3, (3, 7, 414)), (138, .getfield 46, 3, (5, 11, 293)), (141, .if_icmp .ge 31, 3, (0, 0, 0)), (144, .aload_n 0, 1, (0, 0, 0)), (145, .getfield 24, 3, (3, 7, 414)), (148, .getfield 49, 3, (5, 8, 280)), (151, .iload_n 3, 1, (0, 0, 0)), (152, .ishr, 1, (0, 0, 0)), (153, .iconst 1, 1, (0, 0, 0)), (154, .iand, 1, (0, 0, 0)), (155, .ifCond .ne 17, 3, (0, 0, 0)), (158, .aload_n 0, 1, (0, 0, 0)), (159, .iload_n 3, 1, (0, 0, 0)), (160, .aload_n 0, 1, (0, 0, 0)), (161, .getfield 24, 3, (3, 7, 414)), (164, .getfield 52, 3, (5, 5, 269)), (167, .iload_n 3, 1, (0, 0, 0)), (168, .iaload, 1, (0, 0, 0)), (169, .invokevirtual 55, 3, (34, 0, 766)), (172, .iinc 3 1, 3, (0, 0, 0)), (175, .goto (-56), 3, (0, 0, 0)), (178, .return_, 1, (0, 0, 0))]
set_option maxRecDepth 100000 in
def tb_X3_go : List pI := [(0, .aload_n 0, 1, (0, 0, 0)), (1, .getfield 11, 3, (3, 0, 398)), (4, .iconst 4, 1, (0, 0, 0)), (5, .iload_n 1, 1, (0, 0, 0)), (6, .iadd, 1, (0, 0, 0)), (7, .iload_n 2, 1, (0, 0, 0)), (8, .iastore, 1, (0, 0, 0)), (9, .aload_n 0, 1, (0, 0, 0)), (10, .getfield 11, 3, (3, 0, 398)), (13, .iconst 0, 1, (0, 0, 0)), (14, .iload_n 1, 1, (0, 0, 0)), (15, .iadd, 1, (0, 0, 0)), (16, .iload_n 2, 1, (0, 0, 0)), (17, .ifCond .ge 7, 3, (0, 0, 0)), (20, .iconst 4, 1, (0, 0, 0)), (21, .goto 4, 3, (0, 0, 0)), (24, .iconst 1, 1, (0, 0, 0)), (25, .iastore, 1, (0, 0, 0)), (26, .return_, 1, (0, 0, 0))]
set_option maxRecDepth 100000 in
def tb_X3_pickSlots_0 : List pI := [(0, .aload_n 0, 1, (0, 0, 0)), (1, .iconst 0, 1, (0, 0, 0)), (2, .putfield 59, 3, (3, 5, 410)), (5, .aload_n 0, 1, (0, 0, 0)), (6, .sipush 233, 3, (0, 0, 0)), (9, .iconst 1, 1, (0, 0, 0)), (10, .invokevirtual 62, 3, (36, 0, 971)), (13, .aload_n 0, 1, (0, 0, 0)), (14, .bipush 48, 2, (0, 0, 0)), (16, .aload_n 0, 1, (0, 0, 0)), (17, .getfield 24, 3, (3, 7, 414)), (20, .getfield 38, 3, (5, 9, 283)), (23, .invokevirtual 62, 3, (36, 0, 971)), (26, .iconst 0, 1, (0, 0, 0)), (27, .istore_n 1, 1, (0, 0, 0)), (28, .iload_n 1, 1, (0, 0, 0)), (29, .aload_n 0, 1, (0, 0, 0)), (30, .getfield 24, 3, (3, 7, 414)), (33, .getfield 46, 3, (5, 11, 293)), (36, .if_icmp .ge 27, 3, (0, 0, 0)), (39, .aload_n 0, 1, (0, 0, 0)), (40, .iload_n 1, 1, (0, 0, 0)), (41, .iconst 0, 1, (0, 0, 0)), (42, .invokestatic 65, 3, (32, 0, 857)), (45, .aload_n 0, 1, (0, 0, 0)), (46, .getfield 24, 3, (3, 7, 414)), (49, .getfield 69, 3, (5, 3, 263)), (52, .iload_n 1, 1, (0, 0, 0)), (53, .iaload, 1, (0, 0, 0)), (54, .invokevirtual 62, 3, (36, 0, 971)), (57, .iinc 1 1, 3, (0, 0, 0)), (60, .goto (-32), 3, (0, 0, 0)), (63, .aload_n 0, 1, (0, 0, 0)), (64, .invokevirtual 72, 3, (37, 0, 975)), (67, .aload_n 0, 1, (0, 0, 0)), (68, .aload_n 0, 1, (0, 0, 0)), (69, .getfield 59, 3, (3, 5, 410)), (72, .putfield 75, 3, (3, 6, 412)), (75, .iconst 0, 1, (0, 0, 0)), (76, .istore_n 1, 1, (0, 0, 0)), (77, .iload_n 1, 1, (0, 0, 0)), (78, .bipush 16, 2, (0, 0, 0)), (80, .if_icmp .ge 21, 3, (0, 0, 0)), (83, .aload_n 0, 1, (0, 0, 0)), (84, .iload_n 1, 1, (0, 0, 0)), (85, .aload_n 0, 1, (0, 0, 0)), (86, .getfield 24, 3, (3, 7, 414)), (89, .getfield 46, 3, (5, 11, 293)), (92, .invokevirtual 62, 3, (36, 0, 971)), (95, .iinc 1 4, 3, (0, 0, 0)), (98, .goto (-21), 3, (0, 0, 0)), (101, .aload_n 0, 1, (0, 0, 0)), (102, .bipush 40, 2, (0, 0, 0)), (104, .aload_n 0, 1, (0, 0, 0)), (105, .getfield 24, 3, (3, 7, 414)), (108, .getfield 78, 3, (5, 10, 289)), (111, .invokevirtual 62, 3, (36, 0, 971)), (114, .aload_n 0, 1, (0, 0, 0)), (115, .bipush 44, 2, (0, 0, 0)), (117, .aload_n 0, 1, (0, 0, 0)), (118, .getfield 24, 3, (3, 7, 414)), (121, .getfield 78, 3, (5, 10, 289)), (124, .invokevirtual 62, 3, (36, 0, 971)), (127, .aload_n 0, 1, (0, 0, 0)), (128, .getfield 28, 3, (3, 8, 417)), (131, .iconst 1, 1, (0, 0, 0)), (132, .if_icmp .ne 31, 3, (0, 0, 0)), (135, .aload_n 0, 1, (0, 0, 0)), (136, .bipush 56, 2, (0, 0, 0)), (138, .aload_n 0, 1, (0, 0, 0)), (139, .getfield 24, 3, (3, 7, 414)), (142, .getfield 46, 3, (5, 11, 293)), (145, .invokevirtual 62, 3, (36, 0, 971)), (148, .aload_n 0, 1, (0, 0, 0)), (149, .bipush 60, 2, (0, 0, 0)), (151, .aload_n 0, 1, (0, 0, 0)), (152, .getfield 24, 3, (3, 7, 414)), (155, .getfield 46, 3, (5, 11, 293)), (158, .iconst 3, 1, (0, 0, 0)), (159, .imul, 1, (0, 0, 0)), (160, .invokevirtual 62, 3, (36, 0, 971)), (163, .aload_n 0, 1, (0, 0, 0)), (164, .getfield 28, 3, (3, 8, 417)), (167, .iconst 2, 1, (0, 0, 0)), (168, .if_icmp .ne 85, 3, (0, 0, 0)), (171, .aload_n 0, 1, (0, 0, 0)), (172, .bipush 72, 2, (0, 0, 0)), (174, .aload_n 0, 1, (0, 0, 0)), (175, .getfield 24, 3, (3, 7, 414)), (178, .getfield 38, 3, (5, 9, 283)), (181, .invokevirtual 62, 3, (36, 0, 971)), (184, .aload_n 0, 1, (0, 0, 0)), (185, .bipush 80, 2, (0, 0, 0)), (187, .aload_n 0, 1, (0, 0, 0)), (188, .getfield 24, 3, (3, 7, 414)), (191, .getfield 38, 3, (5, 9, 283)), (194, .bipush 9, 2, (0, 0, 0)), (196, .imul, 1, (0, 0, 0)), (197, .invokevirtual 62, 3, (36, 0, 971)), (200, .aload_n 0, 1, (0, 0, 0)), (201, .sipush 152, 3, (0, 0, 0)), (204, .aload_n 0, 1, (0, 0, 0)), (205, .getfield 24, 3, (3, 7, 414)), (208, .getfield 38, 3, (5, 9, 283)), (211, .bipush 9, 2, (0, 0, 0)), (213, .imul, 1, (0, 0, 0)), (214, .invokevirtual 62, 3, (36, 0, 971)), (217, .aload_n 0, 1, (0, 0, 0)), (218, .sipush 224, 3, (0, 0, 0)), (221, .aload_n 0, 1, (0, 0, 0)), (222, .getfield 24, 3, (3, 7, 414)), (225, .getfield 46, 3, (5, 11, 293)), (228, .invokevirtual 62, 3, (36, 0, 971)), (231, .aload_n 0, 1, (0, 0, 0)), (232, .sipush 228, 3, (0, 0, 0)), (235, .aload_n 0, 1, (0, 0, 0)), (236, .getfield 24, 3, (3, 7, 414)), (239, .getfield 78, 3, (5, 10, 289)), (242, .invokevirtual 62, 3, (36, 0, 971)), (245, .aload_n 0, 1, (0, 0, 0))]
set_option maxRecDepth 100000 in
def tb_X3_pickSlots_1 : List pI := [(246, .sipush 232, 3, (0, 0, 0)), (249, .iconst 1, 1, (0, 0, 0)), (250, .invokevirtual 62, 3, (36, 0, 971)), (253, .aload_n 0, 1, (0, 0, 0)), (254, .invokevirtual 72, 3, (37, 0, 975)), (257, .return_, 1, (0, 0, 0))]
def tb_X3_pickSlots : List pI := tb_X3_pickSlots_0 ++ (tb_X3_pickSlots_1)
set_option maxRecDepth 100000 in
def tb_X3_pick : List pI := [(0, .iconst 0, 1, (0, 0, 0)), (1, .istore_n 3, 1, (0, 0, 0)), (2, .iload_n 3, 1, (0, 0, 0)), (3, .iload_n 2, 1, (0, 0, 0)), (4, .if_icmp .ge 31, 3, (0, 0, 0)), (7, .aload_n 0, 1, (0, 0, 0)), (8, .getfield 21, 3, (3, 4, 408)), (11, .aload_n 0, 1, (0, 0, 0)), (12, .getfield 59, 3, (3, 5, 410)), (15, .iload_n 1, 1, (0, 0, 0)), (16, .iload_n 3, 1, (0, 0, 0)), (17, .iadd, 1, (0, 0, 0)), (18, .iastore, 1, (0, 0, 0)), (19, .aload_n 0, 1, (0, 0, 0)), (20, .dup, 1, (0, 0, 0)), (21, .getfield 59, 3, (3, 5, 410)), (24, .iconst 1, 1, (0, 0, 0)), (25, .iadd, 1, (0, 0, 0)), (26, .putfield 59, 3, (3, 5, 410)), (29, .iinc 3 1, 3, (0, 0, 0)), (32, .goto (-30), 3, (0, 0, 0)), (35, .return_, 1, (0, 0, 0))]
set_option maxRecDepth 100000 in
def tb_X3_makeEven : List pI := [(0, .aload_n 0, 1, (0, 0, 0)), (1, .getfield 59, 3, (3, 5, 410)), (4, .iconst 2, 1, (0, 0, 0)), (5, .irem, 1, (0, 0, 0)), (6, .ifCond .eq 11, 3, (0, 0, 0)), (9, .aload_n 0, 1, (0, 0, 0)), (10, .sipush 235, 3, (0, 0, 0)), (13, .iconst 1, 1, (0, 0, 0)), (14, .invokevirtual 62, 3, (36, 0, 971)), (17, .return_, 1, (0, 0, 0))]
set_option maxRecDepth 100000 in
def tb_X3_pack : List pI := [(0, .aload_n 0, 1, (0, 0, 0)), (1, .getfield 11, 3, (3, 0, 398)), (4, .sipush 233, 3, (0, 0, 0)), (7, .aload_n 0, 1, (0, 0, 0)), (8, .invokevirtual 81, 3, (49, 0, 993)), (11, .iastore, 1, (0, 0, 0)), (12, .iconst 0, 1, (0, 0, 0)), (13, .istore_n 2, 1, (0, 0, 0)), (14, .iload_n 2, 1, (0, 0, 0)), (15, .aload_n 0, 1, (0, 0, 0)), (16, .getfield 59, 3, (3, 5, 410)), (19, .if_icmp .ge 48, 3, (0, 0, 0)), (22, .aload_n 1, 1, (0, 0, 0)), (23, .iload_n 2, 1, (0, 0, 0)), (24, .iconst 2, 1, (0, 0, 0)), (25, .idiv, 1, (0, 0, 0)), (26, .aload_n 0, 1, (0, 0, 0)), (27, .getfield 11, 3, (3, 0, 398)), (30, .aload_n 0, 1, (0, 0, 0)), (31, .getfield 21, 3, (3, 4, 408)), (34, .iload_n 2, 1, (0, 0, 0)), (35, .iaload, 1, (0, 0, 0)), (36, .iaload, 1, (0, 0, 0)), (37, .i2l, 1, (0, 0, 0)), (38, .bipush 32, 2, (0, 0, 0)), (40, .lshl, 1, (0, 0, 0)), (41, .aload_n 0, 1, (0, 0, 0)), (42, .getfield 11, 3, (3, 0, 398)), (45, .aload_n 0, 1, (0, 0, 0)), (46, .getfield 21, 3, (3, 4, 408)), (49, .iload_n 2, 1, (0, 0, 0)), (50, .iconst 1, 1, (0, 0, 0)), (51, .iadd, 1, (0, 0, 0)), (52, .iaload, 1, (0, 0, 0)), (53, .iaload, 1, (0, 0, 0)), (54, .i2l, 1, (0, 0, 0)), (55, .ldc2_w 85, 3, (4294967295, 0, 997)), (58, .land, 1, (0, 0, 0)), (59, .lor, 1, (0, 0, 0)), (60, .lastore, 1, (0, 0, 0)), (61, .iinc 2 2, 3, (0, 0, 0)), (64, .goto (-50), 3, (0, 0, 0)), (67, .return_, 1, (0, 0, 0))]
set_option maxRecDepth 100000 in
def tb_X3_unpack : List pI := [(0, .iconst 0, 1, (0, 0, 0)), (1, .istore_n 3, 1, (0, 0, 0)), (2, .iload_n 3, 1, (0, 0, 0)), (3, .aload_n 0, 1, (0, 0, 0)), (4, .getfield 59, 3, (3, 5, 410)), (7, .if_icmp .ge 51, 3, (0, 0, 0)), (10, .aload_n 1, 1, (0, 0, 0)), (11, .iload_n 2, 1, (0, 0, 0)), (12, .iload_n 3, 1, (0, 0, 0)), (13, .iconst 2, 1, (0, 0, 0)), (14, .idiv, 1, (0, 0, 0)), (15, .iadd, 1, (0, 0, 0)), (16, .laload, 1, (0, 0, 0)), (17, .lstore 4, 2, (0, 0, 0)), (19, .aload_n 0, 1, (0, 0, 0)), (20, .getfield 11, 3, (3, 0, 398)), (23, .aload_n 0, 1, (0, 0, 0)), (24, .getfield 21, 3, (3, 4, 408)), (27, .iload_n 3, 1, (0, 0, 0)), (28, .iaload, 1, (0, 0, 0)), (29, .lload 4, 2, (0, 0, 0)), (31, .bipush 32, 2, (0, 0, 0)), (33, .lshr, 1, (0, 0, 0)), (34, .l2i, 1, (0, 0, 0)), (35, .iastore, 1, (0, 0, 0)), (36, .aload_n 0, 1, (0, 0, 0)), (37, .getfield 11, 3, (3, 0, 398)), (40, .aload_n 0, 1, (0, 0, 0)), (41, .getfield 21, 3, (3, 4, 408)), (44, .iload_n 3, 1, (0, 0, 0)), (45, .iconst 1, 1, (0, 0, 0)), (46, .iadd, 1, (0, 0, 0)), (47, .iaload, 1, (0, 0, 0)), (48, .lload 4, 2, (0, 0, 0)), (50, .l2i, 1, (0, 0, 0)), (51, .iastore, 1, (0, 0, 0)), (52, .iinc 3 2, 3, (0, 0, 0)), (55, .goto (-53), 3, (0, 0, 0)), (58, .return_, 1, (0, 0, 0))]
set_option maxRecDepth 100000 in
def tb_X3_keep : List pI := [(0, .aload_n 0, 1, (0, 0, 0)), (1, .getfield 11, 3, (3, 0, 398)), (4, .iconst 0, 1, (0, 0, 0)), (5, .aload_n 0, 1, (0, 0, 0)), (6, .getfield 15, 3, (3, 1, 402)), (9, .iconst 0, 1, (0, 0, 0)), (10, .sipush 236, 3, (0, 0, 0)), (13, .invokestatic 87, 3, (-2, 0, 1030)), (16, .return_, 1, (0, 0, 0))]
set_option maxRecDepth 100000 in
def tb_X3_comeBack : List pI := [(0, .aload_n 0, 1, (0, 0, 0)), (1, .getfield 15, 3, (3, 1, 402)), (4, .iconst 0, 1, (0, 0, 0)), (5, .aload_n 0, 1, (0, 0, 0)), (6, .getfield 11, 3, (3, 0, 398)), (9, .iconst 0, 1, (0, 0, 0)), (10, .sipush 236, 3, (0, 0, 0)), (13, .invokestatic 87, 3, (-2, 0, 1030)), (16, .return_, 1, (0, 0, 0))]
set_option maxRecDepth 100000 in
def tb_X3_listReady : List pI := [(0, .aload_n 0, 1, (0, 0, 0)), (1, .iconst 0, 1, (0, 0, 0)), (2, .putfield 93, 3, (3, 3, 407)), (5, .iconst 0, 1, (0, 0, 0)), (6, .istore_n 1, 1, (0, 0, 0)), (7, .iload_n 1, 1, (0, 0, 0)), (8, .aload_n 0, 1, (0, 0, 0)), (9, .getfield 24, 3, (3, 7, 414)), (12, .getfield 46, 3, (5, 11, 293)), (15, .if_icmp .ge 91, 3, (0, 0, 0)), (18, .aload_n 0, 1, (0, 0, 0)), (19, .iload_n 1, 1, (0, 0, 0)), (20, .invokevirtual 96, 3, (44, 0, 774)), (23, .istore_n 2, 1, (0, 0, 0)), (24, .iconst 0, 1, (0, 0, 0)), (25, .istore_n 3, 1, (0, 0, 0)), (26, .iload_n 3, 1, (0, 0, 0)), (27, .iload_n 2, 1, (0, 0, 0)), (28, .if_icmp .ge 34, 3, (0, 0, 0)), (31, .aload_n 0, 1, (0, 0, 0)), (32, .getfield 18, 3, (3, 2, 403)), (35, .aload_n 0, 1, (0, 0, 0)), (36, .getfield 93, 3, (3, 3, 407)), (39, .iload_n 1, 1, (0, 0, 0)), (40, .bipush 10, 2, (0, 0, 0)), (42, .imul, 1, (0, 0, 0)), (43, .iload_n 3, 1, (0, 0, 0)), (44, .iadd, 1, (0, 0, 0)), (45, .iastore, 1, (0, 0, 0)), (46, .aload_n 0, 1, (0, 0, 0)), (47, .dup, 1, (0, 0, 0)), (48, .getfield 93, 3, (3, 3, 407)), (51, .iconst 1, 1, (0, 0, 0)), (52, .iadd, 1, (0, 0, 0)), (53, .putfield 93, 3, (3, 3, 407)), (56, .iinc 3 1, 3, (0, 0, 0)), (59, .goto (-33), 3, (0, 0, 0)), (62, .aload_n 0, 1, (0, 0, 0)), (63, .getfield 11, 3, (3, 0, 398)), (66, .bipush 56, 2, (0, 0, 0)), (68, .iload_n 1, 1, (0, 0, 0)), (69, .iadd, 1, (0, 0, 0)), (70, .iaload, 1, (0, 0, 0)), (71, .ifCond .le 29, 3, (0, 0, 0)), (74, .aload_n 0, 1, (0, 0, 0)), (75, .getfield 18, 3, (3, 2, 403)), (78, .aload_n 0, 1, (0, 0, 0)), (79, .getfield 93, 3, (3, 3, 407)), (82, .iload_n 1, 1, (0, 0, 0)), (83, .bipush 10, 2, (0, 0, 0)), (85, .imul, 1, (0, 0, 0)), (86, .bipush 9, 2, (0, 0, 0)), (88, .iadd, 1, (0, 0, 0)), (89, .iastore, 1, (0, 0, 0)), (90, .aload_n 0, 1, (0, 0, 0)), (91, .dup, 1, (0, 0, 0)), (92, .getfield 93, 3, (3, 3, 407)), (95, .iconst 1, 1, (0, 0, 0)), (96, .iadd, 1, (0, 0, 0)), (97, .putfield 93, 3, (3, 3, 407)), (100, .iinc 1 1, 3, (0, 0, 0)), (103, .goto (-96), 3, (0, 0, 0)), (106, .aload_n 0, 1, (0, 0, 0)), (107, .getfield 93, 3, (3, 3, 407)), (110, .ireturn, 1, (0, 0, 0))]
set_option maxRecDepth 100000 in
def tb_X3_isReady : List pI := [(0, .iload_n 1, 1, (0, 0, 0)), (1, .ifCond .lt 18, 3, (0, 0, 0)), (4, .iload_n 1, 1, (0, 0, 0)), (5, .aload_n 0, 1, (0, 0, 0)), (6, .getfield 24, 3, (3, 7, 414)), (9, .getfield 46, 3, (5, 11, 293)), (12, .if_icmp .ge 7, 3, (0, 0, 0)), (15, .iload_n 2, 1, (0, 0, 0)), (16, .ifCond .ge 5, 3, (0, 0, 0)), (19, .iconst 0, 1, (0, 0, 0)), (20, .ireturn, 1, (0, 0, 0)), (21, .iload_n 2, 1, (0, 0, 0)), (22, .aload_n 0, 1, (0, 0, 0)), (23, .iload_n 1, 1, (0, 0, 0)), (24, .invokevirtual 96, 3, (44, 0, 774)), (27, .if_icmp .lt 21, 3, (0, 0, 0)), (30, .iload_n 2, 1, (0, 0, 0)), (31, .bipush 9, 2, (0, 0, 0)), (33, .if_icmp .ne 19, 3, (0, 0, 0)), (36, .aload_n 0, 1, (0, 0, 0)), (37, .getfield 11, 3, (3, 0, 398)), (40, .bipush 56, 2, (0, 0, 0)), (42, .iload_n 1, 1, (0, 0, 0)), (43, .iadd, 1, (0, 0, 0)), (44, .iaload, 1, (0, 0, 0)), (45, .ifCond .le 7, 3, (0, 0, 0)), (48, .iconst 1, 1, (0, 0, 0)), (49, .goto 4, 3, (0, 0, 0)), (52, .iconst 0, 1, (0, 0, 0)), (53, .ireturn, 1, (0, 0, 0))]
set_option maxRecDepth 100000 in
def tb_X3_choices_0 : List pI := [(0, .aload_n 0, 1, (0, 0, 0)), (1, .getfield 11, 3, (3, 0, 398)), (4, .iconst 4, 1, (0, 0, 0)), (5, .iload_n 1, 1, (0, 0, 0)), (6, .iadd, 1, (0, 0, 0)), (7, .iaload, 1, (0, 0, 0)), (8, .istore_n 2, 1, (0, 0, 0)), (9, .iload_n 2, 1, (0, 0, 0)), (10, .ifCond .lt 15, 3, (0, 0, 0)), (13, .aload_n 0, 1, (0, 0, 0)), (14, .getfield 11, 3, (3, 0, 398)), (17, .iconst 0, 1, (0, 0, 0)), (18, .iload_n 1, 1, (0, 0, 0)), (19, .iadd, 1, (0, 0, 0)), (20, .iaload, 1, (0, 0, 0)), (21, .iconst 2, 1, (0, 0, 0)), (22, .if_icmp .ne 5, 3, (0, 0, 0)), (25, .iconst 0, 1, (0, 0, 0)), (26, .ireturn, 1, (0, 0, 0)), (27, .aload_n 0, 1, (0, 0, 0)), (28, .getfield 24, 3, (3, 7, 414)), (31, .getfield 100, 3, (5, 6, 275)), (34, .iconst 2, 1, (0, 0, 0)), (35, .aaload, 1, (0, 0, 0)), (36, .iload_n 2, 1, (0, 0, 0)), (37, .iaload, 1, (0, 0, 0)), (38, .istore_n 3, 1, (0, 0, 0)), (39, .aload_n 0, 1, (0, 0, 0)), (40, .getfield 11, 3, (3, 0, 398)), (43, .bipush 56, 2, (0, 0, 0)), (45, .iload_n 1, 1, (0, 0, 0)), (46, .iadd, 1, (0, 0, 0)), (47, .iaload, 1, (0, 0, 0)), (48, .ifCond .le 7, 3, (0, 0, 0)), (51, .iconst 1, 1, (0, 0, 0)), (52, .goto 4, 3, (0, 0, 0)), (55, .iconst 0, 1, (0, 0, 0)), (56, .istore 4, 2, (0, 0, 0)), (58, .aload_n 0, 1, (0, 0, 0)), (59, .getfield 11, 3, (3, 0, 398)), (62, .iconst 0, 1, (0, 0, 0)), (63, .iload_n 1, 1, (0, 0, 0)), (64, .iadd, 1, (0, 0, 0)), (65, .iaload, 1, (0, 0, 0)), (66, .iconst 3, 1, (0, 0, 0)), (67, .if_icmp .ne 26, 3, (0, 0, 0)), (70, .aload_n 0, 1, (0, 0, 0)), (71, .getfield 11, 3, (3, 0, 398)), (74, .bipush 40, 2, (0, 0, 0)), (76, .iload_n 3, 1, (0, 0, 0)), (77, .iadd, 1, (0, 0, 0)), (78, .iaload, 1, (0, 0, 0)), (79, .ifCond .ge 12, 3, (0, 0, 0)), (82, .iload 4, 2, (0, 0, 0)), (84, .ifCond .ne 7, 3, (0, 0, 0)), (87, .iconst 1, 1, (0, 0, 0)), (88, .goto 4, 3, (0, 0, 0)), (91, .iconst 0, 1, (0, 0, 0)), (92, .ireturn, 1, (0, 0, 0)), (93, .aload_n 0, 1, (0, 0, 0)), (94, .getfield 24, 3, (3, 7, 414)), (97, .getfield 100, 3, (5, 6, 275)), (100, .iconst 0, 1, (0, 0, 0)), (101, .aaload, 1, (0, 0, 0)), (102, .iload_n 2, 1, (0, 0, 0)), (103, .iaload, 1, (0, 0, 0)), (104, .istore 5, 2, (0, 0, 0)), (106, .iload 4, 2, (0, 0, 0)), (108, .ifCond .eq 15, 3, (0, 0, 0)), (111, .aload_n 0, 1, (0, 0, 0)), (112, .iload 5, 2, (0, 0, 0)), (114, .iload_n 3, 1, (0, 0, 0)), (115, .invokevirtual 104, 3, (45, 0, 778)), (118, .ifCond .eq 5, 3, (0, 0, 0)), (121, .iconst 0, 1, (0, 0, 0)), (122, .ireturn, 1, (0, 0, 0)), (123, .iload 5, 2, (0, 0, 0)), (125, .tableswitch 204 1 11 #[59, 99, 99, 99, 116, 204, 204, 147, 204, 204, 174], 59, (0, 0, 0)), (184, .aload_n 0, 1, (0, 0, 0)), (185, .getfield 28, 3, (3, 8, 417)), (188, .iconst 2, 1, (0, 0, 0)), (189, .if_icmp .ne 33, 3, (0, 0, 0)), (192, .aload_n 0, 1, (0, 0, 0)), (193, .getfield 24, 3, (3, 7, 414)), (196, .iload_n 3, 1, (0, 0, 0)), (197, .invokevirtual 108, 3, (94, 0, 782)), (200, .ifCond .ne 22, 3, (0, 0, 0)), (203, .aload_n 0, 1, (0, 0, 0)), (204, .getfield 11, 3, (3, 0, 398)), (207, .bipush 72, 2, (0, 0, 0)), (209, .iload_n 3, 1, (0, 0, 0)), (210, .iadd, 1, (0, 0, 0)), (211, .iaload, 1, (0, 0, 0)), (212, .aload_n 0, 1, (0, 0, 0)), (213, .iload_n 1, 1, (0, 0, 0)), (214, .iload_n 3, 1, (0, 0, 0)), (215, .invokevirtual 112, 3, (70, 0, 786)), (218, .isub, 1, (0, 0, 0)), (219, .goto 4, 3, (0, 0, 0)), (222, .iconst 1, 1, (0, 0, 0)), (223, .ireturn, 1, (0, 0, 0)), (224, .aload_n 0, 1, (0, 0, 0)), (225, .iload_n 1, 1, (0, 0, 0)), (226, .iload_n 2, 1, (0, 0, 0)), (227, .iload 5, 2, (0, 0, 0)), (229, .invokevirtual 115, 3, (46, 0, 790)), (232, .ifCond .eq 7, 3, (0, 0, 0)), (235, .iconst 1, 1, (0, 0, 0)), (236, .goto 4, 3, (0, 0, 0)), (239, .iconst 0, 1, (0, 0, 0)), (240, .ireturn, 1, (0, 0, 0)), (241, .aload_n 0, 1, (0, 0, 0)), (242, .getfield 11, 3, (3, 0, 398)), (245, .bipush 40, 2, (0, 0, 0)), (247, .iload_n 3, 1, (0, 0, 0)), (248, .iadd, 1, (0, 0, 0)), (249, .iaload, 1, (0, 0, 0)), (250, .ifCond .lt 16, 3, (0, 0, 0)), (253, .aload_n 0, 1, (0, 0, 0)), (254, .getfield 11, 3, (3, 0, 398))]
set_option maxRecDepth 100000 in
def tb_X3_choices_1 : List pI := [(257, .bipush 40, 2, (0, 0, 0)), (259, .iload_n 3, 1, (0, 0, 0)), (260, .iadd, 1, (0, 0, 0)), (261, .iaload, 1, (0, 0, 0)), (262, .iload_n 1, 1, (0, 0, 0)), (263, .if_icmp .ne 7, 3, (0, 0, 0)), (266, .iconst 1, 1, (0, 0, 0)), (267, .goto 4, 3, (0, 0, 0)), (270, .iconst 0, 1, (0, 0, 0)), (271, .ireturn, 1, (0, 0, 0)), (272, .aload_n 0, 1, (0, 0, 0)), (273, .getfield 11, 3, (3, 0, 398)), (276, .bipush 40, 2, (0, 0, 0)), (278, .iload_n 3, 1, (0, 0, 0)), (279, .iadd, 1, (0, 0, 0)), (280, .iaload, 1, (0, 0, 0)), (281, .iload_n 1, 1, (0, 0, 0)), (282, .if_icmp .ne 15, 3, (0, 0, 0)), (285, .iconst 1, 1, (0, 0, 0)), (286, .aload_n 0, 1, (0, 0, 0)), (287, .iload_n 3, 1, (0, 0, 0)), (288, .invokevirtual 119, 3, (48, 0, 802)), (291, .invokestatic 122, 3, (411, 0, 810)), (294, .goto 4, 3, (0, 0, 0)), (297, .iconst 1, 1, (0, 0, 0)), (298, .ireturn, 1, (0, 0, 0)), (299, .aload_n 0, 1, (0, 0, 0)), (300, .getfield 11, 3, (3, 0, 398)), (303, .iconst 0, 1, (0, 0, 0)), (304, .iload_n 3, 1, (0, 0, 0)), (305, .iadd, 1, (0, 0, 0)), (306, .iaload, 1, (0, 0, 0)), (307, .iconst 4, 1, (0, 0, 0)), (308, .if_icmp .ne 19, 3, (0, 0, 0)), (311, .aload_n 0, 1, (0, 0, 0)), (312, .getfield 11, 3, (3, 0, 398)), (315, .bipush 56, 2, (0, 0, 0)), (317, .iload_n 3, 1, (0, 0, 0)), (318, .iadd, 1, (0, 0, 0)), (319, .iaload, 1, (0, 0, 0)), (320, .ifCond .ne 7, 3, (0, 0, 0)), (323, .iconst 1, 1, (0, 0, 0)), (324, .goto 4, 3, (0, 0, 0)), (327, .iconst 0, 1, (0, 0, 0)), (328, .ireturn, 1, (0, 0, 0)), (329, .iconst 1, 1, (0, 0, 0)), (330, .ireturn, 1, (0, 0, 0))]
def tb_X3_choices : List pI := tb_X3_choices_0 ++ (tb_X3_choices_1)
set_option maxRecDepth 100000 in
def tb_X3_needsEmptyQueue : List pI := [(0, .iload_n 1, 1, (0, 0, 0)), (1, .iconst 3, 1, (0, 0, 0)), (2, .if_icmp .lt 9, 3, (0, 0, 0)), (5, .iload_n 1, 1, (0, 0, 0)), (6, .bipush 12, 2, (0, 0, 0)), (8, .if_icmp .le 19, 3, (0, 0, 0)), (11, .iload_n 1, 1, (0, 0, 0)), (12, .iconst 2, 1, (0, 0, 0)), (13, .if_icmp .ne 18, 3, (0, 0, 0)), (16, .aload_n 0, 1, (0, 0, 0)), (17, .getfield 24, 3, (3, 7, 414)), (20, .iload_n 2, 1, (0, 0, 0)), (21, .invokevirtual 108, 3, (94, 0, 782)), (24, .ifCond .eq 7, 3, (0, 0, 0)), (27, .iconst 1, 1, (0, 0, 0)), (28, .goto 4, 3, (0, 0, 0)), (31, .iconst 0, 1, (0, 0, 0)), (32, .ireturn, 1, (0, 0, 0))]
set_option maxRecDepth 100000 in
def tb_X3_hasRoom : List pI := [(0, .aload_n 0, 1, (0, 0, 0)), (1, .getfield 28, 3, (3, 8, 417)), (4, .iconst 1, 1, (0, 0, 0)), (5, .if_icmp .ne 22, 3, (0, 0, 0)), (8, .aload_n 0, 1, (0, 0, 0)), (9, .getfield 11, 3, (3, 0, 398)), (12, .bipush 56, 2, (0, 0, 0)), (14, .iload_n 1, 1, (0, 0, 0)), (15, .iadd, 1, (0, 0, 0)), (16, .iaload, 1, (0, 0, 0)), (17, .iconst 3, 1, (0, 0, 0)), (18, .if_icmp .ge 7, 3, (0, 0, 0)), (21, .iconst 1, 1, (0, 0, 0)), (22, .goto 4, 3, (0, 0, 0)), (25, .iconst 0, 1, (0, 0, 0)), (26, .ireturn, 1, (0, 0, 0)), (27, .aload_n 0, 1, (0, 0, 0)), (28, .getfield 24, 3, (3, 7, 414)), (31, .getfield 100, 3, (5, 6, 275)), (34, .astore 4, 2, (0, 0, 0)), (36, .aload 4, 2, (0, 0, 0)), (38, .iconst 2, 1, (0, 0, 0)), (39, .aaload, 1, (0, 0, 0)), (40, .iload_n 2, 1, (0, 0, 0)), (41, .iaload, 1, (0, 0, 0)), (42, .istore 5, 2, (0, 0, 0)), (44, .aload_n 0, 1, (0, 0, 0)), (45, .getfield 28, 3, (3, 8, 417)), (48, .ifCond .eq 18, 3, (0, 0, 0)), (51, .aload_n 0, 1, (0, 0, 0)), (52, .getfield 11, 3, (3, 0, 398)), (55, .bipush 72, 2, (0, 0, 0)), (57, .iload 5, 2, (0, 0, 0)), (59, .iadd, 1, (0, 0, 0)), (60, .iaload, 1, (0, 0, 0)), (61, .bipush 9, 2, (0, 0, 0)), (63, .if_icmp .ge 5, 3, (0, 0, 0)), (66, .iconst 1, 1, (0, 0, 0)), (67, .ireturn, 1, (0, 0, 0)), (68, .iload_n 3, 1, (0, 0, 0)), (69, .iconst 3, 1, (0, 0, 0)), (70, .if_icmp .eq 5, 3, (0, 0, 0)), (73, .iconst 0, 1, (0, 0, 0)), (74, .ireturn, 1, (0, 0, 0)), (75, .aload_n 0, 1, (0, 0, 0)), (76, .getfield 24, 3, (3, 7, 414)), (79, .getfield 127, 3, (5, 0, 258)), (82, .aload 4, 2, (0, 0, 0)), (84, .iconst 5, 1, (0, 0, 0)), (85, .aaload, 1, (0, 0, 0)), (86, .iload_n 2, 1, (0, 0, 0)), (87, .iaload, 1, (0, 0, 0)), (88, .aload 4, 2, (0, 0, 0)), (90, .bipush 6, 2, (0, 0, 0)), (92, .aaload, 1, (0, 0, 0)), (93, .iload_n 2, 1, (0, 0, 0)), (94, .iaload, 1, (0, 0, 0)), (95, .aload_n 0, 1, (0, 0, 0)), (96, .getfield 11, 3, (3, 0, 398)), (99, .invokevirtual 131, 3, (78, 0, 794)), (102, .istore 6, 2, (0, 0, 0)), (104, .aload_n 0, 1, (0, 0, 0)), (105, .getfield 24, 3, (3, 7, 414)), (108, .getfield 127, 3, (5, 0, 258)), (111, .getfield 137, 3, (4, 4, 236)), (114, .istore 7, 2, (0, 0, 0)), (116, .aload_n 0, 1, (0, 0, 0)), (117, .getfield 24, 3, (3, 7, 414)), (120, .getfield 127, 3, (5, 0, 258)), (123, .aload 4, 2, (0, 0, 0)), (125, .bipush 7, 2, (0, 0, 0)), (127, .aaload, 1, (0, 0, 0)), (128, .iload_n 2, 1, (0, 0, 0)), (129, .iaload, 1, (0, 0, 0)), (130, .aload 4, 2, (0, 0, 0)), (132, .bipush 8, 2, (0, 0, 0)), (134, .aaload, 1, (0, 0, 0)), (135, .iload_n 2, 1, (0, 0, 0)), (136, .iaload, 1, (0, 0, 0)), (137, .aload_n 0, 1, (0, 0, 0)), (138, .getfield 11, 3, (3, 0, 398)), (141, .invokevirtual 131, 3, (78, 0, 794)), (144, .pop, 1, (0, 0, 0)), (145, .iload 7, 2, (0, 0, 0)), (147, .ifCond .ne 31, 3, (0, 0, 0)), (150, .aload_n 0, 1, (0, 0, 0)), (151, .getfield 24, 3, (3, 7, 414)), (154, .getfield 127, 3, (5, 0, 258)), (157, .getfield 137, 3, (4, 4, 236)), (160, .ifCond .ne 18, 3, (0, 0, 0)), (163, .aload_n 0, 1, (0, 0, 0)), (164, .getfield 11, 3, (3, 0, 398)), (167, .bipush 48, 2, (0, 0, 0)), (169, .iload 5, 2, (0, 0, 0)), (171, .iadd, 1, (0, 0, 0)), (172, .iaload, 1, (0, 0, 0)), (173, .iload 6, 2, (0, 0, 0)), (175, .if_icmp .eq 7, 3, (0, 0, 0)), (178, .iconst 1, 1, (0, 0, 0)), (179, .goto 4, 3, (0, 0, 0)), (182, .iconst 0, 1, (0, 0, 0)), (183, .ireturn, 1, (0, 0, 0))]
set_option maxRecDepth 100000 in
def tb_X3_waitsFor : List pI := [(0, .aload_n 0, 1, (0, 0, 0)), (1, .getfield 11, 3, (3, 0, 398)), (4, .iconst 0, 1, (0, 0, 0)), (5, .iload_n 1, 1, (0, 0, 0)), (6, .iadd, 1, (0, 0, 0)), (7, .iaload, 1, (0, 0, 0)), (8, .iconst 2, 1, (0, 0, 0)), (9, .if_icmp .ne 29, 3, (0, 0, 0)), (12, .aload_n 0, 1, (0, 0, 0)), (13, .getfield 24, 3, (3, 7, 414)), (16, .getfield 100, 3, (5, 6, 275)), (19, .iconst 2, 1, (0, 0, 0)), (20, .aaload, 1, (0, 0, 0)), (21, .aload_n 0, 1, (0, 0, 0)), (22, .getfield 11, 3, (3, 0, 398)), (25, .iconst 4, 1, (0, 0, 0)), (26, .iload_n 1, 1, (0, 0, 0)), (27, .iadd, 1, (0, 0, 0)), (28, .iaload, 1, (0, 0, 0)), (29, .iaload, 1, (0, 0, 0)), (30, .iload_n 2, 1, (0, 0, 0)), (31, .if_icmp .ne 7, 3, (0, 0, 0)), (34, .iconst 1, 1, (0, 0, 0)), (35, .goto 4, 3, (0, 0, 0)), (38, .iconst 0, 1, (0, 0, 0)), (39, .ireturn, 1, (0, 0, 0))]
set_option maxRecDepth 100000 in
def tb_X3_waiters : List pI := [(0, .iconst 0, 1, (0, 0, 0)), (1, .istore_n 2, 1, (0, 0, 0)), (2, .iconst 0, 1, (0, 0, 0)), (3, .istore_n 3, 1, (0, 0, 0)), (4, .iload_n 3, 1, (0, 0, 0)), (5, .aload_n 0, 1, (0, 0, 0)), (6, .getfield 24, 3, (3, 7, 414)), (9, .getfield 46, 3, (5, 11, 293)), (12, .if_icmp .ge 21, 3, (0, 0, 0)), (15, .aload_n 0, 1, (0, 0, 0)), (16, .iload_n 3, 1, (0, 0, 0)), (17, .iload_n 1, 1, (0, 0, 0)), (18, .invokevirtual 141, 3, (47, 0, 806)), (21, .ifCond .eq 6, 3, (0, 0, 0)), (24, .iinc 2 1, 3, (0, 0, 0)), (27, .iinc 3 1, 3, (0, 0, 0)), (30, .goto (-26), 3, (0, 0, 0)), (33, .iload_n 2, 1, (0, 0, 0)), (34, .ireturn, 1, (0, 0, 0))]
set_option maxRecDepth 100000 in
def tb_X3_sort : List pI := [(0, .iconst 1, 1, (0, 0, 0)), (1, .istore_n 1, 1, (0, 0, 0)), (2, .iconst 0, 1, (0, 0, 0)), (3, .istore_n 2, 1, (0, 0, 0)), (4, .iload_n 2, 1, (0, 0, 0)), (5, .aload_n 0, 1, (0, 0, 0)), (6, .getfield 24, 3, (3, 7, 414)), (9, .getfield 46, 3, (5, 11, 293)), (12, .if_icmp .ge 44, 3, (0, 0, 0)), (15, .aload_n 0, 1, (0, 0, 0)), (16, .getfield 11, 3, (3, 0, 398)), (19, .iconst 0, 1, (0, 0, 0)), (20, .iload_n 2, 1, (0, 0, 0)), (21, .iadd, 1, (0, 0, 0)), (22, .iaload, 1, (0, 0, 0)), (23, .istore_n 3, 1, (0, 0, 0)), (24, .iload_n 3, 1, (0, 0, 0)), (25, .iconst 5, 1, (0, 0, 0)), (26, .if_icmp .ne 5, 3, (0, 0, 0)), (29, .iconst 2, 1, (0, 0, 0)), (30, .ireturn, 1, (0, 0, 0)), (31, .iload_n 1, 1, (0, 0, 0)), (32, .ifCond .eq 16, 3, (0, 0, 0)), (35, .iload_n 3, 1, (0, 0, 0)), (36, .ifCond .eq 8, 3, (0, 0, 0)), (39, .iload_n 3, 1, (0, 0, 0)), (40, .iconst 4, 1, (0, 0, 0)), (41, .if_icmp .ne 7, 3, (0, 0, 0)), (44, .iconst 1, 1, (0, 0, 0)), (45, .goto 4, 3, (0, 0, 0)), (48, .iconst 0, 1, (0, 0, 0)), (49, .istore_n 1, 1, (0, 0, 0)), (50, .iinc 2 1, 3, (0, 0, 0)), (53, .goto (-49), 3, (0, 0, 0)), (56, .iload_n 1, 1, (0, 0, 0)), (57, .ifCond .eq 7, 3, (0, 0, 0)), (60, .iconst 0, 1, (0, 0, 0)), (61, .goto 4, 3, (0, 0, 0)), (64, .iconst 1, 1, (0, 0, 0)), (65, .ireturn, 1, (0, 0, 0))]
set_option maxRecDepth 100000 in
def tb_X3_locksOf : List pI := [(0, .iconst 0, 1, (0, 0, 0)), (1, .istore_n 2, 1, (0, 0, 0)), (2, .iconst 0, 1, (0, 0, 0)), (3, .istore_n 3, 1, (0, 0, 0)), (4, .iload_n 3, 1, (0, 0, 0)), (5, .aload_n 0, 1, (0, 0, 0)), (6, .getfield 24, 3, (3, 7, 414)), (9, .getfield 78, 3, (5, 10, 289)), (12, .if_icmp .ge 28, 3, (0, 0, 0)), (15, .aload_n 0, 1, (0, 0, 0)), (16, .getfield 11, 3, (3, 0, 398)), (19, .bipush 40, 2, (0, 0, 0)), (21, .iload_n 3, 1, (0, 0, 0)), (22, .iadd, 1, (0, 0, 0)), (23, .iaload, 1, (0, 0, 0)), (24, .iload_n 1, 1, (0, 0, 0)), (25, .if_icmp .ne 9, 3, (0, 0, 0)), (28, .iload_n 2, 1, (0, 0, 0)), (29, .iconst 1, 1, (0, 0, 0)), (30, .iload_n 3, 1, (0, 0, 0)), (31, .ishl, 1, (0, 0, 0)), (32, .ior, 1, (0, 0, 0)), (33, .istore_n 2, 1, (0, 0, 0)), (34, .iinc 3 1, 3, (0, 0, 0)), (37, .goto (-33), 3, (0, 0, 0)), (40, .iload_n 2, 1, (0, 0, 0)), (41, .ireturn, 1, (0, 0, 0))]
set_option maxRecDepth 100000 in
def tb_X3_lockAhead : List pI := [(0, .aload_n 0, 1, (0, 0, 0)), (1, .getfield 11, 3, (3, 0, 398)), (4, .iconst 4, 1, (0, 0, 0)), (5, .iload_n 1, 1, (0, 0, 0)), (6, .iadd, 1, (0, 0, 0)), (7, .iaload, 1, (0, 0, 0)), (8, .istore_n 2, 1, (0, 0, 0)), (9, .iload_n 2, 1, (0, 0, 0)), (10, .ifCond .lt 46, 3, (0, 0, 0)), (13, .aload_n 0, 1, (0, 0, 0)), (14, .getfield 11, 3, (3, 0, 398)), (17, .iconst 0, 1, (0, 0, 0)), (18, .iload_n 1, 1, (0, 0, 0)), (19, .iadd, 1, (0, 0, 0)), (20, .iaload, 1, (0, 0, 0)), (21, .iconst 3, 1, (0, 0, 0)), (22, .if_icmp .eq 30, 3, (0, 0, 0)), (25, .aload_n 0, 1, (0, 0, 0)), (26, .getfield 11, 3, (3, 0, 398)), (29, .iconst 0, 1, (0, 0, 0)), (30, .iload_n 1, 1, (0, 0, 0)), (31, .iadd, 1, (0, 0, 0)), (32, .iaload, 1, (0, 0, 0)), (33, .iconst 1, 1, (0, 0, 0)), (34, .if_icmp .ne 22, 3, (0, 0, 0)), (37, .aload_n 0, 1, (0, 0, 0)), (38, .getfield 24, 3, (3, 7, 414)), (41, .getfield 100, 3, (5, 6, 275)), (44, .iconst 0, 1, (0, 0, 0)), (45, .aaload, 1, (0, 0, 0)), (46, .iload_n 2, 1, (0, 0, 0)), (47, .iaload, 1, (0, 0, 0)), (48, .iconst 5, 1, (0, 0, 0)), (49, .if_icmp .ne 7, 3, (0, 0, 0)), (52, .iconst 1, 1, (0, 0, 0)), (53, .goto 4, 3, (0, 0, 0)), (56, .iconst 0, 1, (0, 0, 0)), (57, .istore_n 3, 1, (0, 0, 0)), (58, .iload_n 3, 1, (0, 0, 0)), (59, .ifCond .eq 17, 3, (0, 0, 0)), (62, .aload_n 0, 1, (0, 0, 0)), (63, .getfield 24, 3, (3, 7, 414)), (66, .getfield 100, 3, (5, 6, 275)), (69, .iconst 2, 1, (0, 0, 0)), (70, .aaload, 1, (0, 0, 0)), (71, .iload_n 2, 1, (0, 0, 0)), (72, .iaload, 1, (0, 0, 0)), (73, .goto 4, 3, (0, 0, 0)), (76, .iconst (-1), 1, (0, 0, 0)), (77, .ireturn, 1, (0, 0, 0))]
set_option maxRecDepth 100000 in
def tb_X3_take_0 : List pI := [(0, .aload_n 0, 1, (0, 0, 0)), (1, .iconst 0, 1, (0, 0, 0)), (2, .putfield 144, 3, (3, 11, 425)), (5, .iload_n 2, 1, (0, 0, 0)), (6, .bipush 9, 2, (0, 0, 0)), (8, .if_icmp .ne 21, 3, (0, 0, 0)), (11, .aload_n 0, 1, (0, 0, 0)), (12, .bipush (-2), 2, (0, 0, 0)), (14, .putfield 147, 3, (3, 9, 421)), (17, .aload_n 0, 1, (0, 0, 0)), (18, .bipush 20, 2, (0, 0, 0)), (20, .putfield 150, 3, (3, 10, 423)), (23, .aload_n 0, 1, (0, 0, 0)), (24, .iload_n 1, 1, (0, 0, 0)), (25, .invokevirtual 153, 3, (68, 0, 833)), (28, .return_, 1, (0, 0, 0)), (29, .aload_n 0, 1, (0, 0, 0)), (30, .aload_n 0, 1, (0, 0, 0)), (31, .getfield 11, 3, (3, 0, 398)), (34, .iconst 4, 1, (0, 0, 0)), (35, .iload_n 1, 1, (0, 0, 0)), (36, .iadd, 1, (0, 0, 0)), (37, .iaload, 1, (0, 0, 0)), (38, .putfield 147, 3, (3, 9, 421)), (41, .aload_n 0, 1, (0, 0, 0)), (42, .getfield 24, 3, (3, 7, 414)), (45, .getfield 100, 3, (5, 6, 275)), (48, .iconst 2, 1, (0, 0, 0)), (49, .aaload, 1, (0, 0, 0)), (50, .aload_n 0, 1, (0, 0, 0)), (51, .getfield 147, 3, (3, 9, 421)), (54, .iaload, 1, (0, 0, 0)), (55, .istore_n 3, 1, (0, 0, 0)), (56, .aload_n 0, 1, (0, 0, 0)), (57, .aload_n 0, 1, (0, 0, 0)), (58, .getfield 24, 3, (3, 7, 414)), (61, .getfield 100, 3, (5, 6, 275)), (64, .bipush 16, 2, (0, 0, 0)), (66, .aaload, 1, (0, 0, 0)), (67, .aload_n 0, 1, (0, 0, 0)), (68, .getfield 147, 3, (3, 9, 421)), (71, .iaload, 1, (0, 0, 0)), (72, .putfield 157, 3, (3, 12, 426)), (75, .aload_n 0, 1, (0, 0, 0)), (76, .getfield 11, 3, (3, 0, 398)), (79, .iconst 0, 1, (0, 0, 0)), (80, .iload_n 1, 1, (0, 0, 0)), (81, .iadd, 1, (0, 0, 0)), (82, .iaload, 1, (0, 0, 0)), (83, .iconst 3, 1, (0, 0, 0)), (84, .if_icmp .ne 16, 3, (0, 0, 0)), (87, .aload_n 0, 1, (0, 0, 0)), (88, .bipush 19, 2, (0, 0, 0)), (90, .putfield 150, 3, (3, 10, 423)), (93, .aload_n 0, 1, (0, 0, 0)), (94, .iload_n 1, 1, (0, 0, 0)), (95, .iload_n 3, 1, (0, 0, 0)), (96, .invokevirtual 160, 3, (61, 0, 837)), (99, .return_, 1, (0, 0, 0)), (100, .aload_n 0, 1, (0, 0, 0)), (101, .aload_n 0, 1, (0, 0, 0)), (102, .getfield 24, 3, (3, 7, 414)), (105, .getfield 100, 3, (5, 6, 275)), (108, .iconst 0, 1, (0, 0, 0)), (109, .aaload, 1, (0, 0, 0)), (110, .aload_n 0, 1, (0, 0, 0)), (111, .getfield 147, 3, (3, 9, 421)), (114, .iaload, 1, (0, 0, 0)), (115, .putfield 150, 3, (3, 10, 423)), (118, .aload_n 0, 1, (0, 0, 0)), (119, .getfield 150, 3, (3, 10, 423)), (122, .iconst 4, 1, (0, 0, 0)), (123, .if_icmp .gt 15, 3, (0, 0, 0)), (126, .aload_n 0, 1, (0, 0, 0)), (127, .iload_n 1, 1, (0, 0, 0)), (128, .iload_n 3, 1, (0, 0, 0)), (129, .iload_n 2, 1, (0, 0, 0)), (130, .invokevirtual 163, 3, (55, 0, 845)), (133, .istore 4, 2, (0, 0, 0)), (135, .goto 48, 3, (0, 0, 0)), (138, .aload_n 0, 1, (0, 0, 0)), (139, .getfield 150, 3, (3, 10, 423)), (142, .bipush 9, 2, (0, 0, 0)), (144, .if_icmp .gt 15, 3, (0, 0, 0)), (147, .aload_n 0, 1, (0, 0, 0)), (148, .iload_n 1, 1, (0, 0, 0)), (149, .iload_n 3, 1, (0, 0, 0)), (150, .iload_n 2, 1, (0, 0, 0)), (151, .invokevirtual 167, 3, (58, 0, 892)), (154, .istore 4, 2, (0, 0, 0)), (156, .goto 27, 3, (0, 0, 0)), (159, .aload_n 0, 1, (0, 0, 0)), (160, .getfield 150, 3, (3, 10, 423)), (163, .bipush 13, 2, (0, 0, 0)), (165, .if_icmp .gt 12, 3, (0, 0, 0)), (168, .aload_n 0, 1, (0, 0, 0)), (169, .iload_n 1, 1, (0, 0, 0)), (170, .iload_n 3, 1, (0, 0, 0)), (171, .invokevirtual 170, 3, (62, 0, 904)), (174, .goto 7, 3, (0, 0, 0)), (177, .aload_n 0, 1, (0, 0, 0)), (178, .invokevirtual 173, 3, (64, 0, 912)), (181, .istore 4, 2, (0, 0, 0)), (183, .iload 4, 2, (0, 0, 0)), (185, .ifCond .eq 41, 3, (0, 0, 0)), (188, .aload_n 0, 1, (0, 0, 0)), (189, .getfield 11, 3, (3, 0, 398)), (192, .iconst 0, 1, (0, 0, 0)), (193, .iload_n 1, 1, (0, 0, 0)), (194, .iadd, 1, (0, 0, 0)), (195, .iconst 5, 1, (0, 0, 0)), (196, .iastore, 1, (0, 0, 0)), (197, .aload_n 0, 1, (0, 0, 0)), (198, .getfield 11, 3, (3, 0, 398)), (201, .iconst 4, 1, (0, 0, 0)), (202, .iload_n 1, 1, (0, 0, 0)), (203, .iadd, 1, (0, 0, 0)), (204, .iconst (-1), 1, (0, 0, 0)), (205, .iastore, 1, (0, 0, 0)), (206, .aload_n 0, 1, (0, 0, 0))]
set_option maxRecDepth 100000 in
def tb_X3_take_1 : List pI := [(207, .getfield 11, 3, (3, 0, 398)), (210, .bipush 8, 2, (0, 0, 0)), (212, .iload_n 1, 1, (0, 0, 0)), (213, .iadd, 1, (0, 0, 0)), (214, .iload 4, 2, (0, 0, 0)), (216, .iastore, 1, (0, 0, 0)), (217, .aload_n 0, 1, (0, 0, 0)), (218, .bipush 21, 2, (0, 0, 0)), (220, .putfield 150, 3, (3, 10, 423)), (223, .goto 24, 3, (0, 0, 0)), (226, .aload_n 0, 1, (0, 0, 0)), (227, .getfield 11, 3, (3, 0, 398)), (230, .iconst 0, 1, (0, 0, 0)), (231, .iload_n 1, 1, (0, 0, 0)), (232, .iadd, 1, (0, 0, 0)), (233, .iaload, 1, (0, 0, 0)), (234, .iconst 1, 1, (0, 0, 0)), (235, .if_icmp .ne 12, 3, (0, 0, 0)), (238, .aload_n 0, 1, (0, 0, 0)), (239, .iload_n 1, 1, (0, 0, 0)), (240, .aload_n 0, 1, (0, 0, 0)), (241, .getfield 157, 3, (3, 12, 426)), (244, .invokevirtual 55, 3, (34, 0, 766)), (247, .return_, 1, (0, 0, 0))]
def tb_X3_take : List pI := tb_X3_take_0 ++ (tb_X3_take_1)
set_option maxRecDepth 100000 in
def tb_X3_workOut : List pI := [(0, .aload_n 0, 1, (0, 0, 0)), (1, .getfield 24, 3, (3, 7, 414)), (4, .getfield 127, 3, (5, 0, 258)), (7, .aload_n 0, 1, (0, 0, 0)), (8, .getfield 24, 3, (3, 7, 414)), (11, .getfield 100, 3, (5, 6, 275)), (14, .iload_n 1, 1, (0, 0, 0)), (15, .aaload, 1, (0, 0, 0)), (16, .aload_n 0, 1, (0, 0, 0)), (17, .getfield 147, 3, (3, 9, 421)), (20, .iaload, 1, (0, 0, 0)), (21, .aload_n 0, 1, (0, 0, 0)), (22, .getfield 24, 3, (3, 7, 414)), (25, .getfield 100, 3, (5, 6, 275)), (28, .iload_n 1, 1, (0, 0, 0)), (29, .iconst 1, 1, (0, 0, 0)), (30, .iadd, 1, (0, 0, 0)), (31, .aaload, 1, (0, 0, 0)), (32, .aload_n 0, 1, (0, 0, 0)), (33, .getfield 147, 3, (3, 9, 421)), (36, .iaload, 1, (0, 0, 0)), (37, .aload_n 0, 1, (0, 0, 0)), (38, .getfield 11, 3, (3, 0, 398)), (41, .invokevirtual 131, 3, (78, 0, 794)), (44, .ireturn, 1, (0, 0, 0))]
set_option maxRecDepth 100000 in
def tb_X3_setLocal : List pI := [(0, .aload_n 0, 1, (0, 0, 0)), (1, .getfield 24, 3, (3, 7, 414)), (4, .getfield 100, 3, (5, 6, 275)), (7, .iconst 3, 1, (0, 0, 0)), (8, .aaload, 1, (0, 0, 0)), (9, .aload_n 0, 1, (0, 0, 0)), (10, .getfield 147, 3, (3, 9, 421)), (13, .iaload, 1, (0, 0, 0)), (14, .istore_n 3, 1, (0, 0, 0)), (15, .iload_n 3, 1, (0, 0, 0)), (16, .ifCond .lt 14, 3, (0, 0, 0)), (19, .aload_n 0, 1, (0, 0, 0)), (20, .getfield 11, 3, (3, 0, 398)), (23, .iload_n 1, 1, (0, 0, 0)), (24, .iload_n 3, 1, (0, 0, 0)), (25, .invokestatic 65, 3, (32, 0, 857)), (28, .iload_n 2, 1, (0, 0, 0)), (29, .iastore, 1, (0, 0, 0)), (30, .return_, 1, (0, 0, 0))]
set_option maxRecDepth 100000 in
def tb_X3_touch : List pI := [(0, .aload_n 0, 1, (0, 0, 0)), (1, .getfield 150, 3, (3, 10, 423)), (4, .iconst 1, 1, (0, 0, 0)), (5, .if_icmp .ne 23, 3, (0, 0, 0)), (8, .aload_n 0, 1, (0, 0, 0)), (9, .iload_n 1, 1, (0, 0, 0)), (10, .aload_n 0, 1, (0, 0, 0)), (11, .iload_n 1, 1, (0, 0, 0)), (12, .iload_n 3, 1, (0, 0, 0)), (13, .invokevirtual 176, 3, (66, 0, 849)), (16, .invokevirtual 179, 3, (54, 0, 853)), (19, .aload_n 0, 1, (0, 0, 0)), (20, .iload_n 1, 1, (0, 0, 0)), (21, .iload_n 2, 1, (0, 0, 0)), (22, .iload_n 3, 1, (0, 0, 0)), (23, .invokevirtual 182, 3, (72, 0, 860)), (26, .iconst 0, 1, (0, 0, 0)), (27, .ireturn, 1, (0, 0, 0)), (28, .aload_n 0, 1, (0, 0, 0)), (29, .iconst 5, 1, (0, 0, 0)), (30, .invokevirtual 186, 3, (53, 0, 868)), (33, .istore 4, 2, (0, 0, 0)), (35, .aload_n 0, 1, (0, 0, 0)), (36, .getfield 24, 3, (3, 7, 414)), (39, .getfield 127, 3, (5, 0, 258)), (42, .getfield 137, 3, (4, 4, 236)), (45, .istore 5, 2, (0, 0, 0)), (47, .aload_n 0, 1, (0, 0, 0)), (48, .getfield 150, 3, (3, 10, 423)), (51, .iconst 3, 1, (0, 0, 0)), (52, .if_icmp .ne 12, 3, (0, 0, 0)), (55, .aload_n 0, 1, (0, 0, 0)), (56, .bipush 7, 2, (0, 0, 0)), (58, .invokevirtual 186, 3, (53, 0, 868)), (61, .goto 4, 3, (0, 0, 0)), (64, .iconst 0, 1, (0, 0, 0)), (65, .istore 6, 2, (0, 0, 0)), (67, .iload 5, 2, (0, 0, 0)), (69, .ifCond .ne 16, 3, (0, 0, 0)), (72, .aload_n 0, 1, (0, 0, 0)), (73, .getfield 24, 3, (3, 7, 414)), (76, .getfield 127, 3, (5, 0, 258)), (79, .getfield 137, 3, (4, 4, 236)), (82, .ifCond .eq 5, 3, (0, 0, 0)), (85, .iconst 1, 1, (0, 0, 0)), (86, .ireturn, 1, (0, 0, 0)), (87, .aload_n 0, 1, (0, 0, 0)), (88, .getfield 150, 3, (3, 10, 423)), (91, .tableswitch 60 0 3 #[29, 60, 38, 48], 29, (0, 0, 0)), (120, .aload_n 0, 1, (0, 0, 0)), (121, .iload_n 1, 1, (0, 0, 0)), (122, .iload 4, 2, (0, 0, 0)), (124, .invokevirtual 179, 3, (54, 0, 853)), (127, .iconst 0, 1, (0, 0, 0)), (128, .ireturn, 1, (0, 0, 0)), (129, .aload_n 0, 1, (0, 0, 0)), (130, .iload_n 1, 1, (0, 0, 0)), (131, .iload_n 2, 1, (0, 0, 0)), (132, .iload 4, 2, (0, 0, 0)), (134, .invokevirtual 188, 3, (67, 0, 872)), (137, .iconst 0, 1, (0, 0, 0)), (138, .ireturn, 1, (0, 0, 0)), (139, .aload_n 0, 1, (0, 0, 0)), (140, .iload_n 1, 1, (0, 0, 0)), (141, .iload_n 2, 1, (0, 0, 0)), (142, .iload 4, 2, (0, 0, 0)), (144, .iload 6, 2, (0, 0, 0)), (146, .invokevirtual 191, 3, (56, 0, 880)), (149, .iconst 0, 1, (0, 0, 0)), (150, .ireturn, 1, (0, 0, 0)), (151, .aload_n 0, 1, (0, 0, 0)), (152, .iload_n 1, 1, (0, 0, 0)), (153, .iload_n 2, 1, (0, 0, 0)), (154, .iload 4, 2, (0, 0, 0)), (156, .invokevirtual 195, 3, (57, 0, 888)), (159, .ireturn, 1, (0, 0, 0))]
set_option maxRecDepth 100000 in
def tb_X3_swapIf : List pI := [(0, .aload_n 0, 1, (0, 0, 0)), (1, .getfield 11, 3, (3, 0, 398)), (4, .bipush 48, 2, (0, 0, 0)), (6, .iload_n 2, 1, (0, 0, 0)), (7, .iadd, 1, (0, 0, 0)), (8, .iaload, 1, (0, 0, 0)), (9, .iload_n 3, 1, (0, 0, 0)), (10, .if_icmp .ne 7, 3, (0, 0, 0)), (13, .iconst 1, 1, (0, 0, 0)), (14, .goto 4, 3, (0, 0, 0)), (17, .iconst 0, 1, (0, 0, 0)), (18, .istore 5, 2, (0, 0, 0)), (20, .aload_n 0, 1, (0, 0, 0)), (21, .iload_n 1, 1, (0, 0, 0)), (22, .iload_n 2, 1, (0, 0, 0)), (23, .invokevirtual 198, 3, (73, 0, 884)), (26, .iload 5, 2, (0, 0, 0)), (28, .ifCond .eq 12, 3, (0, 0, 0)), (31, .aload_n 0, 1, (0, 0, 0)), (32, .iload_n 1, 1, (0, 0, 0)), (33, .iload_n 2, 1, (0, 0, 0)), (34, .iload 4, 2, (0, 0, 0)), (36, .iconst 1, 1, (0, 0, 0)), (37, .invokevirtual 201, 3, (69, 0, 876)), (40, .aload_n 0, 1, (0, 0, 0)), (41, .iload_n 1, 1, (0, 0, 0)), (42, .iload 5, 2, (0, 0, 0)), (44, .ifCond .eq 7, 3, (0, 0, 0)), (47, .iconst 1, 1, (0, 0, 0)), (48, .goto 4, 3, (0, 0, 0)), (51, .iconst 0, 1, (0, 0, 0)), (52, .invokevirtual 179, 3, (54, 0, 853)), (55, .return_, 1, (0, 0, 0))]
set_option maxRecDepth 100000 in
def tb_X3_addTo : List pI := [(0, .aload_n 0, 1, (0, 0, 0)), (1, .getfield 11, 3, (3, 0, 398)), (4, .bipush 48, 2, (0, 0, 0)), (6, .iload_n 2, 1, (0, 0, 0)), (7, .iadd, 1, (0, 0, 0)), (8, .iaload, 1, (0, 0, 0)), (9, .istore 4, 2, (0, 0, 0)), (11, .iload 4, 2, (0, 0, 0)), (13, .iload_n 3, 1, (0, 0, 0)), (14, .iadd, 1, (0, 0, 0)), (15, .sipush 999, 3, (0, 0, 0)), (18, .if_icmp .gt 13, 3, (0, 0, 0)), (21, .iload 4, 2, (0, 0, 0)), (23, .iload_n 3, 1, (0, 0, 0)), (24, .iadd, 1, (0, 0, 0)), (25, .sipush (-999), 3, (0, 0, 0)), (28, .if_icmp .ge 5, 3, (0, 0, 0)), (31, .iconst 1, 1, (0, 0, 0)), (32, .ireturn, 1, (0, 0, 0)), (33, .aload_n 0, 1, (0, 0, 0)), (34, .iload_n 1, 1, (0, 0, 0)), (35, .iload_n 2, 1, (0, 0, 0)), (36, .invokevirtual 198, 3, (73, 0, 884)), (39, .aload_n 0, 1, (0, 0, 0)), (40, .iload_n 1, 1, (0, 0, 0)), (41, .iload_n 2, 1, (0, 0, 0)), (42, .iload 4, 2, (0, 0, 0)), (44, .iload_n 3, 1, (0, 0, 0)), (45, .iadd, 1, (0, 0, 0)), (46, .iconst 1, 1, (0, 0, 0)), (47, .invokevirtual 201, 3, (69, 0, 876)), (50, .aload_n 0, 1, (0, 0, 0)), (51, .iload_n 1, 1, (0, 0, 0)), (52, .iload 4, 2, (0, 0, 0)), (54, .invokevirtual 179, 3, (54, 0, 853)), (57, .iconst 0, 1, (0, 0, 0)), (58, .ireturn, 1, (0, 0, 0))]
set_option maxRecDepth 100000 in
def tb_X3_useLock : List pI := [(0, .aload_n 0, 1, (0, 0, 0)), (1, .getfield 150, 3, (3, 10, 423)), (4, .iconst 5, 1, (0, 0, 0)), (5, .if_icmp .ne 59, 3, (0, 0, 0)), (8, .aload_n 0, 1, (0, 0, 0)), (9, .getfield 11, 3, (3, 0, 398)), (12, .bipush 44, 2, (0, 0, 0)), (14, .iload_n 2, 1, (0, 0, 0)), (15, .iadd, 1, (0, 0, 0)), (16, .iaload, 1, (0, 0, 0)), (17, .bipush 9, 2, (0, 0, 0)), (19, .if_icmp .lt 5, 3, (0, 0, 0)), (22, .iconst 5, 1, (0, 0, 0)), (23, .ireturn, 1, (0, 0, 0)), (24, .aload_n 0, 1, (0, 0, 0)), (25, .getfield 11, 3, (3, 0, 398)), (28, .bipush 40, 2, (0, 0, 0)), (30, .iload_n 2, 1, (0, 0, 0)), (31, .iadd, 1, (0, 0, 0)), (32, .iload_n 1, 1, (0, 0, 0)), (33, .iastore, 1, (0, 0, 0)), (34, .aload_n 0, 1, (0, 0, 0)), (35, .getfield 11, 3, (3, 0, 398)), (38, .bipush 44, 2, (0, 0, 0)), (40, .iload_n 2, 1, (0, 0, 0)), (41, .iadd, 1, (0, 0, 0)), (42, .dup2, 1, (0, 0, 0)), (43, .iaload, 1, (0, 0, 0)), (44, .iconst 1, 1, (0, 0, 0)), (45, .iadd, 1, (0, 0, 0)), (46, .iastore, 1, (0, 0, 0)), (47, .aload_n 0, 1, (0, 0, 0)), (48, .iload_n 1, 1, (0, 0, 0)), (49, .aload_n 0, 1, (0, 0, 0)), (50, .getfield 11, 3, (3, 0, 398)), (53, .sipush 228, 3, (0, 0, 0)), (56, .iload_n 2, 1, (0, 0, 0)), (57, .iadd, 1, (0, 0, 0)), (58, .iaload, 1, (0, 0, 0)), (59, .invokevirtual 205, 3, (74, 0, 841)), (62, .iconst 0, 1, (0, 0, 0)), (63, .ireturn, 1, (0, 0, 0)), (64, .aload_n 0, 1, (0, 0, 0)), (65, .getfield 11, 3, (3, 0, 398)), (68, .bipush 40, 2, (0, 0, 0)), (70, .iload_n 2, 1, (0, 0, 0)), (71, .iadd, 1, (0, 0, 0)), (72, .iaload, 1, (0, 0, 0)), (73, .iload_n 1, 1, (0, 0, 0)), (74, .if_icmp .eq 5, 3, (0, 0, 0)), (77, .iconst 2, 1, (0, 0, 0)), (78, .ireturn, 1, (0, 0, 0)), (79, .aload_n 0, 1, (0, 0, 0)), (80, .getfield 150, 3, (3, 10, 423)), (83, .bipush 6, 2, (0, 0, 0)), (85, .if_icmp .ne 25, 3, (0, 0, 0)), (88, .aload_n 0, 1, (0, 0, 0)), (89, .getfield 11, 3, (3, 0, 398)), (92, .bipush 44, 2, (0, 0, 0)), (94, .iload_n 2, 1, (0, 0, 0)), (95, .iadd, 1, (0, 0, 0)), (96, .dup2, 1, (0, 0, 0)), (97, .iaload, 1, (0, 0, 0)), (98, .iconst 1, 1, (0, 0, 0)), (99, .isub, 1, (0, 0, 0)), (100, .iastore, 1, (0, 0, 0)), (101, .aload_n 0, 1, (0, 0, 0)), (102, .iload_n 1, 1, (0, 0, 0)), (103, .iload_n 2, 1, (0, 0, 0)), (104, .invokevirtual 208, 3, (59, 0, 896)), (107, .goto 77, 3, (0, 0, 0)), (110, .aload_n 0, 1, (0, 0, 0)), (111, .getfield 150, 3, (3, 10, 423)), (114, .bipush 7, 2, (0, 0, 0)), (116, .if_icmp .ne 49, 3, (0, 0, 0)), (119, .aload_n 0, 1, (0, 0, 0)), (120, .getfield 11, 3, (3, 0, 398)), (123, .bipush 12, 2, (0, 0, 0)), (125, .iload_n 1, 1, (0, 0, 0)), (126, .iadd, 1, (0, 0, 0)), (127, .aload_n 0, 1, (0, 0, 0)), (128, .getfield 11, 3, (3, 0, 398)), (131, .bipush 44, 2, (0, 0, 0)), (133, .iload_n 2, 1, (0, 0, 0)), (134, .iadd, 1, (0, 0, 0)), (135, .iaload, 1, (0, 0, 0)), (136, .iastore, 1, (0, 0, 0)), (137, .aload_n 0, 1, (0, 0, 0)), (138, .getfield 11, 3, (3, 0, 398)), (141, .bipush 44, 2, (0, 0, 0)), (143, .iload_n 2, 1, (0, 0, 0)), (144, .iadd, 1, (0, 0, 0)), (145, .iconst 0, 1, (0, 0, 0)), (146, .iastore, 1, (0, 0, 0)), (147, .aload_n 0, 1, (0, 0, 0)), (148, .getfield 11, 3, (3, 0, 398)), (151, .iconst 0, 1, (0, 0, 0)), (152, .iload_n 1, 1, (0, 0, 0)), (153, .iadd, 1, (0, 0, 0)), (154, .iconst 2, 1, (0, 0, 0)), (155, .iastore, 1, (0, 0, 0)), (156, .aload_n 0, 1, (0, 0, 0)), (157, .iload_n 1, 1, (0, 0, 0)), (158, .iload_n 2, 1, (0, 0, 0)), (159, .invokevirtual 208, 3, (59, 0, 896)), (162, .goto 22, 3, (0, 0, 0)), (165, .aload_n 0, 1, (0, 0, 0)), (166, .iload_n 2, 1, (0, 0, 0)), (167, .aload_n 0, 1, (0, 0, 0)), (168, .getfield 150, 3, (3, 10, 423)), (171, .bipush 8, 2, (0, 0, 0)), (173, .if_icmp .ne 7, 3, (0, 0, 0)), (176, .iload_n 3, 1, (0, 0, 0)), (177, .goto 4, 3, (0, 0, 0)), (180, .iconst (-1), 1, (0, 0, 0)), (181, .invokevirtual 211, 3, (60, 0, 900)), (184, .iconst 0, 1, (0, 0, 0)), (185, .ireturn, 1, (0, 0, 0))]
set_option maxRecDepth 100000 in
def tb_X3_leave : List pI := [(0, .aload_n 0, 1, (0, 0, 0)), (1, .getfield 11, 3, (3, 0, 398)), (4, .sipush 228, 3, (0, 0, 0)), (7, .iload_n 2, 1, (0, 0, 0)), (8, .iadd, 1, (0, 0, 0)), (9, .aload_n 0, 1, (0, 0, 0)), (10, .getfield 11, 3, (3, 0, 398)), (13, .sipush 224, 3, (0, 0, 0)), (16, .iload_n 1, 1, (0, 0, 0)), (17, .iadd, 1, (0, 0, 0)), (18, .iaload, 1, (0, 0, 0)), (19, .iastore, 1, (0, 0, 0)), (20, .aload_n 0, 1, (0, 0, 0)), (21, .getfield 11, 3, (3, 0, 398)), (24, .bipush 44, 2, (0, 0, 0)), (26, .iload_n 2, 1, (0, 0, 0)), (27, .iadd, 1, (0, 0, 0)), (28, .iaload, 1, (0, 0, 0)), (29, .ifCond .ne 13, 3, (0, 0, 0)), (32, .aload_n 0, 1, (0, 0, 0)), (33, .getfield 11, 3, (3, 0, 398)), (36, .bipush 40, 2, (0, 0, 0)), (38, .iload_n 2, 1, (0, 0, 0)), (39, .iadd, 1, (0, 0, 0)), (40, .iconst (-1), 1, (0, 0, 0)), (41, .iastore, 1, (0, 0, 0)), (42, .return_, 1, (0, 0, 0))]
set_option maxRecDepth 100000 in
def tb_X3_wake : List pI := [(0, .iconst 0, 1, (0, 0, 0)), (1, .istore_n 3, 1, (0, 0, 0)), (2, .iconst 0, 1, (0, 0, 0)), (3, .istore 4, 2, (0, 0, 0)), (5, .iload 4, 2, (0, 0, 0)), (7, .aload_n 0, 1, (0, 0, 0)), (8, .getfield 24, 3, (3, 7, 414)), (11, .getfield 46, 3, (5, 11, 293)), (14, .if_icmp .ge 41, 3, (0, 0, 0)), (17, .aload_n 0, 1, (0, 0, 0)), (18, .iload 4, 2, (0, 0, 0)), (20, .iload_n 1, 1, (0, 0, 0)), (21, .invokevirtual 141, 3, (47, 0, 806)), (24, .ifCond .eq 25, 3, (0, 0, 0)), (27, .iload_n 2, 1, (0, 0, 0)), (28, .ifCond .lt 8, 3, (0, 0, 0)), (31, .iload_n 2, 1, (0, 0, 0)), (32, .iload_n 3, 1, (0, 0, 0)), (33, .if_icmp .ne 13, 3, (0, 0, 0)), (36, .aload_n 0, 1, (0, 0, 0)), (37, .getfield 11, 3, (3, 0, 398)), (40, .iconst 0, 1, (0, 0, 0)), (41, .iload 4, 2, (0, 0, 0)), (43, .iadd, 1, (0, 0, 0)), (44, .iconst 3, 1, (0, 0, 0)), (45, .iastore, 1, (0, 0, 0)), (46, .iinc 3 1, 3, (0, 0, 0)), (49, .iinc 4 1, 3, (0, 0, 0)), (52, .goto (-47), 3, (0, 0, 0)), (55, .return_, 1, (0, 0, 0))]
set_option maxRecDepth 100000 in
def tb_X3_takeBack : List pI := [(0, .aload_n 0, 1, (0, 0, 0)), (1, .getfield 11, 3, (3, 0, 398)), (4, .bipush 40, 2, (0, 0, 0)), (6, .iload_n 2, 1, (0, 0, 0)), (7, .iadd, 1, (0, 0, 0)), (8, .iload_n 1, 1, (0, 0, 0)), (9, .iastore, 1, (0, 0, 0)), (10, .aload_n 0, 1, (0, 0, 0)), (11, .getfield 11, 3, (3, 0, 398)), (14, .bipush 44, 2, (0, 0, 0)), (16, .iload_n 2, 1, (0, 0, 0)), (17, .iadd, 1, (0, 0, 0)), (18, .aload_n 0, 1, (0, 0, 0)), (19, .getfield 11, 3, (3, 0, 398)), (22, .bipush 12, 2, (0, 0, 0)), (24, .iload_n 1, 1, (0, 0, 0)), (25, .iadd, 1, (0, 0, 0)), (26, .iaload, 1, (0, 0, 0)), (27, .iastore, 1, (0, 0, 0)), (28, .aload_n 0, 1, (0, 0, 0)), (29, .getfield 11, 3, (3, 0, 398)), (32, .bipush 12, 2, (0, 0, 0)), (34, .iload_n 1, 1, (0, 0, 0)), (35, .iadd, 1, (0, 0, 0)), (36, .iconst 0, 1, (0, 0, 0)), (37, .iastore, 1, (0, 0, 0)), (38, .aload_n 0, 1, (0, 0, 0)), (39, .iload_n 1, 1, (0, 0, 0)), (40, .aload_n 0, 1, (0, 0, 0)), (41, .getfield 11, 3, (3, 0, 398)), (44, .sipush 228, 3, (0, 0, 0)), (47, .iload_n 2, 1, (0, 0, 0)), (48, .iadd, 1, (0, 0, 0)), (49, .iaload, 1, (0, 0, 0)), (50, .invokevirtual 205, 3, (74, 0, 841)), (53, .aload_n 0, 1, (0, 0, 0)), (54, .iload_n 1, 1, (0, 0, 0)), (55, .aload_n 0, 1, (0, 0, 0)), (56, .getfield 157, 3, (3, 12, 426)), (59, .invokevirtual 55, 3, (34, 0, 766)), (62, .return_, 1, (0, 0, 0))]
set_option maxRecDepth 100000 in
def tb_X3_meet : List pI := [(0, .aload_n 0, 1, (0, 0, 0)), (1, .getfield 150, 3, (3, 10, 423)), (4, .bipush 10, 2, (0, 0, 0)), (6, .if_icmp .ne 10, 3, (0, 0, 0)), (9, .aload_n 0, 1, (0, 0, 0)), (10, .iload_n 1, 1, (0, 0, 0)), (11, .iload_n 2, 1, (0, 0, 0)), (12, .invokevirtual 214, 3, (63, 0, 908)), (15, .ireturn, 1, (0, 0, 0)), (16, .aload_n 0, 1, (0, 0, 0)), (17, .getfield 150, 3, (3, 10, 423)), (20, .bipush 11, 2, (0, 0, 0)), (22, .if_icmp .ne 21, 3, (0, 0, 0)), (25, .aload_n 0, 1, (0, 0, 0)), (26, .iload_n 1, 1, (0, 0, 0)), (27, .aload_n 0, 1, (0, 0, 0)), (28, .getfield 11, 3, (3, 0, 398)), (31, .sipush 224, 3, (0, 0, 0)), (34, .iload_n 2, 1, (0, 0, 0)), (35, .iadd, 1, (0, 0, 0)), (36, .iaload, 1, (0, 0, 0)), (37, .invokevirtual 205, 3, (74, 0, 841)), (40, .goto 51, 3, (0, 0, 0)), (43, .aload_n 0, 1, (0, 0, 0)), (44, .getfield 150, 3, (3, 10, 423)), (47, .bipush 12, 2, (0, 0, 0)), (49, .if_icmp .ne 37, 3, (0, 0, 0)), (52, .aload_n 0, 1, (0, 0, 0)), (53, .iload_n 1, 1, (0, 0, 0)), (54, .aload_n 0, 1, (0, 0, 0)), (55, .getfield 11, 3, (3, 0, 398)), (58, .sipush 232, 3, (0, 0, 0)), (61, .iaload, 1, (0, 0, 0)), (62, .invokevirtual 205, 3, (74, 0, 841)), (65, .aload_n 0, 1, (0, 0, 0)), (66, .getfield 11, 3, (3, 0, 398)), (69, .sipush 232, 3, (0, 0, 0)), (72, .aload_n 0, 1, (0, 0, 0)), (73, .getfield 11, 3, (3, 0, 398)), (76, .sipush 224, 3, (0, 0, 0)), (79, .iload_n 1, 1, (0, 0, 0)), (80, .iadd, 1, (0, 0, 0)), (81, .iaload, 1, (0, 0, 0)), (82, .iastore, 1, (0, 0, 0)), (83, .goto 8, 3, (0, 0, 0)), (86, .aload_n 0, 1, (0, 0, 0)), (87, .iconst (-1), 1, (0, 0, 0)), (88, .putfield 157, 3, (3, 12, 426)), (91, .iconst 0, 1, (0, 0, 0)), (92, .ireturn, 1, (0, 0, 0))]
set_option maxRecDepth 100000 in
def tb_X3_begins : List pI := [(0, .aload_n 0, 1, (0, 0, 0)), (1, .getfield 11, 3, (3, 0, 398)), (4, .iconst 0, 1, (0, 0, 0)), (5, .iload_n 2, 1, (0, 0, 0)), (6, .iadd, 1, (0, 0, 0)), (7, .iaload, 1, (0, 0, 0)), (8, .ifCond .eq 5, 3, (0, 0, 0)), (11, .iconst 3, 1, (0, 0, 0)), (12, .ireturn, 1, (0, 0, 0)), (13, .aload_n 0, 1, (0, 0, 0)), (14, .iload_n 2, 1, (0, 0, 0)), (15, .aload_n 0, 1, (0, 0, 0)), (16, .getfield 24, 3, (3, 7, 414)), (19, .getfield 52, 3, (5, 5, 269)), (22, .iload_n 2, 1, (0, 0, 0)), (23, .iaload, 1, (0, 0, 0)), (24, .invokevirtual 55, 3, (34, 0, 766)), (27, .aload_n 0, 1, (0, 0, 0)), (28, .getfield 11, 3, (3, 0, 398)), (31, .sipush 224, 3, (0, 0, 0)), (34, .iload_n 2, 1, (0, 0, 0)), (35, .iadd, 1, (0, 0, 0)), (36, .aload_n 0, 1, (0, 0, 0)), (37, .getfield 11, 3, (3, 0, 398)), (40, .sipush 224, 3, (0, 0, 0)), (43, .iload_n 1, 1, (0, 0, 0)), (44, .iadd, 1, (0, 0, 0)), (45, .iaload, 1, (0, 0, 0)), (46, .iastore, 1, (0, 0, 0)), (47, .iconst 0, 1, (0, 0, 0)), (48, .ireturn, 1, (0, 0, 0))]
set_option maxRecDepth 100000 in
def tb_X3_tell : List pI := [(0, .aload_n 0, 1, (0, 0, 0)), (1, .iconst 5, 1, (0, 0, 0)), (2, .invokevirtual 186, 3, (53, 0, 868)), (5, .istore_n 1, 1, (0, 0, 0)), (6, .aload_n 0, 1, (0, 0, 0)), (7, .getfield 24, 3, (3, 7, 414)), (10, .getfield 127, 3, (5, 0, 258)), (13, .getfield 137, 3, (4, 4, 236)), (16, .ifCond .eq 5, 3, (0, 0, 0)), (19, .iconst 1, 1, (0, 0, 0)), (20, .ireturn, 1, (0, 0, 0)), (21, .aload_n 0, 1, (0, 0, 0)), (22, .getfield 150, 3, (3, 10, 423)), (25, .bipush 14, 2, (0, 0, 0)), (27, .if_icmp .ne 9, 3, (0, 0, 0)), (30, .iload_n 1, 1, (0, 0, 0)), (31, .ifCond .ne 5, 3, (0, 0, 0)), (34, .iconst 4, 1, (0, 0, 0)), (35, .ireturn, 1, (0, 0, 0)), (36, .aload_n 0, 1, (0, 0, 0)), (37, .getfield 150, 3, (3, 10, 423)), (40, .bipush 17, 2, (0, 0, 0)), (42, .if_icmp .eq 12, 3, (0, 0, 0)), (45, .aload_n 0, 1, (0, 0, 0)), (46, .getfield 150, 3, (3, 10, 423)), (49, .bipush 18, 2, (0, 0, 0)), (51, .if_icmp .ne 26, 3, (0, 0, 0)), (54, .iload_n 1, 1, (0, 0, 0)), (55, .ifCond .eq 22, 3, (0, 0, 0)), (58, .aload_n 0, 1, (0, 0, 0)), (59, .aload_n 0, 1, (0, 0, 0)), (60, .getfield 24, 3, (3, 7, 414)), (63, .getfield 100, 3, (5, 6, 275)), (66, .bipush 15, 2, (0, 0, 0)), (68, .aaload, 1, (0, 0, 0)), (69, .aload_n 0, 1, (0, 0, 0)), (70, .getfield 147, 3, (3, 9, 421)), (73, .iaload, 1, (0, 0, 0)), (74, .putfield 157, 3, (3, 12, 426)), (77, .aload_n 0, 1, (0, 0, 0)), (78, .iload_n 1, 1, (0, 0, 0)), (79, .putfield 144, 3, (3, 11, 425)), (82, .iconst 0, 1, (0, 0, 0)), (83, .ireturn, 1, (0, 0, 0))]
set_option maxRecDepth 100000 in
def tb_X3_loadable : List pI := [(0, .aload_n 0, 1, (0, 0, 0)), (1, .getfield 24, 3, (3, 7, 414)), (4, .getfield 100, 3, (5, 6, 275)), (7, .iconst 2, 1, (0, 0, 0)), (8, .aaload, 1, (0, 0, 0)), (9, .aload_n 0, 1, (0, 0, 0)), (10, .getfield 11, 3, (3, 0, 398)), (13, .iconst 4, 1, (0, 0, 0)), (14, .iload_n 1, 1, (0, 0, 0)), (15, .iadd, 1, (0, 0, 0)), (16, .iaload, 1, (0, 0, 0)), (17, .iaload, 1, (0, 0, 0)), (18, .istore_n 3, 1, (0, 0, 0)), (19, .aload_n 0, 1, (0, 0, 0)), (20, .getfield 28, 3, (3, 8, 417)), (23, .iconst 2, 1, (0, 0, 0)), (24, .if_icmp .ne 36, 3, (0, 0, 0)), (27, .aload_n 0, 1, (0, 0, 0)), (28, .getfield 24, 3, (3, 7, 414)), (31, .iload_n 3, 1, (0, 0, 0)), (32, .invokevirtual 108, 3, (94, 0, 782)), (35, .ifCond .ne 25, 3, (0, 0, 0)), (38, .aload_n 0, 1, (0, 0, 0)), (39, .getfield 11, 3, (3, 0, 398)), (42, .bipush 80, 2, (0, 0, 0)), (44, .iload_n 3, 1, (0, 0, 0)), (45, .bipush 9, 2, (0, 0, 0)), (47, .imul, 1, (0, 0, 0)), (48, .iadd, 1, (0, 0, 0)), (49, .aload_n 0, 1, (0, 0, 0)), (50, .iload_n 1, 1, (0, 0, 0)), (51, .iload_n 3, 1, (0, 0, 0)), (52, .invokevirtual 112, 3, (70, 0, 786)), (55, .iadd, 1, (0, 0, 0)), (56, .iload_n 2, 1, (0, 0, 0)), (57, .iadd, 1, (0, 0, 0)), (58, .iaload, 1, (0, 0, 0)), (59, .ireturn, 1, (0, 0, 0)), (60, .aload_n 0, 1, (0, 0, 0)), (61, .getfield 11, 3, (3, 0, 398)), (64, .bipush 56, 2, (0, 0, 0)), (66, .iload_n 1, 1, (0, 0, 0)), (67, .iadd, 1, (0, 0, 0)), (68, .iaload, 1, (0, 0, 0)), (69, .iconst 1, 1, (0, 0, 0)), (70, .isub, 1, (0, 0, 0)), (71, .istore 4, 2, (0, 0, 0)), (73, .iload 4, 2, (0, 0, 0)), (75, .ifCond .lt 39, 3, (0, 0, 0)), (78, .aload_n 0, 1, (0, 0, 0)), (79, .getfield 11, 3, (3, 0, 398)), (82, .bipush 60, 2, (0, 0, 0)), (84, .iload_n 1, 1, (0, 0, 0)), (85, .iconst 3, 1, (0, 0, 0)), (86, .imul, 1, (0, 0, 0)), (87, .iadd, 1, (0, 0, 0)), (88, .iload 4, 2, (0, 0, 0)), (90, .iadd, 1, (0, 0, 0)), (91, .iaload, 1, (0, 0, 0)), (92, .istore 5, 2, (0, 0, 0)), (94, .iload 5, 2, (0, 0, 0)), (96, .bipush 7, 2, (0, 0, 0)), (98, .iand, 1, (0, 0, 0)), (99, .iload_n 3, 1, (0, 0, 0)), (100, .if_icmp .ne 8, 3, (0, 0, 0)), (103, .iload 5, 2, (0, 0, 0)), (105, .iconst 3, 1, (0, 0, 0)), (106, .ishr, 1, (0, 0, 0)), (107, .ireturn, 1, (0, 0, 0)), (108, .iinc 4 (-1), 3, (0, 0, 0)), (111, .goto (-38), 3, (0, 0, 0)), (114, .aload_n 0, 1, (0, 0, 0)), (115, .getfield 11, 3, (3, 0, 398)), (118, .bipush 48, 2, (0, 0, 0)), (120, .iload_n 3, 1, (0, 0, 0)), (121, .iadd, 1, (0, 0, 0)), (122, .iaload, 1, (0, 0, 0)), (123, .ireturn, 1, (0, 0, 0))]
set_option maxRecDepth 100000 in
def tb_X3_store : List pI := [(0, .aload_n 0, 1, (0, 0, 0)), (1, .getfield 28, 3, (3, 8, 417)), (4, .iconst 1, 1, (0, 0, 0)), (5, .if_icmp .ne 56, 3, (0, 0, 0)), (8, .aload_n 0, 1, (0, 0, 0)), (9, .getfield 24, 3, (3, 7, 414)), (12, .iload_n 2, 1, (0, 0, 0)), (13, .invokevirtual 108, 3, (94, 0, 782)), (16, .ifCond .ne 45, 3, (0, 0, 0)), (19, .aload_n 0, 1, (0, 0, 0)), (20, .getfield 11, 3, (3, 0, 398)), (23, .bipush 60, 2, (0, 0, 0)), (25, .iload_n 1, 1, (0, 0, 0)), (26, .iconst 3, 1, (0, 0, 0)), (27, .imul, 1, (0, 0, 0)), (28, .iadd, 1, (0, 0, 0)), (29, .aload_n 0, 1, (0, 0, 0)), (30, .getfield 11, 3, (3, 0, 398)), (33, .bipush 56, 2, (0, 0, 0)), (35, .iload_n 1, 1, (0, 0, 0)), (36, .iadd, 1, (0, 0, 0)), (37, .iaload, 1, (0, 0, 0)), (38, .iadd, 1, (0, 0, 0)), (39, .iload_n 3, 1, (0, 0, 0)), (40, .iconst 3, 1, (0, 0, 0)), (41, .ishl, 1, (0, 0, 0)), (42, .iload_n 2, 1, (0, 0, 0)), (43, .ior, 1, (0, 0, 0)), (44, .iastore, 1, (0, 0, 0)), (45, .aload_n 0, 1, (0, 0, 0)), (46, .getfield 11, 3, (3, 0, 398)), (49, .bipush 56, 2, (0, 0, 0)), (51, .iload_n 1, 1, (0, 0, 0)), (52, .iadd, 1, (0, 0, 0)), (53, .dup2, 1, (0, 0, 0)), (54, .iaload, 1, (0, 0, 0)), (55, .iconst 1, 1, (0, 0, 0)), (56, .iadd, 1, (0, 0, 0)), (57, .iastore, 1, (0, 0, 0)), (58, .goto 18, 3, (0, 0, 0)), (61, .aload_n 0, 1, (0, 0, 0)), (62, .iload_n 1, 1, (0, 0, 0)), (63, .iload_n 2, 1, (0, 0, 0)), (64, .iload_n 3, 1, (0, 0, 0)), (65, .aload_n 0, 1, (0, 0, 0)), (66, .getfield 24, 3, (3, 7, 414)), (69, .iload_n 2, 1, (0, 0, 0)), (70, .invokevirtual 108, 3, (94, 0, 782)), (73, .invokevirtual 201, 3, (69, 0, 876)), (76, .return_, 1, (0, 0, 0))]
set_option maxRecDepth 100000 in
def tb_X3_flush : List pI := [(0, .bipush 60, 2, (0, 0, 0)), (2, .iload_n 1, 1, (0, 0, 0)), (3, .iconst 3, 1, (0, 0, 0)), (4, .imul, 1, (0, 0, 0)), (5, .iadd, 1, (0, 0, 0)), (6, .istore_n 2, 1, (0, 0, 0)), (7, .aload_n 0, 1, (0, 0, 0)), (8, .getfield 11, 3, (3, 0, 398)), (11, .bipush 48, 2, (0, 0, 0)), (13, .aload_n 0, 1, (0, 0, 0)), (14, .getfield 11, 3, (3, 0, 398)), (17, .iload_n 2, 1, (0, 0, 0)), (18, .iaload, 1, (0, 0, 0)), (19, .bipush 7, 2, (0, 0, 0)), (21, .iand, 1, (0, 0, 0)), (22, .iadd, 1, (0, 0, 0)), (23, .aload_n 0, 1, (0, 0, 0)), (24, .getfield 11, 3, (3, 0, 398)), (27, .iload_n 2, 1, (0, 0, 0)), (28, .iaload, 1, (0, 0, 0)), (29, .iconst 3, 1, (0, 0, 0)), (30, .ishr, 1, (0, 0, 0)), (31, .iastore, 1, (0, 0, 0)), (32, .iconst 1, 1, (0, 0, 0)), (33, .istore_n 3, 1, (0, 0, 0)), (34, .iload_n 3, 1, (0, 0, 0)), (35, .iconst 3, 1, (0, 0, 0)), (36, .if_icmp .ge 27, 3, (0, 0, 0)), (39, .aload_n 0, 1, (0, 0, 0)), (40, .getfield 11, 3, (3, 0, 398)), (43, .iload_n 2, 1, (0, 0, 0)), (44, .iload_n 3, 1, (0, 0, 0)), (45, .iadd, 1, (0, 0, 0)), (46, .iconst 1, 1, (0, 0, 0)), (47, .isub, 1, (0, 0, 0)), (48, .aload_n 0, 1, (0, 0, 0)), (49, .getfield 11, 3, (3, 0, 398)), (52, .iload_n 2, 1, (0, 0, 0)), (53, .iload_n 3, 1, (0, 0, 0)), (54, .iadd, 1, (0, 0, 0)), (55, .iaload, 1, (0, 0, 0)), (56, .iastore, 1, (0, 0, 0)), (57, .iinc 3 1, 3, (0, 0, 0)), (60, .goto (-26), 3, (0, 0, 0)), (63, .aload_n 0, 1, (0, 0, 0)), (64, .getfield 11, 3, (3, 0, 398)), (67, .iload_n 2, 1, (0, 0, 0)), (68, .iconst 3, 1, (0, 0, 0)), (69, .iadd, 1, (0, 0, 0)), (70, .iconst 1, 1, (0, 0, 0)), (71, .isub, 1, (0, 0, 0)), (72, .iconst 0, 1, (0, 0, 0)), (73, .iastore, 1, (0, 0, 0)), (74, .aload_n 0, 1, (0, 0, 0)), (75, .getfield 11, 3, (3, 0, 398)), (78, .bipush 56, 2, (0, 0, 0)), (80, .iload_n 1, 1, (0, 0, 0)), (81, .iadd, 1, (0, 0, 0)), (82, .dup2, 1, (0, 0, 0)), (83, .iaload, 1, (0, 0, 0)), (84, .iconst 1, 1, (0, 0, 0)), (85, .isub, 1, (0, 0, 0)), (86, .iastore, 1, (0, 0, 0)), (87, .return_, 1, (0, 0, 0))]
set_option maxRecDepth 100000 in
def tb_X3_write : List pI := [(0, .aload_n 0, 1, (0, 0, 0)), (1, .getfield 11, 3, (3, 0, 398)), (4, .bipush 48, 2, (0, 0, 0)), (6, .iload_n 2, 1, (0, 0, 0)), (7, .iadd, 1, (0, 0, 0)), (8, .iload_n 3, 1, (0, 0, 0)), (9, .iastore, 1, (0, 0, 0)), (10, .aload_n 0, 1, (0, 0, 0)), (11, .getfield 28, 3, (3, 8, 417)), (14, .iconst 2, 1, (0, 0, 0)), (15, .if_icmp .ne 86, 3, (0, 0, 0)), (18, .aload_n 0, 1, (0, 0, 0)), (19, .getfield 11, 3, (3, 0, 398)), (22, .bipush 72, 2, (0, 0, 0)), (24, .iload_n 2, 1, (0, 0, 0)), (25, .iadd, 1, (0, 0, 0)), (26, .iaload, 1, (0, 0, 0)), (27, .istore 5, 2, (0, 0, 0)), (29, .aload_n 0, 1, (0, 0, 0)), (30, .getfield 11, 3, (3, 0, 398)), (33, .bipush 72, 2, (0, 0, 0)), (35, .iload_n 2, 1, (0, 0, 0)), (36, .iadd, 1, (0, 0, 0)), (37, .dup2, 1, (0, 0, 0)), (38, .iaload, 1, (0, 0, 0)), (39, .iconst 1, 1, (0, 0, 0)), (40, .iadd, 1, (0, 0, 0)), (41, .iastore, 1, (0, 0, 0)), (42, .aload_n 0, 1, (0, 0, 0)), (43, .getfield 11, 3, (3, 0, 398)), (46, .bipush 80, 2, (0, 0, 0)), (48, .iload_n 2, 1, (0, 0, 0)), (49, .bipush 9, 2, (0, 0, 0)), (51, .imul, 1, (0, 0, 0)), (52, .iadd, 1, (0, 0, 0)), (53, .iload 5, 2, (0, 0, 0)), (55, .iadd, 1, (0, 0, 0)), (56, .iload_n 3, 1, (0, 0, 0)), (57, .iastore, 1, (0, 0, 0)), (58, .aload_n 0, 1, (0, 0, 0)), (59, .iload_n 1, 1, (0, 0, 0)), (60, .iload_n 2, 1, (0, 0, 0)), (61, .iload 5, 2, (0, 0, 0)), (63, .invokevirtual 217, 3, (71, 0, 864)), (66, .aload_n 0, 1, (0, 0, 0)), (67, .getfield 11, 3, (3, 0, 398)), (70, .sipush 152, 3, (0, 0, 0)), (73, .iload_n 2, 1, (0, 0, 0)), (74, .bipush 9, 2, (0, 0, 0)), (76, .imul, 1, (0, 0, 0)), (77, .iadd, 1, (0, 0, 0)), (78, .iload 5, 2, (0, 0, 0)), (80, .iadd, 1, (0, 0, 0)), (81, .iload 4, 2, (0, 0, 0)), (83, .ifCond .eq 16, 3, (0, 0, 0)), (86, .aload_n 0, 1, (0, 0, 0)), (87, .getfield 11, 3, (3, 0, 398)), (90, .sipush 224, 3, (0, 0, 0)), (93, .iload_n 1, 1, (0, 0, 0)), (94, .iadd, 1, (0, 0, 0)), (95, .iaload, 1, (0, 0, 0)), (96, .goto 4, 3, (0, 0, 0)), (99, .iconst 0, 1, (0, 0, 0)), (100, .iastore, 1, (0, 0, 0)), (101, .return_, 1, (0, 0, 0))]
set_option maxRecDepth 100000 in
def tb_X3_viewed : List pI := [(0, .aload_n 0, 1, (0, 0, 0)), (1, .getfield 11, 3, (3, 0, 398)), (4, .sipush 224, 3, (0, 0, 0)), (7, .iload_n 1, 1, (0, 0, 0)), (8, .iadd, 1, (0, 0, 0)), (9, .iaload, 1, (0, 0, 0)), (10, .iconst 4, 1, (0, 0, 0)), (11, .iload_n 2, 1, (0, 0, 0)), (12, .imul, 1, (0, 0, 0)), (13, .iushr, 1, (0, 0, 0)), (14, .bipush 15, 2, (0, 0, 0)), (16, .iand, 1, (0, 0, 0)), (17, .ireturn, 1, (0, 0, 0))]
set_option maxRecDepth 100000 in
def tb_X3_view : List pI := [(0, .aload_n 0, 1, (0, 0, 0)), (1, .getfield 11, 3, (3, 0, 398)), (4, .sipush 224, 3, (0, 0, 0)), (7, .iload_n 1, 1, (0, 0, 0)), (8, .iadd, 1, (0, 0, 0)), (9, .aload_n 0, 1, (0, 0, 0)), (10, .getfield 11, 3, (3, 0, 398)), (13, .sipush 224, 3, (0, 0, 0)), (16, .iload_n 1, 1, (0, 0, 0)), (17, .iadd, 1, (0, 0, 0)), (18, .iaload, 1, (0, 0, 0)), (19, .bipush 15, 2, (0, 0, 0)), (21, .iconst 4, 1, (0, 0, 0)), (22, .iload_n 2, 1, (0, 0, 0)), (23, .imul, 1, (0, 0, 0)), (24, .ishl, 1, (0, 0, 0)), (25, .iconst (-1), 1, (0, 0, 0)), (26, .ixor, 1, (0, 0, 0)), (27, .iand, 1, (0, 0, 0)), (28, .iload_n 3, 1, (0, 0, 0)), (29, .iconst 4, 1, (0, 0, 0)), (30, .iload_n 2, 1, (0, 0, 0)), (31, .imul, 1, (0, 0, 0)), (32, .ishl, 1, (0, 0, 0)), (33, .ior, 1, (0, 0, 0)), (34, .iastore, 1, (0, 0, 0)), (35, .return_, 1, (0, 0, 0))]
set_option maxRecDepth 100000 in
def tb_X3_look : List pI := [(0, .aload_n 0, 1, (0, 0, 0)), (1, .getfield 28, 3, (3, 8, 417)), (4, .iconst 2, 1, (0, 0, 0)), (5, .if_icmp .eq 4, 3, (0, 0, 0)), (8, .return_, 1, (0, 0, 0)), (9, .aload_n 0, 1, (0, 0, 0)), (10, .getfield 24, 3, (3, 7, 414)), (13, .iload_n 2, 1, (0, 0, 0)), (14, .invokevirtual 108, 3, (94, 0, 782)), (17, .ifCond .eq 36, 3, (0, 0, 0)), (20, .aload_n 0, 1, (0, 0, 0)), (21, .iload_n 1, 1, (0, 0, 0)), (22, .aload_n 0, 1, (0, 0, 0)), (23, .getfield 11, 3, (3, 0, 398)), (26, .sipush 152, 3, (0, 0, 0)), (29, .iload_n 2, 1, (0, 0, 0)), (30, .bipush 9, 2, (0, 0, 0)), (32, .imul, 1, (0, 0, 0)), (33, .iadd, 1, (0, 0, 0)), (34, .aload_n 0, 1, (0, 0, 0)), (35, .getfield 11, 3, (3, 0, 398)), (38, .bipush 72, 2, (0, 0, 0)), (40, .iload_n 2, 1, (0, 0, 0)), (41, .iadd, 1, (0, 0, 0)), (42, .iaload, 1, (0, 0, 0)), (43, .iadd, 1, (0, 0, 0)), (44, .iconst 1, 1, (0, 0, 0)), (45, .isub, 1, (0, 0, 0)), (46, .iaload, 1, (0, 0, 0)), (47, .invokevirtual 205, 3, (74, 0, 841)), (50, .goto 17, 3, (0, 0, 0)), (53, .aload_n 0, 1, (0, 0, 0)), (54, .iload_n 1, 1, (0, 0, 0)), (55, .iload_n 2, 1, (0, 0, 0)), (56, .aload_n 0, 1, (0, 0, 0)), (57, .iload_n 1, 1, (0, 0, 0)), (58, .iload_n 2, 1, (0, 0, 0)), (59, .invokevirtual 112, 3, (70, 0, 786)), (62, .iload_n 3, 1, (0, 0, 0)), (63, .iadd, 1, (0, 0, 0)), (64, .invokevirtual 217, 3, (71, 0, 864)), (67, .return_, 1, (0, 0, 0))]
set_option maxRecDepth 100000 in
def tb_X3_lookAtLast : List pI := [(0, .aload_n 0, 1, (0, 0, 0)), (1, .getfield 28, 3, (3, 8, 417)), (4, .iconst 2, 1, (0, 0, 0)), (5, .if_icmp .ne 42, 3, (0, 0, 0)), (8, .aload_n 0, 1, (0, 0, 0)), (9, .getfield 11, 3, (3, 0, 398)), (12, .bipush 72, 2, (0, 0, 0)), (14, .iload_n 2, 1, (0, 0, 0)), (15, .iadd, 1, (0, 0, 0)), (16, .iaload, 1, (0, 0, 0)), (17, .iconst 1, 1, (0, 0, 0)), (18, .isub, 1, (0, 0, 0)), (19, .istore_n 3, 1, (0, 0, 0)), (20, .aload_n 0, 1, (0, 0, 0)), (21, .iload_n 1, 1, (0, 0, 0)), (22, .iload_n 2, 1, (0, 0, 0)), (23, .iload_n 3, 1, (0, 0, 0)), (24, .invokevirtual 217, 3, (71, 0, 864)), (27, .aload_n 0, 1, (0, 0, 0)), (28, .iload_n 1, 1, (0, 0, 0)), (29, .aload_n 0, 1, (0, 0, 0)), (30, .getfield 11, 3, (3, 0, 398)), (33, .sipush 152, 3, (0, 0, 0)), (36, .iload_n 2, 1, (0, 0, 0)), (37, .bipush 9, 2, (0, 0, 0)), (39, .imul, 1, (0, 0, 0)), (40, .iadd, 1, (0, 0, 0)), (41, .iload_n 3, 1, (0, 0, 0)), (42, .iadd, 1, (0, 0, 0)), (43, .iaload, 1, (0, 0, 0)), (44, .invokevirtual 205, 3, (74, 0, 841)), (47, .return_, 1, (0, 0, 0))]
set_option maxRecDepth 100000 in
def tb_X3_learn : List pI := [(0, .aload_n 0, 1, (0, 0, 0)), (1, .getfield 11, 3, (3, 0, 398)), (4, .sipush 224, 3, (0, 0, 0)), (7, .iload_n 1, 1, (0, 0, 0)), (8, .iadd, 1, (0, 0, 0)), (9, .iaload, 1, (0, 0, 0)), (10, .istore_n 3, 1, (0, 0, 0)), (11, .iconst 0, 1, (0, 0, 0)), (12, .istore 4, 2, (0, 0, 0)), (14, .iconst 0, 1, (0, 0, 0)), (15, .istore 5, 2, (0, 0, 0)), (17, .iload 5, 2, (0, 0, 0)), (19, .bipush 32, 2, (0, 0, 0)), (21, .if_icmp .ge 34, 3, (0, 0, 0)), (24, .iload 4, 2, (0, 0, 0)), (26, .iload_n 3, 1, (0, 0, 0)), (27, .iload 5, 2, (0, 0, 0)), (29, .iushr, 1, (0, 0, 0)), (30, .bipush 15, 2, (0, 0, 0)), (32, .iand, 1, (0, 0, 0)), (33, .iload_n 2, 1, (0, 0, 0)), (34, .iload 5, 2, (0, 0, 0)), (36, .iushr, 1, (0, 0, 0)), (37, .bipush 15, 2, (0, 0, 0)), (39, .iand, 1, (0, 0, 0)), (40, .invokestatic 122, 3, (411, 0, 810)), (43, .iload 5, 2, (0, 0, 0)), (45, .ishl, 1, (0, 0, 0)), (46, .ior, 1, (0, 0, 0)), (47, .istore 4, 2, (0, 0, 0)), (49, .iinc 5 4, 3, (0, 0, 0)), (52, .goto (-35), 3, (0, 0, 0)), (55, .aload_n 0, 1, (0, 0, 0)), (56, .getfield 11, 3, (3, 0, 398)), (59, .sipush 224, 3, (0, 0, 0)), (62, .iload_n 1, 1, (0, 0, 0)), (63, .iadd, 1, (0, 0, 0)), (64, .iload 4, 2, (0, 0, 0)), (66, .iastore, 1, (0, 0, 0)), (67, .return_, 1, (0, 0, 0))]
set_option maxRecDepth 100000 in
def tb_X4_init : List pI := [(0, .aload_n 0, 1, (0, 0, 0)), (1, .invokespecial 5, 3, (-1, 0, 228)), (4, .aload_n 0, 1, (0, 0, 0)), (5, .iload_n 1, 1, (0, 0, 0)), (6, .newarray .int, 2, (0, 0, 222)), (8, .putfield 11, 3, (4, 0, 229)), (11, .aload_n 0, 1, (0, 0, 0)), (12, .iload_n 1, 1, (0, 0, 0)), (13, .newarray .int, 2, (0, 0, 222)), (15, .putfield 17, 3, (4, 1, 230)), (18, .aload_n 0, 1, (0, 0, 0)), (19, .iload_n 1, 1, (0, 0, 0)), (20, .iconst 2, 1, (0, 0, 0)), (21, .iadd, 1, (0, 0, 0)), (22, .newarray .int, 2, (0, 0, 222)), (24, .putfield 20, 3, (4, 2, 231)), (27, .return_, 1, (0, 0, 0))]
set_option maxRecDepth 100000 in
def tb_X4_put : List pI := [(0, .aload_n 0, 1, (0, 0, 0)), (1, .getfield 23, 3, (4, 3, 232)), (4, .aload_n 0, 1, (0, 0, 0)), (5, .getfield 11, 3, (4, 0, 229)), (8, .arraylength, 1, (0, 0, 0)), (9, .if_icmp .ge 23, 3, (0, 0, 0)), (12, .aload_n 0, 1, (0, 0, 0)), (13, .aload_n 0, 1, (0, 0, 0)), (14, .getfield 23, 3, (4, 3, 232)), (17, .iload_n 1, 1, (0, 0, 0)), (18, .iload_n 2, 1, (0, 0, 0)), (19, .invokevirtual 27, 3, (77, 0, 1539)), (22, .aload_n 0, 1, (0, 0, 0)), (23, .dup, 1, (0, 0, 0)), (24, .getfield 23, 3, (4, 3, 232)), (27, .iconst 1, 1, (0, 0, 0)), (28, .iadd, 1, (0, 0, 0)), (29, .putfield 23, 3, (4, 3, 232)), (32, .return_, 1, (0, 0, 0))]
set_option maxRecDepth 100000 in
def tb_X4_set : List pI := [(0, .aload_n 0, 1, (0, 0, 0)), (1, .getfield 11, 3, (4, 0, 229)), (4, .iload_n 1, 1, (0, 0, 0)), (5, .iload_n 2, 1, (0, 0, 0)), (6, .iastore, 1, (0, 0, 0)), (7, .aload_n 0, 1, (0, 0, 0)), (8, .getfield 17, 3, (4, 1, 230)), (11, .iload_n 1, 1, (0, 0, 0)), (12, .iload_n 3, 1, (0, 0, 0)), (13, .iastore, 1, (0, 0, 0)), (14, .return_, 1, (0, 0, 0))]
set_option maxRecDepth 100000 in
def tb_X4_workOut : List pI := [(0, .aload_n 0, 1, (0, 0, 0)), (1, .iconst 0, 1, (0, 0, 0)), (2, .putfield 31, 3, (4, 4, 235)), (5, .aload_n 0, 1, (0, 0, 0)), (6, .getfield 20, 3, (4, 2, 231)), (9, .iconst 0, 1, (0, 0, 0)), (10, .iconst 0, 1, (0, 0, 0)), (11, .iastore, 1, (0, 0, 0)), (12, .iconst 0, 1, (0, 0, 0)), (13, .istore 4, 2, (0, 0, 0)), (15, .iload_n 1, 1, (0, 0, 0)), (16, .istore 5, 2, (0, 0, 0)), (18, .iload 5, 2, (0, 0, 0)), (20, .iload_n 2, 1, (0, 0, 0)), (21, .if_icmp .ge 104, 3, (0, 0, 0)), (24, .aload_n 0, 1, (0, 0, 0)), (25, .getfield 11, 3, (4, 0, 229)), (28, .iload 5, 2, (0, 0, 0)), (30, .iaload, 1, (0, 0, 0)), (31, .istore 6, 2, (0, 0, 0)), (33, .iload 4, 2, (0, 0, 0)), (35, .iload 6, 2, (0, 0, 0)), (37, .iconst 3, 1, (0, 0, 0)), (38, .if_icmp .gt 7, 3, (0, 0, 0)), (41, .iconst 0, 1, (0, 0, 0)), (42, .goto 21, 3, (0, 0, 0)), (45, .iload 6, 2, (0, 0, 0)), (47, .iconst 4, 1, (0, 0, 0)), (48, .if_icmp .eq 10, 3, (0, 0, 0)), (51, .iload 6, 2, (0, 0, 0)), (53, .bipush 33, 2, (0, 0, 0)), (55, .if_icmp .ne 7, 3, (0, 0, 0)), (58, .iconst 1, 1, (0, 0, 0)), (59, .goto 4, 3, (0, 0, 0)), (62, .iconst 2, 1, (0, 0, 0)), (63, .isub, 1, (0, 0, 0)), (64, .istore 4, 2, (0, 0, 0)), (66, .aload_n 0, 1, (0, 0, 0)), (67, .iload 6, 2, (0, 0, 0)), (69, .aload_n 0, 1, (0, 0, 0)), (70, .getfield 17, 3, (4, 1, 230)), (73, .iload 5, 2, (0, 0, 0)), (75, .iaload, 1, (0, 0, 0)), (76, .iload 4, 2, (0, 0, 0)), (78, .aload_n 3, 1, (0, 0, 0)), (79, .invokevirtual 35, 3, (79, 0, 798)), (82, .istore 7, 2, (0, 0, 0)), (84, .iload 7, 2, (0, 0, 0)), (86, .sipush 999, 3, (0, 0, 0)), (89, .if_icmp .gt 11, 3, (0, 0, 0)), (92, .iload 7, 2, (0, 0, 0)), (94, .sipush (-999), 3, (0, 0, 0)), (97, .if_icmp .ge 10, 3, (0, 0, 0)), (100, .aload_n 0, 1, (0, 0, 0)), (101, .iconst 1, 1, (0, 0, 0)), (102, .putfield 31, 3, (4, 4, 235)), (105, .iconst 0, 1, (0, 0, 0)), (106, .ireturn, 1, (0, 0, 0)), (107, .aload_n 0, 1, (0, 0, 0)), (108, .getfield 20, 3, (4, 2, 231)), (111, .iload 4, 2, (0, 0, 0)), (113, .iload 7, 2, (0, 0, 0)), (115, .iastore, 1, (0, 0, 0)), (116, .iinc 4 1, 3, (0, 0, 0)), (119, .iinc 5 1, 3, (0, 0, 0)), (122, .goto (-104), 3, (0, 0, 0)), (125, .aload_n 0, 1, (0, 0, 0)), (126, .getfield 20, 3, (4, 2, 231)), (129, .iconst 0, 1, (0, 0, 0)), (130, .iaload, 1, (0, 0, 0)), (131, .ireturn, 1, (0, 0, 0))]
set_option maxRecDepth 100000 in
def tb_X4_apply : List pI := [(0, .aload_n 0, 1, (0, 0, 0)), (1, .getfield 20, 3, (4, 2, 231)), (4, .iload_n 3, 1, (0, 0, 0)), (5, .iaload, 1, (0, 0, 0)), (6, .istore 5, 2, (0, 0, 0)), (8, .aload_n 0, 1, (0, 0, 0)), (9, .getfield 20, 3, (4, 2, 231)), (12, .iload_n 3, 1, (0, 0, 0)), (13, .iconst 1, 1, (0, 0, 0)), (14, .iadd, 1, (0, 0, 0)), (15, .iaload, 1, (0, 0, 0)), (16, .istore 6, 2, (0, 0, 0)), (18, .iload_n 1, 1, (0, 0, 0)), (19, .lookupswitch 288 #[(1, 129), (2, 131), (3, 136), (4, 158), (33, 162), (38, 217), (42, 185), (43, 173), (45, 179), (60, 191), (62, 204), (124, 233), (161, 262), (188, 275), (189, 249)], 129, (0, 0, 0)), (148, .iload_n 2, 1, (0, 0, 0)), (149, .ireturn, 1, (0, 0, 0)), (150, .aload 4, 2, (0, 0, 0)), (152, .iload_n 2, 1, (0, 0, 0)), (153, .iaload, 1, (0, 0, 0)), (154, .ireturn, 1, (0, 0, 0)), (155, .aload 4, 2, (0, 0, 0)), (157, .iconst 0, 1, (0, 0, 0)), (158, .iload_n 2, 1, (0, 0, 0)), (159, .bipush 8, 2, (0, 0, 0)), (161, .idiv, 1, (0, 0, 0)), (162, .iadd, 1, (0, 0, 0)), (163, .iaload, 1, (0, 0, 0)), (164, .iload_n 2, 1, (0, 0, 0)), (165, .bipush 8, 2, (0, 0, 0)), (167, .irem, 1, (0, 0, 0)), (168, .if_icmp .ne 7, 3, (0, 0, 0)), (171, .iconst 1, 1, (0, 0, 0)), (172, .goto 4, 3, (0, 0, 0)), (175, .iconst 0, 1, (0, 0, 0)), (176, .ireturn, 1, (0, 0, 0)), (177, .iload 5, 2, (0, 0, 0)), (179, .ineg, 1, (0, 0, 0)), (180, .ireturn, 1, (0, 0, 0)), (181, .iload 5, 2, (0, 0, 0)), (183, .ifCond .ne 7, 3, (0, 0, 0)), (186, .iconst 1, 1, (0, 0, 0)), (187, .goto 4, 3, (0, 0, 0)), (190, .iconst 0, 1, (0, 0, 0)), (191, .ireturn, 1, (0, 0, 0)), (192, .iload 5, 2, (0, 0, 0)), (194, .iload 6, 2, (0, 0, 0)), (196, .iadd, 1, (0, 0, 0)), (197, .ireturn, 1, (0, 0, 0)), (198, .iload 5, 2, (0, 0, 0)), (200, .iload 6, 2, (0, 0, 0)), (202, .isub, 1, (0, 0, 0)), (203, .ireturn, 1, (0, 0, 0)), (204, .iload 5, 2, (0, 0, 0)), (206, .iload 6, 2, (0, 0, 0)), (208, .imul, 1, (0, 0, 0)), (209, .ireturn, 1, (0, 0, 0)), (210, .iload 5, 2, (0, 0, 0)), (212, .iload 6, 2, (0, 0, 0)), (214, .if_icmp .ge 7, 3, (0, 0, 0)), (217, .iconst 1, 1, (0, 0, 0)), (218, .goto 4, 3, (0, 0, 0)), (221, .iconst 0, 1, (0, 0, 0)), (222, .ireturn, 1, (0, 0, 0)), (223, .iload 5, 2, (0, 0, 0)), (225, .iload 6, 2, (0, 0, 0)), (227, .if_icmp .le 7, 3, (0, 0, 0)), (230, .iconst 1, 1, (0, 0, 0)), (231, .goto 4, 3, (0, 0, 0)), (234, .iconst 0, 1, (0, 0, 0)), (235, .ireturn, 1, (0, 0, 0)), (236, .iload 5, 2, (0, 0, 0)), (238, .ifCond .eq 12, 3, (0, 0, 0)), (241, .iload 6, 2, (0, 0, 0)), (243, .ifCond .eq 7, 3, (0, 0, 0)), (246, .iconst 1, 1, (0, 0, 0)), (247, .goto 4, 3, (0, 0, 0)), (250, .iconst 0, 1, (0, 0, 0)), (251, .ireturn, 1, (0, 0, 0)), (252, .iload 5, 2, (0, 0, 0)), (254, .ifCond .ne 8, 3, (0, 0, 0)), (257, .iload 6, 2, (0, 0, 0)), (259, .ifCond .eq 7, 3, (0, 0, 0)), (262, .iconst 1, 1, (0, 0, 0)), (263, .goto 4, 3, (0, 0, 0)), (266, .iconst 0, 1, (0, 0, 0)), (267, .ireturn, 1, (0, 0, 0)), (268, .iload 5, 2, (0, 0, 0)), (270, .iload 6, 2, (0, 0, 0)), (272, .if_icmp .ne 7, 3, (0, 0, 0)), (275, .iconst 1, 1, (0, 0, 0)), (276, .goto 4, 3, (0, 0, 0)), (279, .iconst 0, 1, (0, 0, 0)), (280, .ireturn, 1, (0, 0, 0)), (281, .iload 5, 2, (0, 0, 0)), (283, .iload 6, 2, (0, 0, 0)), (285, .if_icmp .eq 7, 3, (0, 0, 0)), (288, .iconst 1, 1, (0, 0, 0)), (289, .goto 4, 3, (0, 0, 0)), (292, .iconst 0, 1, (0, 0, 0)), (293, .ireturn, 1, (0, 0, 0)), (294, .iload 5, 2, (0, 0, 0)), (296, .iload 6, 2, (0, 0, 0)), (298, .if_icmp .gt 7, 3, (0, 0, 0)), (301, .iconst 1, 1, (0, 0, 0)), (302, .goto 4, 3, (0, 0, 0)), (305, .iconst 0, 1, (0, 0, 0)), (306, .ireturn, 1, (0, 0, 0)), (307, .iload 5, 2, (0, 0, 0)), (309, .iload 6, 2, (0, 0, 0)), (311, .if_icmp .lt 7, 3, (0, 0, 0)), (314, .iconst 1, 1, (0, 0, 0)), (315, .goto 4, 3, (0, 0, 0)), (318, .iconst 0, 1, (0, 0, 0)), (319, .ireturn, 1, (0, 0, 0))]
set_option maxRecDepth 100000 in
def tb_X5_init : List pI := [(0, .aload_n 0, 1, (0, 0, 0)), (1, .invokespecial 3, 3, (-1, 0, 253)), (4, .aload_n 0, 1, (0, 0, 0)), (5, .bipush 16, 2, (0, 0, 0)), (7, .newarray .long, 2, (0, 0, 221)), (9, .putfield 11, 3, (5, 1, 259)), (12, .aload_n 0, 1, (0, 0, 0)), (13, .bipush 24, 2, (0, 0, 0)), (15, .newarray .long, 2, (0, 0, 221)), (17, .putfield 15, 3, (5, 2, 260)), (20, .aload_n 0, 1, (0, 0, 0)), (21, .iconst 4, 1, (0, 0, 0)), (22, .newarray .int, 2, (0, 0, 222)), (24, .putfield 18, 3, (5, 3, 262)), (27, .aload_n 0, 1, (0, 0, 0)), (28, .bipush 8, 2, (0, 0, 0)), (30, .newarray .int, 2, (0, 0, 222)), (32, .putfield 22, 3, (5, 4, 265)), (35, .aload_n 0, 1, (0, 0, 0)), (36, .iconst 4, 1, (0, 0, 0)), (37, .newarray .int, 2, (0, 0, 222)), (39, .putfield 25, 3, (5, 5, 268)), (42, .aload_n 0, 1, (0, 0, 0)), (43, .bipush 18, 2, (0, 0, 0)), (45, .bipush 100, 2, (0, 0, 0)), (47, .multianewarray 28 2, 4, (0, 222, 254)), (51, .putfield 30, 3, (5, 6, 270)), (54, .aload_n 0, 1, (0, 0, 0)), (55, .aload_n 1, 1, (0, 0, 0)), (56, .putfield 33, 3, (5, 0, 256)), (59, .return_, 1, (0, 0, 0))]
set_option maxRecDepth 100000 in
def tb_X5_clear : List pI := [(0, .aload_n 0, 1, (0, 0, 0)), (1, .getfield 11, 3, (5, 1, 259)), (4, .lconst 0, 1, (0, 0, 0)), (5, .invokestatic 37, 3, (434, 0, 1291)), (8, .aload_n 0, 1, (0, 0, 0)), (9, .getfield 18, 3, (5, 3, 262)), (12, .iconst 0, 1, (0, 0, 0)), (13, .invokestatic 43, 3, (435, 0, 1294)), (16, .aload_n 0, 1, (0, 0, 0)), (17, .getfield 33, 3, (5, 0, 256)), (20, .iconst 0, 1, (0, 0, 0)), (21, .putfield 46, 3, (4, 3, 234)), (24, .aload_n 0, 1, (0, 0, 0)), (25, .iconst 0, 1, (0, 0, 0)), (26, .putfield 52, 3, (5, 7, 277)), (29, .aload_n 0, 1, (0, 0, 0)), (30, .iconst 0, 1, (0, 0, 0)), (31, .putfield 55, 3, (5, 8, 279)), (34, .aload_n 0, 1, (0, 0, 0)), (35, .iconst 0, 1, (0, 0, 0)), (36, .putfield 58, 3, (5, 9, 282)), (39, .aload_n 0, 1, (0, 0, 0)), (40, .iconst 0, 1, (0, 0, 0)), (41, .putfield 61, 3, (5, 10, 287)), (44, .aload_n 0, 1, (0, 0, 0)), (45, .iconst 0, 1, (0, 0, 0)), (46, .putfield 64, 3, (5, 11, 291)), (49, .aload_n 0, 1, (0, 0, 0)), (50, .iconst 0, 1, (0, 0, 0)), (51, .putfield 67, 3, (5, 12, 297)), (54, .aload_n 0, 1, (0, 0, 0)), (55, .iconst 0, 1, (0, 0, 0)), (56, .putfield 70, 3, (5, 13, 300)), (59, .return_, 1, (0, 0, 0))]
set_option maxRecDepth 100000 in
def tb_X5_copy : List pI := [(0, .aload_n 0, 1, (0, 0, 0)), (1, .aload_n 1, 1, (0, 0, 0)), (2, .getfield 52, 3, (5, 7, 277)), (5, .putfield 52, 3, (5, 7, 277)), (8, .aload_n 0, 1, (0, 0, 0)), (9, .aload_n 1, 1, (0, 0, 0)), (10, .getfield 55, 3, (5, 8, 279)), (13, .putfield 55, 3, (5, 8, 279)), (16, .aload_n 0, 1, (0, 0, 0)), (17, .aload_n 1, 1, (0, 0, 0)), (18, .getfield 58, 3, (5, 9, 282)), (21, .putfield 58, 3, (5, 9, 282)), (24, .aload_n 0, 1, (0, 0, 0)), (25, .aload_n 1, 1, (0, 0, 0)), (26, .getfield 61, 3, (5, 10, 287)), (29, .putfield 61, 3, (5, 10, 287)), (32, .aload_n 0, 1, (0, 0, 0)), (33, .aload_n 1, 1, (0, 0, 0)), (34, .getfield 64, 3, (5, 11, 291)), (37, .putfield 64, 3, (5, 11, 291)), (40, .aload_n 0, 1, (0, 0, 0)), (41, .aload_n 1, 1, (0, 0, 0)), (42, .getfield 67, 3, (5, 12, 297)), (45, .putfield 67, 3, (5, 12, 297)), (48, .aload_n 0, 1, (0, 0, 0)), (49, .aload_n 1, 1, (0, 0, 0)), (50, .getfield 70, 3, (5, 13, 300)), (53, .putfield 70, 3, (5, 13, 300)), (56, .aload_n 1, 1, (0, 0, 0)), (57, .getfield 11, 3, (5, 1, 259)), (60, .iconst 0, 1, (0, 0, 0)), (61, .aload_n 0, 1, (0, 0, 0)), (62, .getfield 11, 3, (5, 1, 259)), (65, .iconst 0, 1, (0, 0, 0)), (66, .bipush 16, 2, (0, 0, 0)), (68, .invokestatic 73, 3, (-2, 0, 1149)), (71, .aload_n 1, 1, (0, 0, 0)), (72, .getfield 15, 3, (5, 2, 260)), (75, .iconst 0, 1, (0, 0, 0)), (76, .aload_n 0, 1, (0, 0, 0)), (77, .getfield 15, 3, (5, 2, 260)), (80, .iconst 0, 1, (0, 0, 0)), (81, .bipush 24, 2, (0, 0, 0)), (83, .invokestatic 73, 3, (-2, 0, 1149)), (86, .aload_n 1, 1, (0, 0, 0)), (87, .getfield 18, 3, (5, 3, 262)), (90, .iconst 0, 1, (0, 0, 0)), (91, .aload_n 0, 1, (0, 0, 0)), (92, .getfield 18, 3, (5, 3, 262)), (95, .iconst 0, 1, (0, 0, 0)), (96, .iconst 4, 1, (0, 0, 0)), (97, .invokestatic 73, 3, (-2, 0, 1149)), (100, .aload_n 1, 1, (0, 0, 0)), (101, .getfield 22, 3, (5, 4, 265)), (104, .iconst 0, 1, (0, 0, 0)), (105, .aload_n 0, 1, (0, 0, 0)), (106, .getfield 22, 3, (5, 4, 265)), (109, .iconst 0, 1, (0, 0, 0)), (110, .bipush 8, 2, (0, 0, 0)), (112, .invokestatic 73, 3, (-2, 0, 1149)), (115, .aload_n 1, 1, (0, 0, 0)), (116, .getfield 25, 3, (5, 5, 268)), (119, .iconst 0, 1, (0, 0, 0)), (120, .aload_n 0, 1, (0, 0, 0)), (121, .getfield 25, 3, (5, 5, 268)), (124, .iconst 0, 1, (0, 0, 0)), (125, .iconst 4, 1, (0, 0, 0)), (126, .invokestatic 73, 3, (-2, 0, 1149)), (129, .iconst 0, 1, (0, 0, 0)), (130, .istore_n 2, 1, (0, 0, 0)), (131, .iload_n 2, 1, (0, 0, 0)), (132, .bipush 18, 2, (0, 0, 0)), (134, .if_icmp .ge 28, 3, (0, 0, 0)), (137, .aload_n 1, 1, (0, 0, 0)), (138, .getfield 30, 3, (5, 6, 270)), (141, .iload_n 2, 1, (0, 0, 0)), (142, .aaload, 1, (0, 0, 0)), (143, .iconst 0, 1, (0, 0, 0)), (144, .aload_n 0, 1, (0, 0, 0)), (145, .getfield 30, 3, (5, 6, 270)), (148, .iload_n 2, 1, (0, 0, 0)), (149, .aaload, 1, (0, 0, 0)), (150, .iconst 0, 1, (0, 0, 0)), (151, .bipush 100, 2, (0, 0, 0)), (153, .invokestatic 73, 3, (-2, 0, 1149)), (156, .iinc 2 1, 3, (0, 0, 0)), (159, .goto (-28), 3, (0, 0, 0)), (162, .return_, 1, (0, 0, 0))]
set_option maxRecDepth 100000 in
def tb_X5_find : List pI := [(0, .iconst 0, 1, (0, 0, 0)), (1, .istore 5, 2, (0, 0, 0)), (3, .iload 5, 2, (0, 0, 0)), (5, .iload_n 2, 1, (0, 0, 0)), (6, .if_icmp .ge 23, 3, (0, 0, 0)), (9, .aload_n 0, 1, (0, 0, 0)), (10, .iload_n 1, 1, (0, 0, 0)), (11, .iload 5, 2, (0, 0, 0)), (13, .iadd, 1, (0, 0, 0)), (14, .laload, 1, (0, 0, 0)), (15, .lload_n 3, 1, (0, 0, 0)), (16, .lcmp, 1, (0, 0, 0)), (17, .ifCond .ne 6, 3, (0, 0, 0)), (20, .iload 5, 2, (0, 0, 0)), (22, .ireturn, 1, (0, 0, 0)), (23, .iinc 5 1, 3, (0, 0, 0)), (26, .goto (-23), 3, (0, 0, 0)), (29, .iconst (-1), 1, (0, 0, 0)), (30, .ireturn, 1, (0, 0, 0))]
set_option maxRecDepth 100000 in
def tb_X5_named : List pI := [(0, .iconst 0, 1, (0, 0, 0)), (1, .istore_n 3, 1, (0, 0, 0)), (2, .iload_n 3, 1, (0, 0, 0)), (3, .bipush 16, 2, (0, 0, 0)), (5, .if_icmp .ge 22, 3, (0, 0, 0)), (8, .aload_n 0, 1, (0, 0, 0)), (9, .getfield 11, 3, (5, 1, 259)), (12, .iload_n 3, 1, (0, 0, 0)), (13, .laload, 1, (0, 0, 0)), (14, .lload_n 1, 1, (0, 0, 0)), (15, .lcmp, 1, (0, 0, 0)), (16, .ifCond .ne 5, 3, (0, 0, 0)), (19, .iload_n 3, 1, (0, 0, 0)), (20, .ireturn, 1, (0, 0, 0)), (21, .iinc 3 1, 3, (0, 0, 0)), (24, .goto (-22), 3, (0, 0, 0)), (27, .iconst (-1), 1, (0, 0, 0)), (28, .ireturn, 1, (0, 0, 0))]
set_option maxRecDepth 100000 in
def tb_X5_isCell : List pI := [(0, .iload_n 0, 1, (0, 0, 0)), (1, .ifCond .lt 13, 3, (0, 0, 0)), (4, .iload_n 0, 1, (0, 0, 0)), (5, .bipush 8, 2, (0, 0, 0)), (7, .if_icmp .ge 7, 3, (0, 0, 0)), (10, .iconst 1, 1, (0, 0, 0)), (11, .goto 4, 3, (0, 0, 0)), (14, .iconst 0, 1, (0, 0, 0)), (15, .ireturn, 1, (0, 0, 0))]
set_option maxRecDepth 100000 in
def tb_X5_isLock : List pI := [(0, .iload_n 0, 1, (0, 0, 0)), (1, .bipush 8, 2, (0, 0, 0)), (3, .if_icmp .lt 13, 3, (0, 0, 0)), (6, .iload_n 0, 1, (0, 0, 0)), (7, .bipush 12, 2, (0, 0, 0)), (9, .if_icmp .ge 7, 3, (0, 0, 0)), (12, .iconst 1, 1, (0, 0, 0)), (13, .goto 4, 3, (0, 0, 0)), (16, .iconst 0, 1, (0, 0, 0)), (17, .ireturn, 1, (0, 0, 0))]
set_option maxRecDepth 100000 in
def tb_X5_isThread : List pI := [(0, .iload_n 0, 1, (0, 0, 0)), (1, .bipush 12, 2, (0, 0, 0)), (3, .if_icmp .lt 7, 3, (0, 0, 0)), (6, .iconst 1, 1, (0, 0, 0)), (7, .goto 4, 3, (0, 0, 0)), (10, .iconst 0, 1, (0, 0, 0)), (11, .ireturn, 1, (0, 0, 0))]
set_option maxRecDepth 100000 in
def tb_X5_localOf : List pI := [(0, .aload_n 0, 1, (0, 0, 0)), (1, .getfield 15, 3, (5, 2, 260)), (4, .iload_n 1, 1, (0, 0, 0)), (5, .bipush 6, 2, (0, 0, 0)), (7, .imul, 1, (0, 0, 0)), (8, .aload_n 0, 1, (0, 0, 0)), (9, .getfield 18, 3, (5, 3, 262)), (12, .iload_n 1, 1, (0, 0, 0)), (13, .iaload, 1, (0, 0, 0)), (14, .lload_n 2, 1, (0, 0, 0)), (15, .invokestatic 79, 3, (83, 0, 1420)), (18, .ireturn, 1, (0, 0, 0))]
set_option maxRecDepth 100000 in
def tb_X5_isTold : List pI := [(0, .iconst 0, 1, (0, 0, 0)), (1, .istore_n 3, 1, (0, 0, 0)), (2, .iload_n 3, 1, (0, 0, 0)), (3, .aload_n 0, 1, (0, 0, 0)), (4, .getfield 64, 3, (5, 11, 291)), (7, .if_icmp .ge 20, 3, (0, 0, 0)), (10, .aload_n 0, 1, (0, 0, 0)), (11, .iload_n 3, 1, (0, 0, 0)), (12, .lload_n 1, 1, (0, 0, 0)), (13, .invokevirtual 83, 3, (88, 0, 1416)), (16, .ifCond .lt 5, 3, (0, 0, 0)), (19, .iconst 1, 1, (0, 0, 0)), (20, .ireturn, 1, (0, 0, 0)), (21, .iinc 3 1, 3, (0, 0, 0)), (24, .goto (-22), 3, (0, 0, 0)), (27, .aload_n 0, 1, (0, 0, 0)), (28, .lload_n 1, 1, (0, 0, 0)), (29, .invokevirtual 87, 3, (84, 0, 1423)), (32, .ifCond .lt 7, 3, (0, 0, 0)), (35, .iconst 1, 1, (0, 0, 0)), (36, .goto 4, 3, (0, 0, 0)), (39, .iconst 0, 1, (0, 0, 0)), (40, .ireturn, 1, (0, 0, 0))]
set_option maxRecDepth 100000 in
def tb_X5_hasCell : List pI := [(0, .iload_n 1, 1, (0, 0, 0)), (1, .ifCond .lt 15, 3, (0, 0, 0)), (4, .iload_n 1, 1, (0, 0, 0)), (5, .aload_n 0, 1, (0, 0, 0)), (6, .getfield 58, 3, (5, 9, 282)), (9, .if_icmp .ge 7, 3, (0, 0, 0)), (12, .iconst 1, 1, (0, 0, 0)), (13, .goto 4, 3, (0, 0, 0)), (16, .iconst 0, 1, (0, 0, 0)), (17, .ireturn, 1, (0, 0, 0))]
set_option maxRecDepth 100000 in
def tb_X5_hasThread : List pI := [(0, .iload_n 1, 1, (0, 0, 0)), (1, .ifCond .lt 15, 3, (0, 0, 0)), (4, .iload_n 1, 1, (0, 0, 0)), (5, .aload_n 0, 1, (0, 0, 0)), (6, .getfield 64, 3, (5, 11, 291)), (9, .if_icmp .ge 7, 3, (0, 0, 0)), (12, .iconst 1, 1, (0, 0, 0)), (13, .goto 4, 3, (0, 0, 0)), (16, .iconst 0, 1, (0, 0, 0)), (17, .ireturn, 1, (0, 0, 0))]
set_option maxRecDepth 100000 in
def tb_X5_hasLocal : List pI := [(0, .aload_n 0, 1, (0, 0, 0)), (1, .iload_n 1, 1, (0, 0, 0)), (2, .invokevirtual 91, 3, (92, 0, 945)), (5, .ifCond .eq 21, 3, (0, 0, 0)), (8, .iload_n 2, 1, (0, 0, 0)), (9, .ifCond .lt 17, 3, (0, 0, 0)), (12, .iload_n 2, 1, (0, 0, 0)), (13, .aload_n 0, 1, (0, 0, 0)), (14, .getfield 18, 3, (5, 3, 262)), (17, .iload_n 1, 1, (0, 0, 0)), (18, .iaload, 1, (0, 0, 0)), (19, .if_icmp .ge 7, 3, (0, 0, 0)), (22, .iconst 1, 1, (0, 0, 0)), (23, .goto 4, 3, (0, 0, 0)), (26, .iconst 0, 1, (0, 0, 0)), (27, .ireturn, 1, (0, 0, 0))]
set_option maxRecDepth 100000 in
def tb_X5_isVolatile : List pI := [(0, .aload_n 0, 1, (0, 0, 0)), (1, .getfield 52, 3, (5, 7, 277)), (4, .iload_n 1, 1, (0, 0, 0)), (5, .ishr, 1, (0, 0, 0)), (6, .iconst 1, 1, (0, 0, 0)), (7, .iand, 1, (0, 0, 0)), (8, .ifCond .eq 7, 3, (0, 0, 0)), (11, .iconst 1, 1, (0, 0, 0)), (12, .goto 4, 3, (0, 0, 0)), (15, .iconst 0, 1, (0, 0, 0)), (16, .ireturn, 1, (0, 0, 0))]
set_option maxRecDepth 100000 in
def tb_X5_addCell : List pI := [(0, .aload_n 0, 1, (0, 0, 0)), (1, .getfield 11, 3, (5, 1, 259)), (4, .aload_n 0, 1, (0, 0, 0)), (5, .getfield 58, 3, (5, 9, 282)), (8, .lload_n 1, 1, (0, 0, 0)), (9, .lastore, 1, (0, 0, 0)), (10, .aload_n 0, 1, (0, 0, 0)), (11, .getfield 22, 3, (5, 4, 265)), (14, .aload_n 0, 1, (0, 0, 0)), (15, .getfield 58, 3, (5, 9, 282)), (18, .iconst 0, 1, (0, 0, 0)), (19, .iastore, 1, (0, 0, 0)), (20, .aload_n 0, 1, (0, 0, 0)), (21, .dup, 1, (0, 0, 0)), (22, .getfield 58, 3, (5, 9, 282)), (25, .iconst 1, 1, (0, 0, 0)), (26, .iadd, 1, (0, 0, 0)), (27, .putfield 58, 3, (5, 9, 282)), (30, .aload_n 0, 1, (0, 0, 0)), (31, .getfield 58, 3, (5, 9, 282)), (34, .iconst 1, 1, (0, 0, 0)), (35, .isub, 1, (0, 0, 0)), (36, .ireturn, 1, (0, 0, 0))]
set_option maxRecDepth 100000 in
def tb_X5_addLock : List pI := [(0, .aload_n 0, 1, (0, 0, 0)), (1, .getfield 11, 3, (5, 1, 259)), (4, .bipush 8, 2, (0, 0, 0)), (6, .aload_n 0, 1, (0, 0, 0)), (7, .getfield 61, 3, (5, 10, 287)), (10, .iadd, 1, (0, 0, 0)), (11, .lload_n 1, 1, (0, 0, 0)), (12, .lastore, 1, (0, 0, 0)), (13, .aload_n 0, 1, (0, 0, 0)), (14, .dup, 1, (0, 0, 0)), (15, .getfield 61, 3, (5, 10, 287)), (18, .iconst 1, 1, (0, 0, 0)), (19, .iadd, 1, (0, 0, 0)), (20, .putfield 61, 3, (5, 10, 287)), (23, .return_, 1, (0, 0, 0))]
set_option maxRecDepth 100000 in
def tb_X5_addThread : List pI := [(0, .aload_n 0, 1, (0, 0, 0)), (1, .getfield 11, 3, (5, 1, 259)), (4, .bipush 12, 2, (0, 0, 0)), (6, .aload_n 0, 1, (0, 0, 0)), (7, .getfield 64, 3, (5, 11, 291)), (10, .iadd, 1, (0, 0, 0)), (11, .lload_n 1, 1, (0, 0, 0)), (12, .lastore, 1, (0, 0, 0)), (13, .aload_n 0, 1, (0, 0, 0)), (14, .getfield 25, 3, (5, 5, 268)), (17, .aload_n 0, 1, (0, 0, 0)), (18, .getfield 64, 3, (5, 11, 291)), (21, .iconst (-1), 1, (0, 0, 0)), (22, .iastore, 1, (0, 0, 0)), (23, .aload_n 0, 1, (0, 0, 0)), (24, .dup, 1, (0, 0, 0)), (25, .getfield 64, 3, (5, 11, 291)), (28, .iconst 1, 1, (0, 0, 0)), (29, .iadd, 1, (0, 0, 0)), (30, .putfield 64, 3, (5, 11, 291)), (33, .aload_n 0, 1, (0, 0, 0)), (34, .getfield 64, 3, (5, 11, 291)), (37, .iconst 1, 1, (0, 0, 0)), (38, .isub, 1, (0, 0, 0)), (39, .ireturn, 1, (0, 0, 0))]
set_option maxRecDepth 100000 in
def tb_X5_addLocal : List pI := [(0, .aload_n 0, 1, (0, 0, 0)), (1, .getfield 15, 3, (5, 2, 260)), (4, .iload_n 1, 1, (0, 0, 0)), (5, .bipush 6, 2, (0, 0, 0)), (7, .imul, 1, (0, 0, 0)), (8, .aload_n 0, 1, (0, 0, 0)), (9, .getfield 18, 3, (5, 3, 262)), (12, .iload_n 1, 1, (0, 0, 0)), (13, .iaload, 1, (0, 0, 0)), (14, .iadd, 1, (0, 0, 0)), (15, .lload_n 2, 1, (0, 0, 0)), (16, .lastore, 1, (0, 0, 0)), (17, .aload_n 0, 1, (0, 0, 0)), (18, .getfield 18, 3, (5, 3, 262)), (21, .iload_n 1, 1, (0, 0, 0)), (22, .dup2, 1, (0, 0, 0)), (23, .iaload, 1, (0, 0, 0)), (24, .iconst 1, 1, (0, 0, 0)), (25, .iadd, 1, (0, 0, 0)), (26, .iastore, 1, (0, 0, 0)), (27, .aload_n 0, 1, (0, 0, 0)), (28, .getfield 18, 3, (5, 3, 262)), (31, .iload_n 1, 1, (0, 0, 0)), (32, .iaload, 1, (0, 0, 0)), (33, .iconst 1, 1, (0, 0, 0)), (34, .isub, 1, (0, 0, 0)), (35, .ireturn, 1, (0, 0, 0))]
set_option maxRecDepth 100000 in
def tb_X5_addLine : List pI := [(0, .aload_n 0, 1, (0, 0, 0)), (1, .getfield 67, 3, (5, 12, 297)), (4, .istore 5, 2, (0, 0, 0)), (6, .aload_n 0, 1, (0, 0, 0)), (7, .dup, 1, (0, 0, 0)), (8, .getfield 67, 3, (5, 12, 297)), (11, .iconst 1, 1, (0, 0, 0)), (12, .iadd, 1, (0, 0, 0)), (13, .putfield 67, 3, (5, 12, 297)), (16, .iconst 0, 1, (0, 0, 0)), (17, .istore 6, 2, (0, 0, 0)), (19, .iload 6, 2, (0, 0, 0)), (21, .bipush 18, 2, (0, 0, 0)), (23, .if_icmp .ge 20, 3, (0, 0, 0)), (26, .aload_n 0, 1, (0, 0, 0)), (27, .getfield 30, 3, (5, 6, 270)), (30, .iload 6, 2, (0, 0, 0)), (32, .aaload, 1, (0, 0, 0)), (33, .iload 5, 2, (0, 0, 0)), (35, .iconst 0, 1, (0, 0, 0)), (36, .iastore, 1, (0, 0, 0)), (37, .iinc 6 1, 3, (0, 0, 0)), (40, .goto (-21), 3, (0, 0, 0)), (43, .aload_n 0, 1, (0, 0, 0)), (44, .getfield 30, 3, (5, 6, 270)), (47, .iconst 1, 1, (0, 0, 0)), (48, .aaload, 1, (0, 0, 0)), (49, .iload 5, 2, (0, 0, 0)), (51, .iload_n 1, 1, (0, 0, 0)), (52, .iastore, 1, (0, 0, 0)), (53, .aload_n 0, 1, (0, 0, 0)), (54, .getfield 30, 3, (5, 6, 270)), (57, .iconst 2, 1, (0, 0, 0)), (58, .aaload, 1, (0, 0, 0)), (59, .iload 5, 2, (0, 0, 0)), (61, .bipush (-2), 2, (0, 0, 0)), (63, .iastore, 1, (0, 0, 0)), (64, .aload_n 0, 1, (0, 0, 0)), (65, .getfield 30, 3, (5, 6, 270)), (68, .iconst 3, 1, (0, 0, 0)), (69, .aaload, 1, (0, 0, 0)), (70, .iload 5, 2, (0, 0, 0)), (72, .bipush (-2), 2, (0, 0, 0)), (74, .iastore, 1, (0, 0, 0)), (75, .aload_n 0, 1, (0, 0, 0)), (76, .getfield 30, 3, (5, 6, 270)), (79, .iconst 4, 1, (0, 0, 0)), (80, .aaload, 1, (0, 0, 0)), (81, .iload 5, 2, (0, 0, 0)), (83, .iload 4, 2, (0, 0, 0)), (85, .iastore, 1, (0, 0, 0)), (86, .aload_n 0, 1, (0, 0, 0)), (87, .getfield 30, 3, (5, 6, 270)), (90, .bipush 10, 2, (0, 0, 0)), (92, .aaload, 1, (0, 0, 0)), (93, .iload 5, 2, (0, 0, 0)), (95, .iconst (-1), 1, (0, 0, 0)), (96, .iastore, 1, (0, 0, 0)), (97, .aload_n 0, 1, (0, 0, 0)), (98, .getfield 30, 3, (5, 6, 270)), (101, .bipush 11, 2, (0, 0, 0)), (103, .aaload, 1, (0, 0, 0)), (104, .iload 5, 2, (0, 0, 0)), (106, .iload_n 2, 1, (0, 0, 0)), (107, .iastore, 1, (0, 0, 0)), (108, .aload_n 0, 1, (0, 0, 0)), (109, .getfield 30, 3, (5, 6, 270)), (112, .bipush 12, 2, (0, 0, 0)), (114, .aaload, 1, (0, 0, 0)), (115, .iload 5, 2, (0, 0, 0)), (117, .iload_n 3, 1, (0, 0, 0)), (118, .iastore, 1, (0, 0, 0)), (119, .aload_n 0, 1, (0, 0, 0)), (120, .getfield 30, 3, (5, 6, 270)), (123, .bipush 13, 2, (0, 0, 0)), (125, .aaload, 1, (0, 0, 0)), (126, .iload 5, 2, (0, 0, 0)), (128, .iconst (-1), 1, (0, 0, 0)), (129, .iastore, 1, (0, 0, 0)), (130, .aload_n 0, 1, (0, 0, 0)), (131, .getfield 30, 3, (5, 6, 270)), (134, .bipush 14, 2, (0, 0, 0)), (136, .aaload, 1, (0, 0, 0)), (137, .iload 5, 2, (0, 0, 0)), (139, .iconst (-1), 1, (0, 0, 0)), (140, .iastore, 1, (0, 0, 0)), (141, .iload 5, 2, (0, 0, 0)), (143, .ireturn, 1, (0, 0, 0))]
set_option maxRecDepth 100000 in
def tb_X5_link : List pI := [(0, .iload_n 1, 1, (0, 0, 0)), (1, .ifCond .lt 14, 3, (0, 0, 0)), (4, .aload_n 0, 1, (0, 0, 0)), (5, .getfield 30, 3, (5, 6, 270)), (8, .bipush 10, 2, (0, 0, 0)), (10, .aaload, 1, (0, 0, 0)), (11, .iload_n 1, 1, (0, 0, 0)), (12, .iload_n 2, 1, (0, 0, 0)), (13, .iastore, 1, (0, 0, 0)), (14, .return_, 1, (0, 0, 0)), (15, .aload_n 0, 1, (0, 0, 0)), (16, .getfield 30, 3, (5, 6, 270)), (19, .bipush 11, 2, (0, 0, 0)), (21, .aaload, 1, (0, 0, 0)), (22, .iload_n 2, 1, (0, 0, 0)), (23, .iaload, 1, (0, 0, 0)), (24, .istore_n 3, 1, (0, 0, 0)), (25, .iload_n 3, 1, (0, 0, 0)), (26, .ifCond .ge 20, 3, (0, 0, 0)), (29, .aload_n 0, 1, (0, 0, 0)), (30, .getfield 25, 3, (5, 5, 268)), (33, .aload_n 0, 1, (0, 0, 0)), (34, .getfield 30, 3, (5, 6, 270)), (37, .iconst 1, 1, (0, 0, 0)), (38, .aaload, 1, (0, 0, 0)), (39, .iload_n 2, 1, (0, 0, 0)), (40, .iaload, 1, (0, 0, 0)), (41, .iload_n 2, 1, (0, 0, 0)), (42, .iastore, 1, (0, 0, 0)), (43, .goto 30, 3, (0, 0, 0)), (46, .aload_n 0, 1, (0, 0, 0)), (47, .getfield 30, 3, (5, 6, 270)), (50, .aload_n 0, 1, (0, 0, 0)), (51, .getfield 30, 3, (5, 6, 270)), (54, .bipush 12, 2, (0, 0, 0)), (56, .aaload, 1, (0, 0, 0)), (57, .iload_n 2, 1, (0, 0, 0)), (58, .iaload, 1, (0, 0, 0)), (59, .ifCond .ne 8, 3, (0, 0, 0)), (62, .bipush 13, 2, (0, 0, 0)), (64, .goto 5, 3, (0, 0, 0)), (67, .bipush 14, 2, (0, 0, 0)), (69, .aaload, 1, (0, 0, 0)), (70, .iload_n 3, 1, (0, 0, 0)), (71, .iload_n 2, 1, (0, 0, 0)), (72, .iastore, 1, (0, 0, 0)), (73, .return_, 1, (0, 0, 0))]
set_option maxRecDepth 100000 in
def tb_X5_layWays : List pI := [(0, .iconst 0, 1, (0, 0, 0)), (1, .istore_n 1, 1, (0, 0, 0)), (2, .iload_n 1, 1, (0, 0, 0)), (3, .aload_n 0, 1, (0, 0, 0)), (4, .getfield 67, 3, (5, 12, 297)), (7, .if_icmp .ge 110, 3, (0, 0, 0)), (10, .aload_n 0, 1, (0, 0, 0)), (11, .iload_n 1, 1, (0, 0, 0)), (12, .invokevirtual 95, 3, (102, 0, 1191)), (15, .istore_n 2, 1, (0, 0, 0)), (16, .aload_n 0, 1, (0, 0, 0)), (17, .getfield 30, 3, (5, 6, 270)), (20, .iconst 0, 1, (0, 0, 0)), (21, .aaload, 1, (0, 0, 0)), (22, .iload_n 1, 1, (0, 0, 0)), (23, .iaload, 1, (0, 0, 0)), (24, .bipush 18, 2, (0, 0, 0)), (26, .if_icmp .ne 7, 3, (0, 0, 0)), (29, .iconst 1, 1, (0, 0, 0)), (30, .goto 4, 3, (0, 0, 0)), (33, .iconst 0, 1, (0, 0, 0)), (34, .istore_n 3, 1, (0, 0, 0)), (35, .aload_n 0, 1, (0, 0, 0)), (36, .getfield 30, 3, (5, 6, 270)), (39, .bipush 15, 2, (0, 0, 0)), (41, .aaload, 1, (0, 0, 0)), (42, .iload_n 1, 1, (0, 0, 0)), (43, .aload_n 0, 1, (0, 0, 0)), (44, .getfield 30, 3, (5, 6, 270)), (47, .bipush 13, 2, (0, 0, 0)), (49, .aaload, 1, (0, 0, 0)), (50, .iload_n 1, 1, (0, 0, 0)), (51, .iaload, 1, (0, 0, 0)), (52, .ifCond .lt 15, 3, (0, 0, 0)), (55, .aload_n 0, 1, (0, 0, 0)), (56, .getfield 30, 3, (5, 6, 270)), (59, .bipush 13, 2, (0, 0, 0)), (61, .aaload, 1, (0, 0, 0)), (62, .iload_n 1, 1, (0, 0, 0)), (63, .iaload, 1, (0, 0, 0)), (64, .goto 12, 3, (0, 0, 0)), (67, .iload_n 3, 1, (0, 0, 0)), (68, .ifCond .eq 7, 3, (0, 0, 0)), (71, .iload_n 1, 1, (0, 0, 0)), (72, .goto 4, 3, (0, 0, 0)), (75, .iload_n 2, 1, (0, 0, 0)), (76, .iastore, 1, (0, 0, 0)), (77, .aload_n 0, 1, (0, 0, 0)), (78, .getfield 30, 3, (5, 6, 270)), (81, .bipush 16, 2, (0, 0, 0)), (83, .aaload, 1, (0, 0, 0)), (84, .iload_n 1, 1, (0, 0, 0)), (85, .aload_n 0, 1, (0, 0, 0)), (86, .getfield 30, 3, (5, 6, 270)), (89, .bipush 14, 2, (0, 0, 0)), (91, .aaload, 1, (0, 0, 0)), (92, .iload_n 1, 1, (0, 0, 0)), (93, .iaload, 1, (0, 0, 0)), (94, .ifCond .lt 15, 3, (0, 0, 0)), (97, .aload_n 0, 1, (0, 0, 0)), (98, .getfield 30, 3, (5, 6, 270)), (101, .bipush 14, 2, (0, 0, 0)), (103, .aaload, 1, (0, 0, 0)), (104, .iload_n 1, 1, (0, 0, 0)), (105, .iaload, 1, (0, 0, 0)), (106, .goto 4, 3, (0, 0, 0)), (109, .iload_n 2, 1, (0, 0, 0)), (110, .iastore, 1, (0, 0, 0)), (111, .iinc 1 1, 3, (0, 0, 0)), (114, .goto (-112), 3, (0, 0, 0)), (117, .return_, 1, (0, 0, 0))]
set_option maxRecDepth 100000 in
def tb_X5_behind : List pI := [(0, .iload_n 1, 1, (0, 0, 0)), (1, .istore_n 2, 1, (0, 0, 0)), (2, .iconst 0, 1, (0, 0, 0)), (3, .istore_n 3, 1, (0, 0, 0)), (4, .iload_n 3, 1, (0, 0, 0)), (5, .bipush 100, 2, (0, 0, 0)), (7, .if_icmp .ge 60, 3, (0, 0, 0)), (10, .aload_n 0, 1, (0, 0, 0)), (11, .getfield 30, 3, (5, 6, 270)), (14, .bipush 10, 2, (0, 0, 0)), (16, .aaload, 1, (0, 0, 0)), (17, .iload_n 2, 1, (0, 0, 0)), (18, .iaload, 1, (0, 0, 0)), (19, .ifCond .lt 13, 3, (0, 0, 0)), (22, .aload_n 0, 1, (0, 0, 0)), (23, .getfield 30, 3, (5, 6, 270)), (26, .bipush 10, 2, (0, 0, 0)), (28, .aaload, 1, (0, 0, 0)), (29, .iload_n 2, 1, (0, 0, 0)), (30, .iaload, 1, (0, 0, 0)), (31, .ireturn, 1, (0, 0, 0)), (32, .aload_n 0, 1, (0, 0, 0)), (33, .getfield 30, 3, (5, 6, 270)), (36, .bipush 11, 2, (0, 0, 0)), (38, .aaload, 1, (0, 0, 0)), (39, .iload_n 2, 1, (0, 0, 0)), (40, .iaload, 1, (0, 0, 0)), (41, .istore_n 2, 1, (0, 0, 0)), (42, .iload_n 2, 1, (0, 0, 0)), (43, .ifCond .lt 16, 3, (0, 0, 0)), (46, .aload_n 0, 1, (0, 0, 0)), (47, .getfield 30, 3, (5, 6, 270)), (50, .iconst 0, 1, (0, 0, 0)), (51, .aaload, 1, (0, 0, 0)), (52, .iload_n 2, 1, (0, 0, 0)), (53, .iaload, 1, (0, 0, 0)), (54, .bipush 18, 2, (0, 0, 0)), (56, .if_icmp .ne 5, 3, (0, 0, 0)), (59, .iload_n 2, 1, (0, 0, 0)), (60, .ireturn, 1, (0, 0, 0)), (61, .iinc 3 1, 3, (0, 0, 0)), (64, .goto (-60), 3, (0, 0, 0)), (67, .iconst (-1), 1, (0, 0, 0)), (68, .ireturn, 1, (0, 0, 0))]
set_option maxRecDepth 100000 in
def tb_X5_touches : List pI := [(0, .aload_n 0, 1, (0, 0, 0)), (1, .getfield 30, 3, (5, 6, 270)), (4, .iconst 0, 1, (0, 0, 0)), (5, .aaload, 1, (0, 0, 0)), (6, .iload_n 1, 1, (0, 0, 0)), (7, .iaload, 1, (0, 0, 0)), (8, .iconst 1, 1, (0, 0, 0)), (9, .if_icmp .lt 19, 3, (0, 0, 0)), (12, .aload_n 0, 1, (0, 0, 0)), (13, .getfield 30, 3, (5, 6, 270)), (16, .iconst 0, 1, (0, 0, 0)), (17, .aaload, 1, (0, 0, 0)), (18, .iload_n 1, 1, (0, 0, 0)), (19, .iaload, 1, (0, 0, 0)), (20, .iconst 4, 1, (0, 0, 0)), (21, .if_icmp .gt 7, 3, (0, 0, 0)), (24, .iconst 1, 1, (0, 0, 0)), (25, .goto 4, 3, (0, 0, 0)), (28, .iconst 0, 1, (0, 0, 0)), (29, .ireturn, 1, (0, 0, 0))]
set_option maxRecDepth 100000 in
def tb_X5_clash : List pI := [(0, .aload_n 0, 1, (0, 0, 0)), (1, .getfield 30, 3, (5, 6, 270)), (4, .iconst 0, 1, (0, 0, 0)), (5, .aaload, 1, (0, 0, 0)), (6, .iload_n 1, 1, (0, 0, 0)), (7, .iaload, 1, (0, 0, 0)), (8, .istore_n 3, 1, (0, 0, 0)), (9, .aload_n 0, 1, (0, 0, 0)), (10, .getfield 30, 3, (5, 6, 270)), (13, .iconst 0, 1, (0, 0, 0)), (14, .aaload, 1, (0, 0, 0)), (15, .iload_n 2, 1, (0, 0, 0)), (16, .iaload, 1, (0, 0, 0)), (17, .istore 4, 2, (0, 0, 0)), (19, .aload_n 0, 1, (0, 0, 0)), (20, .getfield 30, 3, (5, 6, 270)), (23, .iconst 2, 1, (0, 0, 0)), (24, .aaload, 1, (0, 0, 0)), (25, .iload_n 1, 1, (0, 0, 0)), (26, .iaload, 1, (0, 0, 0)), (27, .aload_n 0, 1, (0, 0, 0)), (28, .getfield 30, 3, (5, 6, 270)), (31, .iconst 2, 1, (0, 0, 0)), (32, .aaload, 1, (0, 0, 0)), (33, .iload_n 2, 1, (0, 0, 0)), (34, .iaload, 1, (0, 0, 0)), (35, .if_icmp .ne 18, 3, (0, 0, 0)), (38, .aload_n 0, 1, (0, 0, 0)), (39, .aload_n 0, 1, (0, 0, 0)), (40, .getfield 30, 3, (5, 6, 270)), (43, .iconst 2, 1, (0, 0, 0)), (44, .aaload, 1, (0, 0, 0)), (45, .iload_n 1, 1, (0, 0, 0)), (46, .iaload, 1, (0, 0, 0)), (47, .invokevirtual 99, 3, (94, 0, 1049)), (50, .ifCond .eq 5, 3, (0, 0, 0)), (53, .iconst 0, 1, (0, 0, 0)), (54, .ireturn, 1, (0, 0, 0)), (55, .iload_n 3, 1, (0, 0, 0)), (56, .iconst 2, 1, (0, 0, 0)), (57, .if_icmp .eq 33, 3, (0, 0, 0)), (60, .iload 4, 2, (0, 0, 0)), (62, .iconst 2, 1, (0, 0, 0)), (63, .if_icmp .eq 27, 3, (0, 0, 0)), (66, .iload_n 3, 1, (0, 0, 0)), (67, .iconst 1, 1, (0, 0, 0)), (68, .if_icmp .ne 7, 3, (0, 0, 0)), (71, .iconst 1, 1, (0, 0, 0)), (72, .goto 4, 3, (0, 0, 0)), (75, .iconst 0, 1, (0, 0, 0)), (76, .iload 4, 2, (0, 0, 0)), (78, .iconst 1, 1, (0, 0, 0)), (79, .if_icmp .ne 7, 3, (0, 0, 0)), (82, .iconst 1, 1, (0, 0, 0)), (83, .goto 4, 3, (0, 0, 0)), (86, .iconst 0, 1, (0, 0, 0)), (87, .if_icmp .eq 7, 3, (0, 0, 0)), (90, .iconst 1, 1, (0, 0, 0)), (91, .goto 4, 3, (0, 0, 0)), (94, .iconst 0, 1, (0, 0, 0)), (95, .ireturn, 1, (0, 0, 0))]
set_option maxRecDepth 100000 in
def tb_X5_change : List pI := [(0, .iload_n 1, 1, (0, 0, 0)), (1, .ifCond .ne 11, 3, (0, 0, 0)), (4, .aload_n 0, 1, (0, 0, 0)), (5, .iload_n 2, 1, (0, 0, 0)), (6, .invokevirtual 102, 3, (107, 0, 1154)), (9, .goto 21, 3, (0, 0, 0)), (12, .iload_n 1, 1, (0, 0, 0)), (13, .iconst 1, 1, (0, 0, 0)), (14, .if_icmp .ne 11, 3, (0, 0, 0)), (17, .aload_n 0, 1, (0, 0, 0)), (18, .iload_n 2, 1, (0, 0, 0)), (19, .invokevirtual 105, 3, (108, 0, 1166)), (22, .goto 8, 3, (0, 0, 0)), (25, .aload_n 0, 1, (0, 0, 0)), (26, .iload_n 2, 1, (0, 0, 0)), (27, .invokevirtual 108, 3, (111, 0, 1178)), (30, .istore_n 3, 1, (0, 0, 0)), (31, .iload_n 3, 1, (0, 0, 0)), (32, .ifCond .eq 7, 3, (0, 0, 0)), (35, .aload_n 0, 1, (0, 0, 0)), (36, .invokevirtual 111, 3, (101, 0, 1187)), (39, .iload_n 3, 1, (0, 0, 0)), (40, .ireturn, 1, (0, 0, 0))]
set_option maxRecDepth 100000 in
def tb_X5_ahead : List pI := [(0, .aload_n 0, 1, (0, 0, 0)), (1, .getfield 30, 3, (5, 6, 270)), (4, .bipush 11, 2, (0, 0, 0)), (6, .aaload, 1, (0, 0, 0)), (7, .iload_n 1, 1, (0, 0, 0)), (8, .iaload, 1, (0, 0, 0)), (9, .istore_n 2, 1, (0, 0, 0)), (10, .iload_n 2, 1, (0, 0, 0)), (11, .ifCond .ge 19, 3, (0, 0, 0)), (14, .aload_n 0, 1, (0, 0, 0)), (15, .getfield 25, 3, (5, 5, 268)), (18, .aload_n 0, 1, (0, 0, 0)), (19, .getfield 30, 3, (5, 6, 270)), (22, .iconst 1, 1, (0, 0, 0)), (23, .aaload, 1, (0, 0, 0)), (24, .iload_n 1, 1, (0, 0, 0)), (25, .iaload, 1, (0, 0, 0)), (26, .iaload, 1, (0, 0, 0)), (27, .goto 29, 3, (0, 0, 0)), (30, .aload_n 0, 1, (0, 0, 0)), (31, .getfield 30, 3, (5, 6, 270)), (34, .aload_n 0, 1, (0, 0, 0)), (35, .getfield 30, 3, (5, 6, 270)), (38, .bipush 12, 2, (0, 0, 0)), (40, .aaload, 1, (0, 0, 0)), (41, .iload_n 1, 1, (0, 0, 0)), (42, .iaload, 1, (0, 0, 0)), (43, .ifCond .ne 8, 3, (0, 0, 0)), (46, .bipush 13, 2, (0, 0, 0)), (48, .goto 5, 3, (0, 0, 0)), (51, .bipush 14, 2, (0, 0, 0)), (53, .aaload, 1, (0, 0, 0)), (54, .iload_n 2, 1, (0, 0, 0)), (55, .iaload, 1, (0, 0, 0)), (56, .istore_n 3, 1, (0, 0, 0)), (57, .iconst (-1), 1, (0, 0, 0)), (58, .istore 4, 2, (0, 0, 0)), (60, .iconst 0, 1, (0, 0, 0)), (61, .istore 5, 2, (0, 0, 0)), (63, .iload 5, 2, (0, 0, 0)), (65, .bipush 100, 2, (0, 0, 0)), (67, .if_icmp .ge 31, 3, (0, 0, 0)), (70, .iload_n 3, 1, (0, 0, 0)), (71, .ifCond .lt 27, 3, (0, 0, 0)), (74, .iload_n 3, 1, (0, 0, 0)), (75, .iload_n 1, 1, (0, 0, 0)), (76, .if_icmp .eq 22, 3, (0, 0, 0)), (79, .iload_n 3, 1, (0, 0, 0)), (80, .istore 4, 2, (0, 0, 0)), (82, .aload_n 0, 1, (0, 0, 0)), (83, .getfield 30, 3, (5, 6, 270)), (86, .bipush 10, 2, (0, 0, 0)), (88, .aaload, 1, (0, 0, 0)), (89, .iload_n 3, 1, (0, 0, 0)), (90, .iaload, 1, (0, 0, 0)), (91, .istore_n 3, 1, (0, 0, 0)), (92, .iinc 5 1, 3, (0, 0, 0)), (95, .goto (-32), 3, (0, 0, 0)), (98, .iload 4, 2, (0, 0, 0)), (100, .ireturn, 1, (0, 0, 0))]
set_option maxRecDepth 100000 in
def tb_X5_swap : List pI := [(0, .aload_n 0, 1, (0, 0, 0)), (1, .getfield 30, 3, (5, 6, 270)), (4, .bipush 10, 2, (0, 0, 0)), (6, .aaload, 1, (0, 0, 0)), (7, .iload_n 1, 1, (0, 0, 0)), (8, .iaload, 1, (0, 0, 0)), (9, .istore_n 2, 1, (0, 0, 0)), (10, .iload_n 2, 1, (0, 0, 0)), (11, .ifCond .ge 5, 3, (0, 0, 0)), (14, .iconst 0, 1, (0, 0, 0)), (15, .ireturn, 1, (0, 0, 0)), (16, .aload_n 0, 1, (0, 0, 0)), (17, .aload_n 0, 1, (0, 0, 0)), (18, .iload_n 1, 1, (0, 0, 0)), (19, .invokevirtual 114, 3, (106, 0, 1158)), (22, .iload_n 2, 1, (0, 0, 0)), (23, .invokevirtual 117, 3, (100, 0, 1162)), (26, .aload_n 0, 1, (0, 0, 0)), (27, .getfield 30, 3, (5, 6, 270)), (30, .bipush 10, 2, (0, 0, 0)), (32, .aaload, 1, (0, 0, 0)), (33, .iload_n 1, 1, (0, 0, 0)), (34, .aload_n 0, 1, (0, 0, 0)), (35, .getfield 30, 3, (5, 6, 270)), (38, .bipush 10, 2, (0, 0, 0)), (40, .aaload, 1, (0, 0, 0)), (41, .iload_n 2, 1, (0, 0, 0)), (42, .iaload, 1, (0, 0, 0)), (43, .iastore, 1, (0, 0, 0)), (44, .aload_n 0, 1, (0, 0, 0)), (45, .getfield 30, 3, (5, 6, 270)), (48, .bipush 10, 2, (0, 0, 0)), (50, .aaload, 1, (0, 0, 0)), (51, .iload_n 2, 1, (0, 0, 0)), (52, .iload_n 1, 1, (0, 0, 0)), (53, .iastore, 1, (0, 0, 0)), (54, .iconst 1, 1, (0, 0, 0)), (55, .ireturn, 1, (0, 0, 0))]
set_option maxRecDepth 100000 in
def tb_X5_leaveOut : List pI := [(0, .aload_n 0, 1, (0, 0, 0)), (1, .getfield 30, 3, (5, 6, 270)), (4, .iconst 0, 1, (0, 0, 0)), (5, .aaload, 1, (0, 0, 0)), (6, .iload_n 1, 1, (0, 0, 0)), (7, .iaload, 1, (0, 0, 0)), (8, .bipush 17, 2, (0, 0, 0)), (10, .if_icmp .eq 16, 3, (0, 0, 0)), (13, .aload_n 0, 1, (0, 0, 0)), (14, .getfield 30, 3, (5, 6, 270)), (17, .iconst 0, 1, (0, 0, 0)), (18, .aaload, 1, (0, 0, 0)), (19, .iload_n 1, 1, (0, 0, 0)), (20, .iaload, 1, (0, 0, 0)), (21, .bipush 18, 2, (0, 0, 0)), (23, .if_icmp .ne 5, 3, (0, 0, 0)), (26, .iconst 0, 1, (0, 0, 0)), (27, .ireturn, 1, (0, 0, 0)), (28, .aload_n 0, 1, (0, 0, 0)), (29, .getfield 30, 3, (5, 6, 270)), (32, .bipush 10, 2, (0, 0, 0)), (34, .aaload, 1, (0, 0, 0)), (35, .iload_n 1, 1, (0, 0, 0)), (36, .iaload, 1, (0, 0, 0)), (37, .istore_n 2, 1, (0, 0, 0)), (38, .aload_n 0, 1, (0, 0, 0)), (39, .iload_n 1, 1, (0, 0, 0)), (40, .invokevirtual 114, 3, (106, 0, 1158)), (43, .istore_n 3, 1, (0, 0, 0)), (44, .iload_n 2, 1, (0, 0, 0)), (45, .ifCond .ge 7, 3, (0, 0, 0)), (48, .iload_n 3, 1, (0, 0, 0)), (49, .ifCond .lt 13, 3, (0, 0, 0)), (52, .aload_n 0, 1, (0, 0, 0)), (53, .iload_n 1, 1, (0, 0, 0)), (54, .iload_n 3, 1, (0, 0, 0)), (55, .iload_n 2, 1, (0, 0, 0)), (56, .invokevirtual 121, 3, (109, 0, 1170)), (59, .goto 8, 3, (0, 0, 0)), (62, .aload_n 0, 1, (0, 0, 0)), (63, .iload_n 1, 1, (0, 0, 0)), (64, .invokevirtual 125, 3, (110, 0, 1174)), (67, .aload_n 0, 1, (0, 0, 0)), (68, .getfield 30, 3, (5, 6, 270)), (71, .bipush 17, 2, (0, 0, 0)), (73, .aaload, 1, (0, 0, 0)), (74, .iload_n 1, 1, (0, 0, 0)), (75, .iconst 1, 1, (0, 0, 0)), (76, .iastore, 1, (0, 0, 0)), (77, .iconst 1, 1, (0, 0, 0)), (78, .ireturn, 1, (0, 0, 0))]
set_option maxRecDepth 100000 in
def tb_X5_unlink : List pI := [(0, .iload_n 3, 1, (0, 0, 0)), (1, .ifCond .lt 12, 3, (0, 0, 0)), (4, .aload_n 0, 1, (0, 0, 0)), (5, .iload_n 2, 1, (0, 0, 0)), (6, .iload_n 3, 1, (0, 0, 0)), (7, .invokevirtual 117, 3, (100, 0, 1162)), (10, .goto 13, 3, (0, 0, 0)), (13, .aload_n 0, 1, (0, 0, 0)), (14, .getfield 30, 3, (5, 6, 270)), (17, .bipush 10, 2, (0, 0, 0)), (19, .aaload, 1, (0, 0, 0)), (20, .iload_n 2, 1, (0, 0, 0)), (21, .iconst (-1), 1, (0, 0, 0)), (22, .iastore, 1, (0, 0, 0)), (23, .aload_n 0, 1, (0, 0, 0)), (24, .getfield 30, 3, (5, 6, 270)), (27, .bipush 10, 2, (0, 0, 0)), (29, .aaload, 1, (0, 0, 0)), (30, .iload_n 1, 1, (0, 0, 0)), (31, .iconst (-1), 1, (0, 0, 0)), (32, .iastore, 1, (0, 0, 0)), (33, .return_, 1, (0, 0, 0))]
set_option maxRecDepth 100000 in
def tb_X5_empty : List pI := [(0, .aload_n 0, 1, (0, 0, 0)), (1, .getfield 30, 3, (5, 6, 270)), (4, .bipush 11, 2, (0, 0, 0)), (6, .aaload, 1, (0, 0, 0)), (7, .iload_n 1, 1, (0, 0, 0)), (8, .iaload, 1, (0, 0, 0)), (9, .istore_n 2, 1, (0, 0, 0)), (10, .iload_n 2, 1, (0, 0, 0)), (11, .ifCond .ge 20, 3, (0, 0, 0)), (14, .aload_n 0, 1, (0, 0, 0)), (15, .getfield 25, 3, (5, 5, 268)), (18, .aload_n 0, 1, (0, 0, 0)), (19, .getfield 30, 3, (5, 6, 270)), (22, .iconst 1, 1, (0, 0, 0)), (23, .aaload, 1, (0, 0, 0)), (24, .iload_n 1, 1, (0, 0, 0)), (25, .iaload, 1, (0, 0, 0)), (26, .iconst (-1), 1, (0, 0, 0)), (27, .iastore, 1, (0, 0, 0)), (28, .goto 30, 3, (0, 0, 0)), (31, .aload_n 0, 1, (0, 0, 0)), (32, .getfield 30, 3, (5, 6, 270)), (35, .aload_n 0, 1, (0, 0, 0)), (36, .getfield 30, 3, (5, 6, 270)), (39, .bipush 12, 2, (0, 0, 0)), (41, .aaload, 1, (0, 0, 0)), (42, .iload_n 1, 1, (0, 0, 0)), (43, .iaload, 1, (0, 0, 0)), (44, .ifCond .ne 8, 3, (0, 0, 0)), (47, .bipush 13, 2, (0, 0, 0)), (49, .goto 5, 3, (0, 0, 0)), (52, .bipush 14, 2, (0, 0, 0)), (54, .aaload, 1, (0, 0, 0)), (55, .iload_n 2, 1, (0, 0, 0)), (56, .iconst (-1), 1, (0, 0, 0)), (57, .iastore, 1, (0, 0, 0)), (58, .return_, 1, (0, 0, 0))]
set_option maxRecDepth 100000 in
def tb_X5_reuse : List pI := [(0, .aload_n 0, 1, (0, 0, 0)), (1, .iload_n 1, 1, (0, 0, 0)), (2, .invokevirtual 114, 3, (106, 0, 1158)), (5, .istore_n 2, 1, (0, 0, 0)), (6, .iload_n 2, 1, (0, 0, 0)), (7, .ifCond .lt 46, 3, (0, 0, 0)), (10, .aload_n 0, 1, (0, 0, 0)), (11, .getfield 30, 3, (5, 6, 270)), (14, .iconst 0, 1, (0, 0, 0)), (15, .aaload, 1, (0, 0, 0)), (16, .iload_n 1, 1, (0, 0, 0)), (17, .iaload, 1, (0, 0, 0)), (18, .iconst 1, 1, (0, 0, 0)), (19, .if_icmp .ne 34, 3, (0, 0, 0)), (22, .aload_n 0, 1, (0, 0, 0)), (23, .getfield 30, 3, (5, 6, 270)), (26, .iconst 0, 1, (0, 0, 0)), (27, .aaload, 1, (0, 0, 0)), (28, .iload_n 2, 1, (0, 0, 0)), (29, .iaload, 1, (0, 0, 0)), (30, .iconst 1, 1, (0, 0, 0)), (31, .if_icmp .ne 22, 3, (0, 0, 0)), (34, .aload_n 0, 1, (0, 0, 0)), (35, .getfield 30, 3, (5, 6, 270)), (38, .iconst 2, 1, (0, 0, 0)), (39, .aaload, 1, (0, 0, 0)), (40, .iload_n 1, 1, (0, 0, 0)), (41, .iaload, 1, (0, 0, 0)), (42, .aload_n 0, 1, (0, 0, 0)), (43, .getfield 30, 3, (5, 6, 270)), (46, .iconst 2, 1, (0, 0, 0)), (47, .aaload, 1, (0, 0, 0)), (48, .iload_n 2, 1, (0, 0, 0)), (49, .iaload, 1, (0, 0, 0)), (50, .if_icmp .eq 5, 3, (0, 0, 0)), (53, .iconst 0, 1, (0, 0, 0)), (54, .ireturn, 1, (0, 0, 0)), (55, .sipush 400, 3, (0, 0, 0)), (58, .iload_n 1, 1, (0, 0, 0)), (59, .iadd, 1, (0, 0, 0)), (60, .istore_n 3, 1, (0, 0, 0)), (61, .aload_n 0, 1, (0, 0, 0)), (62, .getfield 33, 3, (5, 0, 256)), (65, .iload_n 3, 1, (0, 0, 0)), (66, .iconst 2, 1, (0, 0, 0)), (67, .aload_n 0, 1, (0, 0, 0)), (68, .getfield 30, 3, (5, 6, 270)), (71, .iconst 1, 1, (0, 0, 0)), (72, .aaload, 1, (0, 0, 0)), (73, .iload_n 1, 1, (0, 0, 0)), (74, .iaload, 1, (0, 0, 0)), (75, .aload_n 0, 1, (0, 0, 0)), (76, .getfield 30, 3, (5, 6, 270)), (79, .iconst 3, 1, (0, 0, 0)), (80, .aaload, 1, (0, 0, 0)), (81, .iload_n 2, 1, (0, 0, 0)), (82, .iaload, 1, (0, 0, 0)), (83, .invokestatic 129, 3, (32, 0, 1182)), (86, .invokevirtual 135, 3, (77, 0, 1183)), (89, .aload_n 0, 1, (0, 0, 0)), (90, .getfield 30, 3, (5, 6, 270)), (93, .iconst 0, 1, (0, 0, 0)), (94, .aaload, 1, (0, 0, 0)), (95, .iload_n 1, 1, (0, 0, 0)), (96, .iconst 0, 1, (0, 0, 0)), (97, .iastore, 1, (0, 0, 0)), (98, .aload_n 0, 1, (0, 0, 0)), (99, .getfield 30, 3, (5, 6, 270)), (102, .iconst 2, 1, (0, 0, 0)), (103, .aaload, 1, (0, 0, 0)), (104, .iload_n 1, 1, (0, 0, 0)), (105, .bipush (-2), 2, (0, 0, 0)), (107, .iastore, 1, (0, 0, 0)), (108, .aload_n 0, 1, (0, 0, 0)), (109, .getfield 30, 3, (5, 6, 270)), (112, .iconst 5, 1, (0, 0, 0)), (113, .aaload, 1, (0, 0, 0)), (114, .iload_n 1, 1, (0, 0, 0)), (115, .iload_n 3, 1, (0, 0, 0)), (116, .iastore, 1, (0, 0, 0)), (117, .aload_n 0, 1, (0, 0, 0)), (118, .getfield 30, 3, (5, 6, 270)), (121, .bipush 6, 2, (0, 0, 0)), (123, .aaload, 1, (0, 0, 0)), (124, .iload_n 1, 1, (0, 0, 0)), (125, .iload_n 3, 1, (0, 0, 0)), (126, .iconst 1, 1, (0, 0, 0)), (127, .iadd, 1, (0, 0, 0)), (128, .iastore, 1, (0, 0, 0)), (129, .iconst 1, 1, (0, 0, 0)), (130, .ireturn, 1, (0, 0, 0))]
set_option maxRecDepth 100000 in
def tb_X6_init : List pI := [(0, .aload_n 0, 1, (0, 0, 0)), (1, .invokespecial 3, 3, (-1, 0, 337)), (4, .aload_n 0, 1, (0, 0, 0)), (5, .ldc 11, 2, (0, 2, 338)), (7, .bipush 7, 2, (0, 0, 0)), (9, .invokestatic 13, 3, (164, 0, 339)), (12, .putfield 19, 3, (6, 3, 343)), (15, .aload_n 0, 1, (0, 0, 0)), (16, .bipush 100, 2, (0, 0, 0)), (18, .newarray .long, 2, (0, 0, 221)), (20, .putfield 23, 3, (6, 4, 344)), (23, .aload_n 0, 1, (0, 0, 0)), (24, .bipush 100, 2, (0, 0, 0)), (26, .newarray .int, 2, (0, 0, 222)), (28, .putfield 26, 3, (6, 5, 345)), (31, .aload_n 0, 1, (0, 0, 0)), (32, .iconst 4, 1, (0, 0, 0)), (33, .newarray .int, 2, (0, 0, 222)), (35, .putfield 30, 3, (6, 6, 346)), (38, .aload_n 0, 1, (0, 0, 0)), (39, .aload_n 1, 1, (0, 0, 0)), (40, .putfield 33, 3, (6, 0, 340)), (43, .aload_n 0, 1, (0, 0, 0)), (44, .aload_n 2, 1, (0, 0, 0)), (45, .putfield 37, 3, (6, 1, 341)), (48, .aload_n 0, 1, (0, 0, 0)), (49, .aload_n 3, 1, (0, 0, 0)), (50, .putfield 41, 3, (6, 2, 342)), (53, .aload_n 0, 1, (0, 0, 0)), (54, .aload_n 3, 1, (0, 0, 0)), (55, .putfield 45, 3, (6, 7, 347)), (58, .aload_n 0, 1, (0, 0, 0)), (59, .bipush (-2), 2, (0, 0, 0)), (61, .putfield 48, 3, (6, 12, 351)), (64, .return_, 1, (0, 0, 0))]
set_option maxRecDepth 100000 in
def tb_X6_open : List pI := [(0, .aload_n 0, 1, (0, 0, 0)), (1, .aload_n 1, 1, (0, 0, 0)), (2, .putfield 45, 3, (6, 7, 347)), (5, .aload_n 0, 1, (0, 0, 0)), (6, .getfield 45, 3, (6, 7, 347)), (9, .iconst 0, 1, (0, 0, 0)), (10, .putfield 52, 3, (4, 3, 233)), (13, .aload_n 0, 1, (0, 0, 0)), (14, .iload_n 2, 1, (0, 0, 0)), (15, .putfield 57, 3, (6, 8, 348)), (18, .aload_n 0, 1, (0, 0, 0)), (19, .iconst 0, 1, (0, 0, 0)), (20, .putfield 61, 3, (6, 11, 349)), (23, .aload_n 0, 1, (0, 0, 0)), (24, .bipush (-2), 2, (0, 0, 0)), (26, .putfield 48, 3, (6, 12, 351)), (29, .aload_n 0, 1, (0, 0, 0)), (30, .iconst 0, 1, (0, 0, 0)), (31, .putfield 64, 3, (6, 13, 353)), (34, .aload_n 0, 1, (0, 0, 0)), (35, .getfield 33, 3, (6, 0, 340)), (38, .invokevirtual 67, 3, (166, 0, 1299)), (41, .return_, 1, (0, 0, 0))]
set_option maxRecDepth 100000 in
def tb_X6_blame : List pI := [(0, .aload_n 0, 1, (0, 0, 0)), (1, .getfield 61, 3, (6, 11, 349)), (4, .ifCond .ne 34, 3, (0, 0, 0)), (7, .aload_n 0, 1, (0, 0, 0)), (8, .aload_n 0, 1, (0, 0, 0)), (9, .getfield 33, 3, (6, 0, 340)), (12, .getfield 70, 3, (9, 9, 189)), (15, .iconst 1, 1, (0, 0, 0)), (16, .if_icmp .ne 7, 3, (0, 0, 0)), (19, .iconst 1, 1, (0, 0, 0)), (20, .goto 4, 3, (0, 0, 0)), (23, .iload_n 1, 1, (0, 0, 0)), (24, .putfield 61, 3, (6, 11, 349)), (27, .aload_n 0, 1, (0, 0, 0)), (28, .aload_n 0, 1, (0, 0, 0)), (29, .getfield 33, 3, (6, 0, 340)), (32, .getfield 73, 3, (9, 10, 191)), (35, .putfield 48, 3, (6, 12, 351)), (38, .aload_n 0, 1, (0, 0, 0)), (39, .getfield 33, 3, (6, 0, 340)), (42, .iconst 0, 1, (0, 0, 0)), (43, .putfield 70, 3, (9, 9, 189)), (46, .return_, 1, (0, 0, 0))]
set_option maxRecDepth 100000 in
def tb_X6_need : List pI := [(0, .aload_n 0, 1, (0, 0, 0)), (1, .getfield 33, 3, (6, 0, 340)), (4, .getfield 70, 3, (9, 9, 189)), (7, .iload_n 1, 1, (0, 0, 0)), (8, .if_icmp .ne 13, 3, (0, 0, 0)), (11, .aload_n 0, 1, (0, 0, 0)), (12, .getfield 33, 3, (6, 0, 340)), (15, .invokevirtual 76, 3, (167, 0, 1399)), (18, .goto 8, 3, (0, 0, 0)), (21, .aload_n 0, 1, (0, 0, 0)), (22, .iconst 2, 1, (0, 0, 0)), (23, .invokevirtual 79, 3, (114, 0, 1408)), (26, .return_, 1, (0, 0, 0))]
set_option maxRecDepth 100000 in
def tb_X6_skip : List pI := [(0, .aload_n 0, 1, (0, 0, 0)), (1, .getfield 33, 3, (6, 0, 340)), (4, .getfield 70, 3, (9, 9, 189)), (7, .iload_n 1, 1, (0, 0, 0)), (8, .if_icmp .ne 7, 3, (0, 0, 0)), (11, .iconst 1, 1, (0, 0, 0)), (12, .goto 4, 3, (0, 0, 0)), (15, .iconst 0, 1, (0, 0, 0)), (16, .istore_n 2, 1, (0, 0, 0)), (17, .iload_n 2, 1, (0, 0, 0)), (18, .ifCond .eq 10, 3, (0, 0, 0)), (21, .aload_n 0, 1, (0, 0, 0)), (22, .getfield 33, 3, (6, 0, 340)), (25, .invokevirtual 76, 3, (167, 0, 1399)), (28, .iload_n 2, 1, (0, 0, 0)), (29, .ireturn, 1, (0, 0, 0))]
set_option maxRecDepth 100000 in
def tb_X6_readProgram : List pI := [(0, .aload_n 0, 1, (0, 0, 0)), (1, .getfield 37, 3, (6, 1, 341)), (4, .invokevirtual 83, 3, (81, 0, 1287)), (7, .aload_n 0, 1, (0, 0, 0)), (8, .aload_n 0, 1, (0, 0, 0)), (9, .getfield 37, 3, (6, 1, 341)), (12, .getfield 88, 3, (5, 0, 257)), (15, .iconst 0, 1, (0, 0, 0)), (16, .invokevirtual 89, 3, (113, 0, 1295)), (19, .iconst 0, 1, (0, 0, 0)), (20, .istore_n 1, 1, (0, 0, 0)), (21, .iload_n 1, 1, (0, 0, 0)), (22, .sipush 4000, 3, (0, 0, 0)), (25, .if_icmp .ge 75, 3, (0, 0, 0)), (28, .aload_n 0, 1, (0, 0, 0)), (29, .getfield 33, 3, (6, 0, 340)), (32, .getfield 70, 3, (9, 9, 189)), (35, .ifCond .eq 65, 3, (0, 0, 0)), (38, .aload_n 0, 1, (0, 0, 0)), (39, .sipush 317, 3, (0, 0, 0)), (42, .invokevirtual 93, 3, (116, 0, 1395)), (45, .ifCond .eq 10, 3, (0, 0, 0)), (48, .aload_n 0, 1, (0, 0, 0)), (49, .invokevirtual 97, 3, (119, 0, 1400)), (52, .goto 42, 3, (0, 0, 0)), (55, .aload_n 0, 1, (0, 0, 0)), (56, .sipush 302, 3, (0, 0, 0)), (59, .invokevirtual 93, 3, (116, 0, 1395)), (62, .ifCond .eq 10, 3, (0, 0, 0)), (65, .aload_n 0, 1, (0, 0, 0)), (66, .invokevirtual 100, 3, (120, 0, 1435)), (69, .goto 25, 3, (0, 0, 0)), (72, .aload_n 0, 1, (0, 0, 0)), (73, .sipush 319, 3, (0, 0, 0)), (76, .invokevirtual 93, 3, (116, 0, 1395)), (79, .ifCond .eq 10, 3, (0, 0, 0)), (82, .aload_n 0, 1, (0, 0, 0)), (83, .invokevirtual 103, 3, (121, 0, 1443)), (86, .goto 8, 3, (0, 0, 0)), (89, .aload_n 0, 1, (0, 0, 0)), (90, .iconst 2, 1, (0, 0, 0)), (91, .invokevirtual 79, 3, (114, 0, 1408)), (94, .iinc 1 1, 3, (0, 0, 0)), (97, .goto (-76), 3, (0, 0, 0)), (100, .aload_n 0, 1, (0, 0, 0)), (101, .getfield 37, 3, (6, 1, 341)), (104, .aload_n 0, 1, (0, 0, 0)), (105, .getfield 64, 3, (6, 13, 353)), (108, .putfield 106, 3, (5, 13, 302)), (111, .aload_n 0, 1, (0, 0, 0)), (112, .invokevirtual 109, 3, (132, 0, 1557)), (115, .aload_n 0, 1, (0, 0, 0)), (116, .getfield 61, 3, (6, 11, 349)), (119, .ifCond .ne 10, 3, (0, 0, 0)), (122, .aload_n 0, 1, (0, 0, 0)), (123, .getfield 37, 3, (6, 1, 341)), (126, .invokevirtual 112, 3, (101, 0, 1561)), (129, .return_, 1, (0, 0, 0))]
set_option maxRecDepth 100000 in
def tb_X6_isNewName : List pI := [(0, .aload_n 0, 1, (0, 0, 0)), (1, .getfield 33, 3, (6, 0, 340)), (4, .getfield 70, 3, (9, 9, 189)), (7, .iconst 2, 1, (0, 0, 0)), (8, .if_icmp .eq 11, 3, (0, 0, 0)), (11, .aload_n 0, 1, (0, 0, 0)), (12, .iconst 2, 1, (0, 0, 0)), (13, .invokevirtual 79, 3, (114, 0, 1408)), (16, .goto 38, 3, (0, 0, 0)), (19, .aload_n 0, 1, (0, 0, 0)), (20, .getfield 37, 3, (6, 1, 341)), (23, .aload_n 0, 1, (0, 0, 0)), (24, .getfield 33, 3, (6, 0, 340)), (27, .getfield 115, 3, (9, 11, 194)), (30, .invokevirtual 119, 3, (89, 0, 1412)), (33, .ifCond .eq 11, 3, (0, 0, 0)), (36, .aload_n 0, 1, (0, 0, 0)), (37, .iconst 3, 1, (0, 0, 0)), (38, .invokevirtual 79, 3, (114, 0, 1408)), (41, .goto 13, 3, (0, 0, 0)), (44, .iload_n 1, 1, (0, 0, 0)), (45, .iload_n 2, 1, (0, 0, 0)), (46, .if_icmp .lt 8, 3, (0, 0, 0)), (49, .aload_n 0, 1, (0, 0, 0)), (50, .iconst 4, 1, (0, 0, 0)), (51, .invokevirtual 79, 3, (114, 0, 1408)), (54, .aload_n 0, 1, (0, 0, 0)), (55, .getfield 33, 3, (6, 0, 340)), (58, .getfield 70, 3, (9, 9, 189)), (61, .iconst 2, 1, (0, 0, 0)), (62, .if_icmp .ne 7, 3, (0, 0, 0)), (65, .iconst 1, 1, (0, 0, 0)), (66, .goto 4, 3, (0, 0, 0)), (69, .iconst 0, 1, (0, 0, 0)), (70, .ireturn, 1, (0, 0, 0))]
set_option maxRecDepth 100000 in
def tb_X6_readCell : List pI := [(0, .aload_n 0, 1, (0, 0, 0)), (1, .aload_n 0, 1, (0, 0, 0)), (2, .getfield 37, 3, (6, 1, 341)), (5, .getfield 123, 3, (5, 9, 285)), (8, .bipush 8, 2, (0, 0, 0)), (10, .invokevirtual 126, 3, (118, 0, 1404)), (13, .ifCond .ne 4, 3, (0, 0, 0)), (16, .return_, 1, (0, 0, 0)), (17, .aload_n 0, 1, (0, 0, 0)), (18, .getfield 37, 3, (6, 1, 341)), (21, .aload_n 0, 1, (0, 0, 0)), (22, .getfield 33, 3, (6, 0, 340)), (25, .getfield 115, 3, (9, 11, 194)), (28, .invokevirtual 130, 3, (95, 0, 1427)), (31, .istore_n 1, 1, (0, 0, 0)), (32, .aload_n 0, 1, (0, 0, 0)), (33, .getfield 33, 3, (6, 0, 340)), (36, .invokevirtual 76, 3, (167, 0, 1399)), (39, .aload_n 0, 1, (0, 0, 0)), (40, .sipush 318, 3, (0, 0, 0)), (43, .invokevirtual 93, 3, (116, 0, 1395)), (46, .ifCond .eq 18, 3, (0, 0, 0)), (49, .aload_n 0, 1, (0, 0, 0)), (50, .getfield 37, 3, (6, 1, 341)), (53, .dup, 1, (0, 0, 0)), (54, .getfield 134, 3, (5, 7, 278)), (57, .iconst 1, 1, (0, 0, 0)), (58, .iload_n 1, 1, (0, 0, 0)), (59, .ishl, 1, (0, 0, 0)), (60, .ior, 1, (0, 0, 0)), (61, .putfield 134, 3, (5, 7, 278)), (64, .aload_n 0, 1, (0, 0, 0)), (65, .bipush 61, 2, (0, 0, 0)), (67, .invokevirtual 93, 3, (116, 0, 1395)), (70, .ifCond .eq 43, 3, (0, 0, 0)), (73, .aload_n 0, 1, (0, 0, 0)), (74, .bipush 45, 2, (0, 0, 0)), (76, .invokevirtual 93, 3, (116, 0, 1395)), (79, .istore_n 2, 1, (0, 0, 0)), (80, .aload_n 0, 1, (0, 0, 0)), (81, .getfield 33, 3, (6, 0, 340)), (84, .getfield 115, 3, (9, 11, 194)), (87, .l2i, 1, (0, 0, 0)), (88, .istore_n 3, 1, (0, 0, 0)), (89, .aload_n 0, 1, (0, 0, 0)), (90, .iconst 3, 1, (0, 0, 0)), (91, .invokevirtual 137, 3, (115, 0, 1431)), (94, .aload_n 0, 1, (0, 0, 0)), (95, .getfield 37, 3, (6, 1, 341)), (98, .getfield 140, 3, (5, 4, 267)), (101, .iload_n 1, 1, (0, 0, 0)), (102, .iload_n 2, 1, (0, 0, 0)), (103, .ifCond .eq 8, 3, (0, 0, 0)), (106, .iload_n 3, 1, (0, 0, 0)), (107, .ineg, 1, (0, 0, 0)), (108, .goto 4, 3, (0, 0, 0)), (111, .iload_n 3, 1, (0, 0, 0)), (112, .iastore, 1, (0, 0, 0)), (113, .aload_n 0, 1, (0, 0, 0)), (114, .bipush 59, 2, (0, 0, 0)), (116, .invokevirtual 137, 3, (115, 0, 1431)), (119, .return_, 1, (0, 0, 0))]
set_option maxRecDepth 100000 in
def tb_X6_readLock : List pI := [(0, .aload_n 0, 1, (0, 0, 0)), (1, .aload_n 0, 1, (0, 0, 0)), (2, .getfield 37, 3, (6, 1, 341)), (5, .getfield 143, 3, (5, 10, 290)), (8, .iconst 4, 1, (0, 0, 0)), (9, .invokevirtual 126, 3, (118, 0, 1404)), (12, .ifCond .eq 30, 3, (0, 0, 0)), (15, .aload_n 0, 1, (0, 0, 0)), (16, .getfield 37, 3, (6, 1, 341)), (19, .aload_n 0, 1, (0, 0, 0)), (20, .getfield 33, 3, (6, 0, 340)), (23, .getfield 115, 3, (9, 11, 194)), (26, .invokevirtual 146, 3, (96, 0, 1439)), (29, .aload_n 0, 1, (0, 0, 0)), (30, .getfield 33, 3, (6, 0, 340)), (33, .invokevirtual 76, 3, (167, 0, 1399)), (36, .aload_n 0, 1, (0, 0, 0)), (37, .bipush 59, 2, (0, 0, 0)), (39, .invokevirtual 137, 3, (115, 0, 1431)), (42, .return_, 1, (0, 0, 0))]
set_option maxRecDepth 100000 in
def tb_X6_readThread : List pI := [(0, .aload_n 0, 1, (0, 0, 0)), (1, .aload_n 0, 1, (0, 0, 0)), (2, .getfield 37, 3, (6, 1, 341)), (5, .getfield 150, 3, (5, 11, 296)), (8, .iconst 4, 1, (0, 0, 0)), (9, .invokevirtual 126, 3, (118, 0, 1404)), (12, .ifCond .eq 63, 3, (0, 0, 0)), (15, .aload_n 0, 1, (0, 0, 0)), (16, .aload_n 0, 1, (0, 0, 0)), (17, .getfield 37, 3, (6, 1, 341)), (20, .aload_n 0, 1, (0, 0, 0)), (21, .getfield 33, 3, (6, 0, 340)), (24, .getfield 115, 3, (9, 11, 194)), (27, .invokevirtual 153, 3, (97, 0, 1447)), (30, .putfield 156, 3, (6, 14, 354)), (33, .aload_n 0, 1, (0, 0, 0)), (34, .getfield 33, 3, (6, 0, 340)), (37, .invokevirtual 76, 3, (167, 0, 1399)), (40, .aload_n 0, 1, (0, 0, 0)), (41, .sipush 320, 3, (0, 0, 0)), (44, .invokevirtual 93, 3, (116, 0, 1395)), (47, .ifCond .eq 21, 3, (0, 0, 0)), (50, .aload_n 0, 1, (0, 0, 0)), (51, .getfield 37, 3, (6, 1, 341)), (54, .dup, 1, (0, 0, 0)), (55, .getfield 159, 3, (5, 8, 281)), (58, .iconst 1, 1, (0, 0, 0)), (59, .aload_n 0, 1, (0, 0, 0)), (60, .getfield 156, 3, (6, 14, 354)), (63, .ishl, 1, (0, 0, 0)), (64, .ior, 1, (0, 0, 0)), (65, .putfield 159, 3, (5, 8, 281)), (68, .aload_n 0, 1, (0, 0, 0)), (69, .iconst 1, 1, (0, 0, 0)), (70, .iconst (-1), 1, (0, 0, 0)), (71, .iconst 0, 1, (0, 0, 0)), (72, .invokevirtual 162, 3, (122, 0, 1451)), (75, .return_, 1, (0, 0, 0))]
set_option maxRecDepth 100000 in
def tb_X6_readBlock : List pI := [(0, .aload_n 0, 1, (0, 0, 0)), (1, .getfield 33, 3, (6, 0, 340)), (4, .getfield 70, 3, (9, 9, 189)), (7, .bipush 123, 2, (0, 0, 0)), (9, .if_icmp .ne 14, 3, (0, 0, 0)), (12, .iload_n 1, 1, (0, 0, 0)), (13, .bipush 9, 2, (0, 0, 0)), (15, .if_icmp .le 8, 3, (0, 0, 0)), (18, .aload_n 0, 1, (0, 0, 0)), (19, .iconst 4, 1, (0, 0, 0)), (20, .invokevirtual 79, 3, (114, 0, 1408)), (23, .aload_n 0, 1, (0, 0, 0)), (24, .bipush 123, 2, (0, 0, 0)), (26, .invokevirtual 137, 3, (115, 0, 1431)), (29, .iconst (-1), 1, (0, 0, 0)), (30, .istore 4, 2, (0, 0, 0)), (32, .iconst 0, 1, (0, 0, 0)), (33, .istore 5, 2, (0, 0, 0)), (35, .iload 5, 2, (0, 0, 0)), (37, .bipush 100, 2, (0, 0, 0)), (39, .if_icmp .gt 69, 3, (0, 0, 0)), (42, .aload_n 0, 1, (0, 0, 0)), (43, .getfield 33, 3, (6, 0, 340)), (46, .getfield 70, 3, (9, 9, 189)), (49, .bipush 125, 2, (0, 0, 0)), (51, .if_icmp .eq 57, 3, (0, 0, 0)), (54, .aload_n 0, 1, (0, 0, 0)), (55, .invokevirtual 166, 3, (123, 0, 1455)), (58, .ifCond .ne 4, 3, (0, 0, 0)), (61, .return_, 1, (0, 0, 0)), (62, .aload_n 0, 1, (0, 0, 0)), (63, .getfield 37, 3, (6, 1, 341)), (66, .aload_n 0, 1, (0, 0, 0)), (67, .getfield 156, 3, (6, 14, 354)), (70, .iload_n 2, 1, (0, 0, 0)), (71, .iload_n 3, 1, (0, 0, 0)), (72, .iload_n 1, 1, (0, 0, 0)), (73, .iconst 1, 1, (0, 0, 0)), (74, .isub, 1, (0, 0, 0)), (75, .invokevirtual 170, 3, (99, 0, 1466)), (78, .istore 6, 2, (0, 0, 0)), (80, .aload_n 0, 1, (0, 0, 0)), (81, .getfield 37, 3, (6, 1, 341)), (84, .iload 4, 2, (0, 0, 0)), (86, .iload 6, 2, (0, 0, 0)), (88, .invokevirtual 174, 3, (100, 0, 1470)), (91, .iload 6, 2, (0, 0, 0)), (93, .istore 4, 2, (0, 0, 0)), (95, .aload_n 0, 1, (0, 0, 0)), (96, .iload 6, 2, (0, 0, 0)), (98, .iload_n 1, 1, (0, 0, 0)), (99, .invokevirtual 178, 3, (124, 0, 1471)), (102, .iinc 5 1, 3, (0, 0, 0)), (105, .goto (-70), 3, (0, 0, 0)), (108, .aload_n 0, 1, (0, 0, 0)), (109, .bipush 125, 2, (0, 0, 0)), (111, .invokevirtual 137, 3, (115, 0, 1431)), (114, .return_, 1, (0, 0, 0))]
set_option maxRecDepth 100000 in
def tb_X6_mayBegin : List pI := [(0, .aload_n 0, 1, (0, 0, 0)), (1, .getfield 33, 3, (6, 0, 340)), (4, .getfield 70, 3, (9, 9, 189)), (7, .iconst 2, 1, (0, 0, 0)), (8, .if_icmp .ne 7, 3, (0, 0, 0)), (11, .iconst 1, 1, (0, 0, 0)), (12, .goto 4, 3, (0, 0, 0)), (15, .iconst 0, 1, (0, 0, 0)), (16, .istore_n 1, 1, (0, 0, 0)), (17, .iload_n 1, 1, (0, 0, 0)), (18, .ifCond .eq 20, 3, (0, 0, 0)), (21, .aload_n 0, 1, (0, 0, 0)), (22, .getfield 37, 3, (6, 1, 341)), (25, .aload_n 0, 1, (0, 0, 0)), (26, .getfield 33, 3, (6, 0, 340)), (29, .getfield 115, 3, (9, 11, 194)), (32, .invokevirtual 181, 3, (84, 0, 1459)), (35, .goto 4, 3, (0, 0, 0)), (38, .iconst (-1), 1, (0, 0, 0)), (39, .istore_n 2, 1, (0, 0, 0)), (40, .iload_n 1, 1, (0, 0, 0)), (41, .ifCond .ne 37, 3, (0, 0, 0)), (44, .aload_n 0, 1, (0, 0, 0)), (45, .getfield 33, 3, (6, 0, 340)), (48, .getfield 70, 3, (9, 9, 189)), (51, .sipush 300, 3, (0, 0, 0)), (54, .if_icmp .lt 16, 3, (0, 0, 0)), (57, .aload_n 0, 1, (0, 0, 0)), (58, .getfield 33, 3, (6, 0, 340)), (61, .getfield 70, 3, (9, 9, 189)), (64, .sipush 315, 3, (0, 0, 0)), (67, .if_icmp .le 11, 3, (0, 0, 0)), (70, .aload_n 0, 1, (0, 0, 0)), (71, .iconst 2, 1, (0, 0, 0)), (72, .invokevirtual 79, 3, (114, 0, 1408)), (75, .goto 42, 3, (0, 0, 0)), (78, .iload_n 2, 1, (0, 0, 0)), (79, .invokestatic 184, 3, (86, 0, 1460)), (82, .ifCond .ne 10, 3, (0, 0, 0)), (85, .iload_n 2, 1, (0, 0, 0)), (86, .invokestatic 187, 3, (87, 0, 1463)), (89, .ifCond .eq 11, 3, (0, 0, 0)), (92, .aload_n 0, 1, (0, 0, 0)), (93, .iconst 3, 1, (0, 0, 0)), (94, .invokevirtual 79, 3, (114, 0, 1408)), (97, .goto 20, 3, (0, 0, 0)), (100, .aload_n 0, 1, (0, 0, 0)), (101, .getfield 37, 3, (6, 1, 341)), (104, .getfield 190, 3, (5, 12, 299)), (107, .bipush 100, 2, (0, 0, 0)), (109, .if_icmp .lt 8, 3, (0, 0, 0)), (112, .aload_n 0, 1, (0, 0, 0)), (113, .iconst 4, 1, (0, 0, 0)), (114, .invokevirtual 79, 3, (114, 0, 1408)), (117, .aload_n 0, 1, (0, 0, 0)), (118, .getfield 33, 3, (6, 0, 340)), (121, .getfield 70, 3, (9, 9, 189)), (124, .ifCond .eq 7, 3, (0, 0, 0)), (127, .iconst 1, 1, (0, 0, 0)), (128, .goto 4, 3, (0, 0, 0)), (131, .iconst 0, 1, (0, 0, 0)), (132, .ireturn, 1, (0, 0, 0))]
set_option maxRecDepth 100000 in
def tb_X6_readStatement_0 : List pI := [(0, .aload_n 0, 1, (0, 0, 0)), (1, .getfield 33, 3, (6, 0, 340)), (4, .getfield 70, 3, (9, 9, 189)), (7, .iconst 2, 1, (0, 0, 0)), (8, .if_icmp .ne 12, 3, (0, 0, 0)), (11, .aload_n 0, 1, (0, 0, 0)), (12, .iload_n 1, 1, (0, 0, 0)), (13, .invokevirtual 193, 3, (126, 0, 1475)), (16, .istore_n 3, 1, (0, 0, 0)), (17, .goto 30, 3, (0, 0, 0)), (20, .aload_n 0, 1, (0, 0, 0)), (21, .getfield 33, 3, (6, 0, 340)), (24, .getfield 70, 3, (9, 9, 189)), (27, .sipush 300, 3, (0, 0, 0)), (30, .isub, 1, (0, 0, 0)), (31, .iconst 3, 1, (0, 0, 0)), (32, .iadd, 1, (0, 0, 0)), (33, .istore_n 3, 1, (0, 0, 0)), (34, .aload_n 0, 1, (0, 0, 0)), (35, .getfield 33, 3, (6, 0, 340)), (38, .invokevirtual 76, 3, (167, 0, 1399)), (41, .aload_n 0, 1, (0, 0, 0)), (42, .iload_n 1, 1, (0, 0, 0)), (43, .iload_n 3, 1, (0, 0, 0)), (44, .invokevirtual 197, 3, (129, 0, 1495)), (47, .aload_n 0, 1, (0, 0, 0)), (48, .getfield 37, 3, (6, 1, 341)), (51, .getfield 200, 3, (5, 6, 274)), (54, .astore 4, 2, (0, 0, 0)), (56, .aload 4, 2, (0, 0, 0)), (58, .iconst 0, 1, (0, 0, 0)), (59, .aaload, 1, (0, 0, 0)), (60, .iload_n 1, 1, (0, 0, 0)), (61, .iload_n 3, 1, (0, 0, 0)), (62, .iastore, 1, (0, 0, 0)), (63, .aload 4, 2, (0, 0, 0)), (65, .iconst 5, 1, (0, 0, 0)), (66, .aaload, 1, (0, 0, 0)), (67, .iload_n 1, 1, (0, 0, 0)), (68, .aload_n 0, 1, (0, 0, 0)), (69, .getfield 45, 3, (6, 7, 347)), (72, .getfield 52, 3, (4, 3, 233)), (75, .iastore, 1, (0, 0, 0)), (76, .aload_n 0, 1, (0, 0, 0)), (77, .iload_n 3, 1, (0, 0, 0)), (78, .invokevirtual 204, 3, (125, 0, 1503)), (81, .ifCond .eq 9, 3, (0, 0, 0)), (84, .aload_n 0, 1, (0, 0, 0)), (85, .iconst 0, 1, (0, 0, 0)), (86, .iconst 1, 1, (0, 0, 0)), (87, .invokevirtual 207, 3, (134, 0, 1507)), (90, .aload 4, 2, (0, 0, 0)), (92, .bipush 6, 2, (0, 0, 0)), (94, .aaload, 1, (0, 0, 0)), (95, .iload_n 1, 1, (0, 0, 0)), (96, .aload_n 0, 1, (0, 0, 0)), (97, .getfield 45, 3, (6, 7, 347)), (100, .getfield 52, 3, (4, 3, 233)), (103, .iastore, 1, (0, 0, 0)), (104, .iload_n 3, 1, (0, 0, 0)), (105, .iconst 3, 1, (0, 0, 0)), (106, .if_icmp .ne 43, 3, (0, 0, 0)), (109, .aload_n 0, 1, (0, 0, 0)), (110, .bipush 44, 2, (0, 0, 0)), (112, .invokevirtual 137, 3, (115, 0, 1431)), (115, .aload 4, 2, (0, 0, 0)), (117, .bipush 7, 2, (0, 0, 0)), (119, .aaload, 1, (0, 0, 0)), (120, .iload_n 1, 1, (0, 0, 0)), (121, .aload_n 0, 1, (0, 0, 0)), (122, .getfield 45, 3, (6, 7, 347)), (125, .getfield 52, 3, (4, 3, 233)), (128, .iastore, 1, (0, 0, 0)), (129, .aload_n 0, 1, (0, 0, 0)), (130, .iconst 0, 1, (0, 0, 0)), (131, .iconst 1, 1, (0, 0, 0)), (132, .invokevirtual 207, 3, (134, 0, 1507)), (135, .aload 4, 2, (0, 0, 0)), (137, .bipush 8, 2, (0, 0, 0)), (139, .aaload, 1, (0, 0, 0)), (140, .iload_n 1, 1, (0, 0, 0)), (141, .aload_n 0, 1, (0, 0, 0)), (142, .getfield 45, 3, (6, 7, 347)), (145, .getfield 52, 3, (4, 3, 233)), (148, .iastore, 1, (0, 0, 0)), (149, .iload_n 3, 1, (0, 0, 0)), (150, .iconst 3, 1, (0, 0, 0)), (151, .if_icmp .eq 8, 3, (0, 0, 0)), (154, .iload_n 3, 1, (0, 0, 0)), (155, .iconst 4, 1, (0, 0, 0)), (156, .if_icmp .ne 8, 3, (0, 0, 0)), (159, .aload_n 0, 1, (0, 0, 0)), (160, .iload_n 1, 1, (0, 0, 0)), (161, .invokevirtual 210, 3, (131, 0, 1553)), (164, .iload_n 3, 1, (0, 0, 0)), (165, .bipush 17, 2, (0, 0, 0)), (167, .if_icmp .eq 16, 3, (0, 0, 0)), (170, .iload_n 3, 1, (0, 0, 0)), (171, .bipush 18, 2, (0, 0, 0)), (173, .if_icmp .eq 10, 3, (0, 0, 0)), (176, .aload_n 0, 1, (0, 0, 0)), (177, .bipush 59, 2, (0, 0, 0)), (179, .invokevirtual 137, 3, (115, 0, 1431)), (182, .return_, 1, (0, 0, 0)), (183, .aload_n 0, 1, (0, 0, 0)), (184, .iload_n 2, 1, (0, 0, 0)), (185, .iconst 1, 1, (0, 0, 0)), (186, .iadd, 1, (0, 0, 0)), (187, .iload_n 1, 1, (0, 0, 0)), (188, .iconst 0, 1, (0, 0, 0)), (189, .invokevirtual 162, 3, (122, 0, 1451)), (192, .iload_n 3, 1, (0, 0, 0)), (193, .bipush 17, 2, (0, 0, 0)), (195, .if_icmp .ne 22, 3, (0, 0, 0)), (198, .aload_n 0, 1, (0, 0, 0)), (199, .sipush 316, 3, (0, 0, 0)), (202, .invokevirtual 93, 3, (116, 0, 1395)), (205, .ifCond .eq 12, 3, (0, 0, 0)), (208, .aload_n 0, 1, (0, 0, 0)), (209, .iload_n 2, 1, (0, 0, 0))]
set_option maxRecDepth 100000 in
def tb_X6_readStatement_1 : List pI := [(210, .iconst 1, 1, (0, 0, 0)), (211, .iadd, 1, (0, 0, 0)), (212, .iload_n 1, 1, (0, 0, 0)), (213, .iconst 1, 1, (0, 0, 0)), (214, .invokevirtual 162, 3, (122, 0, 1451)), (217, .return_, 1, (0, 0, 0))]
def tb_X6_readStatement : List pI := tb_X6_readStatement_0 ++ (tb_X6_readStatement_1)
set_option maxRecDepth 100000 in
def tb_X6_hasExp : List pI := [(0, .iload_n 1, 1, (0, 0, 0)), (1, .bipush 15, 2, (0, 0, 0)), (3, .if_icmp .eq 9, 3, (0, 0, 0)), (6, .iload_n 1, 1, (0, 0, 0)), (7, .bipush 16, 2, (0, 0, 0)), (9, .if_icmp .ne 21, 3, (0, 0, 0)), (12, .aload_n 0, 1, (0, 0, 0)), (13, .getfield 33, 3, (6, 0, 340)), (16, .getfield 70, 3, (9, 9, 189)), (19, .bipush 59, 2, (0, 0, 0)), (21, .if_icmp .eq 7, 3, (0, 0, 0)), (24, .iconst 1, 1, (0, 0, 0)), (25, .goto 4, 3, (0, 0, 0)), (28, .iconst 0, 1, (0, 0, 0)), (29, .ireturn, 1, (0, 0, 0)), (30, .iload_n 1, 1, (0, 0, 0)), (31, .ifCond .eq 31, 3, (0, 0, 0)), (34, .iload_n 1, 1, (0, 0, 0)), (35, .iconst 2, 1, (0, 0, 0)), (36, .if_icmp .lt 8, 3, (0, 0, 0)), (39, .iload_n 1, 1, (0, 0, 0)), (40, .iconst 4, 1, (0, 0, 0)), (41, .if_icmp .le 21, 3, (0, 0, 0)), (44, .iload_n 1, 1, (0, 0, 0)), (45, .bipush 14, 2, (0, 0, 0)), (47, .if_icmp .eq 15, 3, (0, 0, 0)), (50, .iload_n 1, 1, (0, 0, 0)), (51, .bipush 17, 2, (0, 0, 0)), (53, .if_icmp .eq 9, 3, (0, 0, 0)), (56, .iload_n 1, 1, (0, 0, 0)), (57, .bipush 18, 2, (0, 0, 0)), (59, .if_icmp .ne 7, 3, (0, 0, 0)), (62, .iconst 1, 1, (0, 0, 0)), (63, .goto 4, 3, (0, 0, 0)), (66, .iconst 0, 1, (0, 0, 0)), (67, .ireturn, 1, (0, 0, 0))]
set_option maxRecDepth 100000 in
def tb_X6_readTarget : List pI := [(0, .aload_n 0, 1, (0, 0, 0)), (1, .getfield 37, 3, (6, 1, 341)), (4, .aload_n 0, 1, (0, 0, 0)), (5, .getfield 33, 3, (6, 0, 340)), (8, .getfield 115, 3, (9, 11, 194)), (11, .invokevirtual 181, 3, (84, 0, 1459)), (14, .istore_n 2, 1, (0, 0, 0)), (15, .iload_n 2, 1, (0, 0, 0)), (16, .invokestatic 213, 3, (85, 0, 1479)), (19, .ifCond .eq 30, 3, (0, 0, 0)), (22, .aload_n 0, 1, (0, 0, 0)), (23, .getfield 37, 3, (6, 1, 341)), (26, .getfield 200, 3, (5, 6, 274)), (29, .iconst 2, 1, (0, 0, 0)), (30, .aaload, 1, (0, 0, 0)), (31, .iload_n 1, 1, (0, 0, 0)), (32, .iload_n 2, 1, (0, 0, 0)), (33, .iastore, 1, (0, 0, 0)), (34, .aload_n 0, 1, (0, 0, 0)), (35, .getfield 33, 3, (6, 0, 340)), (38, .invokevirtual 76, 3, (167, 0, 1399)), (41, .aload_n 0, 1, (0, 0, 0)), (42, .bipush 61, 2, (0, 0, 0)), (44, .invokevirtual 137, 3, (115, 0, 1431)), (47, .iconst 2, 1, (0, 0, 0)), (48, .ireturn, 1, (0, 0, 0)), (49, .aload_n 0, 1, (0, 0, 0)), (50, .iload_n 1, 1, (0, 0, 0)), (51, .invokevirtual 216, 3, (127, 0, 1482)), (54, .aload_n 0, 1, (0, 0, 0)), (55, .bipush 61, 2, (0, 0, 0)), (57, .invokevirtual 137, 3, (115, 0, 1431)), (60, .aload_n 0, 1, (0, 0, 0)), (61, .getfield 33, 3, (6, 0, 340)), (64, .getfield 70, 3, (9, 9, 189)), (67, .iconst 2, 1, (0, 0, 0)), (68, .if_icmp .ne 20, 3, (0, 0, 0)), (71, .aload_n 0, 1, (0, 0, 0)), (72, .getfield 37, 3, (6, 1, 341)), (75, .aload_n 0, 1, (0, 0, 0)), (76, .getfield 33, 3, (6, 0, 340)), (79, .getfield 115, 3, (9, 11, 194)), (82, .invokevirtual 181, 3, (84, 0, 1459)), (85, .goto 4, 3, (0, 0, 0)), (88, .iconst (-1), 1, (0, 0, 0)), (89, .istore_n 3, 1, (0, 0, 0)), (90, .iload_n 3, 1, (0, 0, 0)), (91, .invokestatic 213, 3, (85, 0, 1479)), (94, .ifCond .ne 5, 3, (0, 0, 0)), (97, .iconst 0, 1, (0, 0, 0)), (98, .ireturn, 1, (0, 0, 0)), (99, .aload_n 0, 1, (0, 0, 0)), (100, .getfield 37, 3, (6, 1, 341)), (103, .getfield 200, 3, (5, 6, 274)), (106, .iconst 2, 1, (0, 0, 0)), (107, .aaload, 1, (0, 0, 0)), (108, .iload_n 1, 1, (0, 0, 0)), (109, .iload_n 3, 1, (0, 0, 0)), (110, .iastore, 1, (0, 0, 0)), (111, .aload_n 0, 1, (0, 0, 0)), (112, .getfield 33, 3, (6, 0, 340)), (115, .invokevirtual 76, 3, (167, 0, 1399)), (118, .iconst 1, 1, (0, 0, 0)), (119, .ireturn, 1, (0, 0, 0))]
set_option maxRecDepth 100000 in
def tb_X6_readLocal : List pI := [(0, .aload_n 0, 1, (0, 0, 0)), (1, .invokevirtual 219, 3, (128, 0, 1486)), (4, .istore_n 2, 1, (0, 0, 0)), (5, .iload_n 2, 1, (0, 0, 0)), (6, .ifCond .lt 22, 3, (0, 0, 0)), (9, .aload_n 0, 1, (0, 0, 0)), (10, .getfield 37, 3, (6, 1, 341)), (13, .getfield 200, 3, (5, 6, 274)), (16, .iconst 3, 1, (0, 0, 0)), (17, .aaload, 1, (0, 0, 0)), (18, .iload_n 1, 1, (0, 0, 0)), (19, .iload_n 2, 1, (0, 0, 0)), (20, .iastore, 1, (0, 0, 0)), (21, .aload_n 0, 1, (0, 0, 0)), (22, .getfield 33, 3, (6, 0, 340)), (25, .invokevirtual 76, 3, (167, 0, 1399)), (28, .return_, 1, (0, 0, 0))]
set_option maxRecDepth 100000 in
def tb_X6_localHere : List pI := [(0, .aload_n 0, 1, (0, 0, 0)), (1, .getfield 37, 3, (6, 1, 341)), (4, .getfield 223, 3, (5, 2, 261)), (7, .aload_n 0, 1, (0, 0, 0)), (8, .getfield 156, 3, (6, 14, 354)), (11, .bipush 6, 2, (0, 0, 0)), (13, .imul, 1, (0, 0, 0)), (14, .aload_n 0, 1, (0, 0, 0)), (15, .getfield 37, 3, (6, 1, 341)), (18, .getfield 226, 3, (5, 3, 264)), (21, .aload_n 0, 1, (0, 0, 0)), (22, .getfield 156, 3, (6, 14, 354)), (25, .iaload, 1, (0, 0, 0)), (26, .aload_n 0, 1, (0, 0, 0)), (27, .getfield 33, 3, (6, 0, 340)), (30, .getfield 115, 3, (9, 11, 194)), (33, .invokestatic 229, 3, (83, 0, 1490)), (36, .istore_n 1, 1, (0, 0, 0)), (37, .iload_n 1, 1, (0, 0, 0)), (38, .ifCond .lt 5, 3, (0, 0, 0)), (41, .iload_n 1, 1, (0, 0, 0)), (42, .ireturn, 1, (0, 0, 0)), (43, .aload_n 0, 1, (0, 0, 0)), (44, .getfield 37, 3, (6, 1, 341)), (47, .getfield 226, 3, (5, 3, 264)), (50, .aload_n 0, 1, (0, 0, 0)), (51, .getfield 156, 3, (6, 14, 354)), (54, .iaload, 1, (0, 0, 0)), (55, .bipush 6, 2, (0, 0, 0)), (57, .if_icmp .lt 10, 3, (0, 0, 0)), (60, .aload_n 0, 1, (0, 0, 0)), (61, .iconst 4, 1, (0, 0, 0)), (62, .invokevirtual 79, 3, (114, 0, 1408)), (65, .iconst (-1), 1, (0, 0, 0)), (66, .ireturn, 1, (0, 0, 0)), (67, .aload_n 0, 1, (0, 0, 0)), (68, .getfield 37, 3, (6, 1, 341)), (71, .aload_n 0, 1, (0, 0, 0)), (72, .getfield 156, 3, (6, 14, 354)), (75, .aload_n 0, 1, (0, 0, 0)), (76, .getfield 33, 3, (6, 0, 340)), (79, .getfield 115, 3, (9, 11, 194)), (82, .invokevirtual 233, 3, (98, 0, 1491)), (85, .ireturn, 1, (0, 0, 0))]
set_option maxRecDepth 100000 in
def tb_X6_readObject : List pI := [(0, .aload_n 0, 1, (0, 0, 0)), (1, .getfield 33, 3, (6, 0, 340)), (4, .getfield 70, 3, (9, 9, 189)), (7, .iconst 2, 1, (0, 0, 0)), (8, .if_icmp .ne 20, 3, (0, 0, 0)), (11, .aload_n 0, 1, (0, 0, 0)), (12, .getfield 37, 3, (6, 1, 341)), (15, .aload_n 0, 1, (0, 0, 0)), (16, .getfield 33, 3, (6, 0, 340)), (19, .getfield 115, 3, (9, 11, 194)), (22, .invokevirtual 181, 3, (84, 0, 1459)), (25, .goto 4, 3, (0, 0, 0)), (28, .iconst (-1), 1, (0, 0, 0)), (29, .istore_n 3, 1, (0, 0, 0)), (30, .iload_n 2, 1, (0, 0, 0)), (31, .iconst 3, 1, (0, 0, 0)), (32, .if_icmp .eq 8, 3, (0, 0, 0)), (35, .iload_n 2, 1, (0, 0, 0)), (36, .iconst 4, 1, (0, 0, 0)), (37, .if_icmp .ne 22, 3, (0, 0, 0)), (40, .aload_n 0, 1, (0, 0, 0)), (41, .iload_n 1, 1, (0, 0, 0)), (42, .iload_n 3, 1, (0, 0, 0)), (43, .invokestatic 213, 3, (85, 0, 1479)), (46, .iload_n 3, 1, (0, 0, 0)), (47, .invokevirtual 237, 3, (130, 0, 1499)), (50, .aload_n 0, 1, (0, 0, 0)), (51, .bipush 44, 2, (0, 0, 0)), (53, .invokevirtual 137, 3, (115, 0, 1431)), (56, .goto 116, 3, (0, 0, 0)), (59, .iload_n 2, 1, (0, 0, 0)), (60, .iconst 5, 1, (0, 0, 0)), (61, .if_icmp .lt 25, 3, (0, 0, 0)), (64, .iload_n 2, 1, (0, 0, 0)), (65, .bipush 9, 2, (0, 0, 0)), (67, .if_icmp .gt 19, 3, (0, 0, 0)), (70, .aload_n 0, 1, (0, 0, 0)), (71, .iload_n 1, 1, (0, 0, 0)), (72, .iload_n 3, 1, (0, 0, 0)), (73, .invokestatic 184, 3, (86, 0, 1460)), (76, .iload_n 3, 1, (0, 0, 0)), (77, .bipush 8, 2, (0, 0, 0)), (79, .isub, 1, (0, 0, 0)), (80, .invokevirtual 237, 3, (130, 0, 1499)), (83, .goto 89, 3, (0, 0, 0)), (86, .iload_n 2, 1, (0, 0, 0)), (87, .bipush 10, 2, (0, 0, 0)), (89, .if_icmp .eq 9, 3, (0, 0, 0)), (92, .iload_n 2, 1, (0, 0, 0)), (93, .bipush 11, 2, (0, 0, 0)), (95, .if_icmp .ne 37, 3, (0, 0, 0)), (98, .aload_n 0, 1, (0, 0, 0)), (99, .getfield 23, 3, (6, 4, 344)), (102, .iload_n 1, 1, (0, 0, 0)), (103, .aload_n 0, 1, (0, 0, 0)), (104, .getfield 33, 3, (6, 0, 340)), (107, .getfield 115, 3, (9, 11, 194)), (110, .lastore, 1, (0, 0, 0)), (111, .aload_n 0, 1, (0, 0, 0)), (112, .getfield 26, 3, (6, 5, 345)), (115, .iload_n 1, 1, (0, 0, 0)), (116, .aload_n 0, 1, (0, 0, 0)), (117, .getfield 33, 3, (6, 0, 340)), (120, .getfield 73, 3, (9, 10, 191)), (123, .iastore, 1, (0, 0, 0)), (124, .aload_n 0, 1, (0, 0, 0)), (125, .iconst 2, 1, (0, 0, 0)), (126, .invokevirtual 137, 3, (115, 0, 1431)), (129, .goto 43, 3, (0, 0, 0)), (132, .iload_n 2, 1, (0, 0, 0)), (133, .bipush 15, 2, (0, 0, 0)), (135, .if_icmp .ne 37, 3, (0, 0, 0)), (138, .aload_n 0, 1, (0, 0, 0)), (139, .getfield 37, 3, (6, 1, 341)), (142, .getfield 200, 3, (5, 6, 274)), (145, .bipush 9, 2, (0, 0, 0)), (147, .aaload, 1, (0, 0, 0)), (148, .iload_n 1, 1, (0, 0, 0)), (149, .aload_n 0, 1, (0, 0, 0)), (150, .getfield 19, 3, (6, 3, 343)), (153, .iconst 0, 1, (0, 0, 0)), (154, .bipush 7, 2, (0, 0, 0)), (156, .aload_n 0, 1, (0, 0, 0)), (157, .getfield 33, 3, (6, 0, 340)), (160, .getfield 115, 3, (9, 11, 194)), (163, .invokestatic 229, 3, (83, 0, 1490)), (166, .iastore, 1, (0, 0, 0)), (167, .aload_n 0, 1, (0, 0, 0)), (168, .iconst 2, 1, (0, 0, 0)), (169, .invokevirtual 137, 3, (115, 0, 1431)), (172, .return_, 1, (0, 0, 0))]
set_option maxRecDepth 100000 in
def tb_X6_needName : List pI := [(0, .aload_n 0, 1, (0, 0, 0)), (1, .getfield 33, 3, (6, 0, 340)), (4, .getfield 70, 3, (9, 9, 189)), (7, .iconst 2, 1, (0, 0, 0)), (8, .if_icmp .ne 12, 3, (0, 0, 0)), (11, .iload_n 2, 1, (0, 0, 0)), (12, .ifCond .ne 8, 3, (0, 0, 0)), (15, .aload_n 0, 1, (0, 0, 0)), (16, .iconst 3, 1, (0, 0, 0)), (17, .invokevirtual 79, 3, (114, 0, 1408)), (20, .aload_n 0, 1, (0, 0, 0)), (21, .getfield 37, 3, (6, 1, 341)), (24, .getfield 200, 3, (5, 6, 274)), (27, .iconst 2, 1, (0, 0, 0)), (28, .aaload, 1, (0, 0, 0)), (29, .iload_n 1, 1, (0, 0, 0)), (30, .iload_n 3, 1, (0, 0, 0)), (31, .iastore, 1, (0, 0, 0)), (32, .aload_n 0, 1, (0, 0, 0)), (33, .iconst 2, 1, (0, 0, 0)), (34, .invokevirtual 137, 3, (115, 0, 1431)), (37, .return_, 1, (0, 0, 0))]
set_option maxRecDepth 100000 in
def tb_X6_readInto : List pI := [(0, .aload_n 0, 1, (0, 0, 0)), (1, .sipush 321, 3, (0, 0, 0)), (4, .invokevirtual 93, 3, (116, 0, 1395)), (7, .ifCond .ne 4, 3, (0, 0, 0)), (10, .return_, 1, (0, 0, 0)), (11, .aload_n 0, 1, (0, 0, 0)), (12, .getfield 33, 3, (6, 0, 340)), (15, .getfield 70, 3, (9, 9, 189)), (18, .iconst 2, 1, (0, 0, 0)), (19, .if_icmp .eq 11, 3, (0, 0, 0)), (22, .aload_n 0, 1, (0, 0, 0)), (23, .iconst 2, 1, (0, 0, 0)), (24, .invokevirtual 79, 3, (114, 0, 1408)), (27, .goto 33, 3, (0, 0, 0)), (30, .aload_n 0, 1, (0, 0, 0)), (31, .getfield 37, 3, (6, 1, 341)), (34, .aload_n 0, 1, (0, 0, 0)), (35, .getfield 33, 3, (6, 0, 340)), (38, .getfield 115, 3, (9, 11, 194)), (41, .invokevirtual 181, 3, (84, 0, 1459)), (44, .ifCond .lt 11, 3, (0, 0, 0)), (47, .aload_n 0, 1, (0, 0, 0)), (48, .iconst 3, 1, (0, 0, 0)), (49, .invokevirtual 79, 3, (114, 0, 1408)), (52, .goto 8, 3, (0, 0, 0)), (55, .aload_n 0, 1, (0, 0, 0)), (56, .iload_n 1, 1, (0, 0, 0)), (57, .invokevirtual 216, 3, (127, 0, 1482)), (60, .return_, 1, (0, 0, 0))]
set_option maxRecDepth 100000 in
def tb_X6_aimThreads : List pI := [(0, .iconst 0, 1, (0, 0, 0)), (1, .istore_n 1, 1, (0, 0, 0)), (2, .iload_n 1, 1, (0, 0, 0)), (3, .aload_n 0, 1, (0, 0, 0)), (4, .getfield 37, 3, (6, 1, 341)), (7, .getfield 190, 3, (5, 12, 299)), (10, .if_icmp .ge 91, 3, (0, 0, 0)), (13, .aload_n 0, 1, (0, 0, 0)), (14, .getfield 61, 3, (6, 11, 349)), (17, .ifCond .ne 84, 3, (0, 0, 0)), (20, .aload_n 0, 1, (0, 0, 0)), (21, .getfield 37, 3, (6, 1, 341)), (24, .getfield 200, 3, (5, 6, 274)), (27, .iconst 0, 1, (0, 0, 0)), (28, .aaload, 1, (0, 0, 0)), (29, .iload_n 1, 1, (0, 0, 0)), (30, .iaload, 1, (0, 0, 0)), (31, .istore_n 2, 1, (0, 0, 0)), (32, .iload_n 2, 1, (0, 0, 0)), (33, .bipush 10, 2, (0, 0, 0)), (35, .if_icmp .eq 9, 3, (0, 0, 0)), (38, .iload_n 2, 1, (0, 0, 0)), (39, .bipush 11, 2, (0, 0, 0)), (41, .if_icmp .ne 54, 3, (0, 0, 0)), (44, .aload_n 0, 1, (0, 0, 0)), (45, .getfield 37, 3, (6, 1, 341)), (48, .aload_n 0, 1, (0, 0, 0)), (49, .getfield 23, 3, (6, 4, 344)), (52, .iload_n 1, 1, (0, 0, 0)), (53, .laload, 1, (0, 0, 0)), (54, .invokevirtual 181, 3, (84, 0, 1459)), (57, .istore_n 3, 1, (0, 0, 0)), (58, .aload_n 0, 1, (0, 0, 0)), (59, .getfield 37, 3, (6, 1, 341)), (62, .getfield 200, 3, (5, 6, 274)), (65, .iconst 2, 1, (0, 0, 0)), (66, .aaload, 1, (0, 0, 0)), (67, .iload_n 1, 1, (0, 0, 0)), (68, .iload_n 3, 1, (0, 0, 0)), (69, .bipush 12, 2, (0, 0, 0)), (71, .isub, 1, (0, 0, 0)), (72, .iastore, 1, (0, 0, 0)), (73, .iload_n 3, 1, (0, 0, 0)), (74, .invokestatic 187, 3, (87, 0, 1463)), (77, .ifCond .ne 18, 3, (0, 0, 0)), (80, .aload_n 0, 1, (0, 0, 0)), (81, .iconst 5, 1, (0, 0, 0)), (82, .putfield 61, 3, (6, 11, 349)), (85, .aload_n 0, 1, (0, 0, 0)), (86, .aload_n 0, 1, (0, 0, 0)), (87, .getfield 26, 3, (6, 5, 345)), (90, .iload_n 1, 1, (0, 0, 0)), (91, .iaload, 1, (0, 0, 0)), (92, .putfield 48, 3, (6, 12, 351)), (95, .iinc 1 1, 3, (0, 0, 0)), (98, .goto (-96), 3, (0, 0, 0)), (101, .return_, 1, (0, 0, 0))]
set_option maxRecDepth 100000 in
def tb_X6_levelOf : List pI := [(0, .iload_n 0, 1, (0, 0, 0)), (1, .lookupswitch 109 #[(38, 101), (42, 107), (43, 105), (45, 105), (60, 103), (62, 103), (124, 99), (161, 103), (188, 103), (189, 103), (190, 103)], 99, (0, 0, 0)), (100, .iconst 0, 1, (0, 0, 0)), (101, .ireturn, 1, (0, 0, 0)), (102, .iconst 1, 1, (0, 0, 0)), (103, .ireturn, 1, (0, 0, 0)), (104, .iconst 2, 1, (0, 0, 0)), (105, .ireturn, 1, (0, 0, 0)), (106, .iconst 3, 1, (0, 0, 0)), (107, .ireturn, 1, (0, 0, 0)), (108, .iconst 4, 1, (0, 0, 0)), (109, .ireturn, 1, (0, 0, 0)), (110, .iconst (-1), 1, (0, 0, 0)), (111, .ireturn, 1, (0, 0, 0))]
set_option maxRecDepth 100000 in
def tb_X6_readLevel : List pI := [(0, .aload_n 0, 1, (0, 0, 0)), (1, .iload_n 1, 1, (0, 0, 0)), (2, .iconst 1, 1, (0, 0, 0)), (3, .iadd, 1, (0, 0, 0)), (4, .iload_n 2, 1, (0, 0, 0)), (5, .invokevirtual 241, 3, (135, 0, 1511)), (8, .iconst 0, 1, (0, 0, 0)), (9, .istore_n 3, 1, (0, 0, 0)), (10, .iload_n 3, 1, (0, 0, 0)), (11, .sipush 400, 3, (0, 0, 0)), (14, .if_icmp .ge 71, 3, (0, 0, 0)), (17, .aload_n 0, 1, (0, 0, 0)), (18, .getfield 33, 3, (6, 0, 340)), (21, .getfield 70, 3, (9, 9, 189)), (24, .invokestatic 244, 3, (133, 0, 1550)), (27, .iload_n 1, 1, (0, 0, 0)), (28, .if_icmp .ne 57, 3, (0, 0, 0)), (31, .aload_n 0, 1, (0, 0, 0)), (32, .getfield 33, 3, (6, 0, 340)), (35, .getfield 70, 3, (9, 9, 189)), (38, .istore 4, 2, (0, 0, 0)), (40, .aload_n 0, 1, (0, 0, 0)), (41, .invokevirtual 247, 3, (136, 0, 1527)), (44, .ifCond .ne 4, 3, (0, 0, 0)), (47, .return_, 1, (0, 0, 0)), (48, .aload_n 0, 1, (0, 0, 0)), (49, .getfield 33, 3, (6, 0, 340)), (52, .invokevirtual 76, 3, (167, 0, 1399)), (55, .aload_n 0, 1, (0, 0, 0)), (56, .iload_n 1, 1, (0, 0, 0)), (57, .iconst 1, 1, (0, 0, 0)), (58, .iadd, 1, (0, 0, 0)), (59, .iload_n 2, 1, (0, 0, 0)), (60, .invokevirtual 241, 3, (135, 0, 1511)), (63, .aload_n 0, 1, (0, 0, 0)), (64, .getfield 45, 3, (6, 7, 347)), (67, .iload 4, 2, (0, 0, 0)), (69, .iconst 0, 1, (0, 0, 0)), (70, .invokevirtual 250, 3, (76, 0, 1535)), (73, .iload_n 1, 1, (0, 0, 0)), (74, .iconst 2, 1, (0, 0, 0)), (75, .if_icmp .ne 4, 3, (0, 0, 0)), (78, .return_, 1, (0, 0, 0)), (79, .iinc 3 1, 3, (0, 0, 0)), (82, .goto (-72), 3, (0, 0, 0)), (85, .return_, 1, (0, 0, 0))]
set_option maxRecDepth 100000 in
def tb_X6_readSide : List pI := [(0, .iload_n 1, 1, (0, 0, 0)), (1, .iconst 5, 1, (0, 0, 0)), (2, .if_icmp .ge 12, 3, (0, 0, 0)), (5, .aload_n 0, 1, (0, 0, 0)), (6, .iload_n 1, 1, (0, 0, 0)), (7, .iload_n 2, 1, (0, 0, 0)), (8, .invokevirtual 207, 3, (134, 0, 1507)), (11, .goto 8, 3, (0, 0, 0)), (14, .aload_n 0, 1, (0, 0, 0)), (15, .iload_n 2, 1, (0, 0, 0)), (16, .invokevirtual 253, 3, (139, 0, 1515)), (19, .return_, 1, (0, 0, 0))]
set_option maxRecDepth 100000 in
def tb_X6_countNode : List pI := [(0, .aload_n 0, 1, (0, 0, 0)), (1, .getfield 64, 3, (6, 13, 353)), (4, .sipush 400, 3, (0, 0, 0)), (7, .if_icmp .lt 10, 3, (0, 0, 0)), (10, .aload_n 0, 1, (0, 0, 0)), (11, .iconst 4, 1, (0, 0, 0)), (12, .invokevirtual 79, 3, (114, 0, 1408)), (15, .iconst 0, 1, (0, 0, 0)), (16, .ireturn, 1, (0, 0, 0)), (17, .aload_n 0, 1, (0, 0, 0)), (18, .dup, 1, (0, 0, 0)), (19, .getfield 64, 3, (6, 13, 353)), (22, .iconst 1, 1, (0, 0, 0)), (23, .iadd, 1, (0, 0, 0)), (24, .putfield 64, 3, (6, 13, 353)), (27, .iconst 1, 1, (0, 0, 0)), (28, .ireturn, 1, (0, 0, 0))]
set_option maxRecDepth 100000 in
def tb_X6_beginsOne : List pI := [(0, .aload_n 0, 1, (0, 0, 0)), (1, .getfield 57, 3, (6, 8, 348)), (4, .ifCond .eq 19, 3, (0, 0, 0)), (7, .iload_n 1, 1, (0, 0, 0)), (8, .sipush 328, 3, (0, 0, 0)), (11, .if_icmp .lt 12, 3, (0, 0, 0)), (14, .iload_n 1, 1, (0, 0, 0)), (15, .sipush 332, 3, (0, 0, 0)), (18, .if_icmp .gt 5, 3, (0, 0, 0)), (21, .iconst 1, 1, (0, 0, 0)), (22, .ireturn, 1, (0, 0, 0)), (23, .iload_n 1, 1, (0, 0, 0)), (24, .iconst 3, 1, (0, 0, 0)), (25, .if_icmp .eq 26, 3, (0, 0, 0)), (28, .iload_n 1, 1, (0, 0, 0)), (29, .iconst 2, 1, (0, 0, 0)), (30, .if_icmp .eq 21, 3, (0, 0, 0)), (33, .iload_n 1, 1, (0, 0, 0)), (34, .bipush 45, 2, (0, 0, 0)), (36, .if_icmp .eq 15, 3, (0, 0, 0)), (39, .iload_n 1, 1, (0, 0, 0)), (40, .bipush 33, 2, (0, 0, 0)), (42, .if_icmp .eq 9, 3, (0, 0, 0)), (45, .iload_n 1, 1, (0, 0, 0)), (46, .bipush 40, 2, (0, 0, 0)), (48, .if_icmp .ne 7, 3, (0, 0, 0)), (51, .iconst 1, 1, (0, 0, 0)), (52, .goto 4, 3, (0, 0, 0)), (55, .iconst 0, 1, (0, 0, 0)), (56, .ireturn, 1, (0, 0, 0))]
set_option maxRecDepth 100000 in
def tb_X6_isStray : List pI := [(0, .aload_n 0, 1, (0, 0, 0)), (1, .getfield 33, 3, (6, 0, 340)), (4, .getfield 70, 3, (9, 9, 189)), (7, .iconst 2, 1, (0, 0, 0)), (8, .if_icmp .eq 5, 3, (0, 0, 0)), (11, .iconst 0, 1, (0, 0, 0)), (12, .ireturn, 1, (0, 0, 0)), (13, .aload_n 0, 1, (0, 0, 0)), (14, .getfield 37, 3, (6, 1, 341)), (17, .aload_n 0, 1, (0, 0, 0)), (18, .getfield 33, 3, (6, 0, 340)), (21, .getfield 115, 3, (9, 11, 194)), (24, .invokevirtual 181, 3, (84, 0, 1459)), (27, .istore_n 1, 1, (0, 0, 0)), (28, .aload_n 0, 1, (0, 0, 0)), (29, .getfield 57, 3, (6, 8, 348)), (32, .ifCond .eq 27, 3, (0, 0, 0)), (35, .iload_n 1, 1, (0, 0, 0)), (36, .ifCond .lt 15, 3, (0, 0, 0)), (39, .iload_n 1, 1, (0, 0, 0)), (40, .bipush 8, 2, (0, 0, 0)), (42, .if_icmp .lt 13, 3, (0, 0, 0)), (45, .iload_n 1, 1, (0, 0, 0)), (46, .bipush 12, 2, (0, 0, 0)), (48, .if_icmp .ge 7, 3, (0, 0, 0)), (51, .iconst 1, 1, (0, 0, 0)), (52, .goto 16, 3, (0, 0, 0)), (55, .iconst 0, 1, (0, 0, 0)), (56, .goto 12, 3, (0, 0, 0)), (59, .iload_n 1, 1, (0, 0, 0)), (60, .ifCond .lt 7, 3, (0, 0, 0)), (63, .iconst 1, 1, (0, 0, 0)), (64, .goto 4, 3, (0, 0, 0)), (67, .iconst 0, 1, (0, 0, 0)), (68, .ireturn, 1, (0, 0, 0))]
set_option maxRecDepth 100000 in
def tb_X6_readOne : List pI := [(0, .aload_n 0, 1, (0, 0, 0)), (1, .getfield 33, 3, (6, 0, 340)), (4, .getfield 70, 3, (9, 9, 189)), (7, .istore_n 2, 1, (0, 0, 0)), (8, .aload_n 0, 1, (0, 0, 0)), (9, .iload_n 2, 1, (0, 0, 0)), (10, .invokevirtual 256, 3, (137, 0, 1519)), (13, .ifCond .ne 11, 3, (0, 0, 0)), (16, .aload_n 0, 1, (0, 0, 0)), (17, .iconst 2, 1, (0, 0, 0)), (18, .invokevirtual 79, 3, (114, 0, 1408)), (21, .goto 75, 3, (0, 0, 0)), (24, .aload_n 0, 1, (0, 0, 0)), (25, .invokevirtual 259, 3, (138, 0, 1523)), (28, .ifCond .eq 11, 3, (0, 0, 0)), (31, .aload_n 0, 1, (0, 0, 0)), (32, .iconst 3, 1, (0, 0, 0)), (33, .invokevirtual 79, 3, (114, 0, 1408)), (36, .goto 60, 3, (0, 0, 0)), (39, .iload_n 1, 1, (0, 0, 0)), (40, .bipush 9, 2, (0, 0, 0)), (42, .if_icmp .le 11, 3, (0, 0, 0)), (45, .aload_n 0, 1, (0, 0, 0)), (46, .iconst 4, 1, (0, 0, 0)), (47, .invokevirtual 79, 3, (114, 0, 1408)), (50, .goto 46, 3, (0, 0, 0)), (53, .iload_n 2, 1, (0, 0, 0)), (54, .bipush 40, 2, (0, 0, 0)), (56, .if_icmp .ne 27, 3, (0, 0, 0)), (59, .aload_n 0, 1, (0, 0, 0)), (60, .getfield 33, 3, (6, 0, 340)), (63, .invokevirtual 76, 3, (167, 0, 1399)), (66, .aload_n 0, 1, (0, 0, 0)), (67, .iconst 0, 1, (0, 0, 0)), (68, .iload_n 1, 1, (0, 0, 0)), (69, .iconst 1, 1, (0, 0, 0)), (70, .iadd, 1, (0, 0, 0)), (71, .invokevirtual 207, 3, (134, 0, 1507)), (74, .aload_n 0, 1, (0, 0, 0)), (75, .bipush 41, 2, (0, 0, 0)), (77, .invokevirtual 137, 3, (115, 0, 1431)), (80, .goto 16, 3, (0, 0, 0)), (83, .aload_n 0, 1, (0, 0, 0)), (84, .invokevirtual 247, 3, (136, 0, 1527)), (87, .ifCond .eq 9, 3, (0, 0, 0)), (90, .aload_n 0, 1, (0, 0, 0)), (91, .iload_n 2, 1, (0, 0, 0)), (92, .iload_n 1, 1, (0, 0, 0)), (93, .invokevirtual 262, 3, (140, 0, 1531)), (96, .return_, 1, (0, 0, 0))]
set_option maxRecDepth 100000 in
def tb_X6_readNode : List pI := [(0, .iload_n 1, 1, (0, 0, 0)), (1, .iconst 3, 1, (0, 0, 0)), (2, .if_icmp .ne 29, 3, (0, 0, 0)), (5, .aload_n 0, 1, (0, 0, 0)), (6, .getfield 45, 3, (6, 7, 347)), (9, .iconst 1, 1, (0, 0, 0)), (10, .aload_n 0, 1, (0, 0, 0)), (11, .getfield 33, 3, (6, 0, 340)), (14, .getfield 115, 3, (9, 11, 194)), (17, .l2i, 1, (0, 0, 0)), (18, .invokevirtual 250, 3, (76, 0, 1535)), (21, .aload_n 0, 1, (0, 0, 0)), (22, .getfield 33, 3, (6, 0, 340)), (25, .invokevirtual 76, 3, (167, 0, 1399)), (28, .goto 118, 3, (0, 0, 0)), (31, .iload_n 1, 1, (0, 0, 0)), (32, .bipush 45, 2, (0, 0, 0)), (34, .if_icmp .eq 9, 3, (0, 0, 0)), (37, .iload_n 1, 1, (0, 0, 0)), (38, .bipush 33, 2, (0, 0, 0)), (40, .if_icmp .ne 40, 3, (0, 0, 0)), (43, .aload_n 0, 1, (0, 0, 0)), (44, .getfield 33, 3, (6, 0, 340)), (47, .invokevirtual 76, 3, (167, 0, 1399)), (50, .aload_n 0, 1, (0, 0, 0)), (51, .iload_n 2, 1, (0, 0, 0)), (52, .iconst 1, 1, (0, 0, 0)), (53, .iadd, 1, (0, 0, 0)), (54, .invokevirtual 253, 3, (139, 0, 1515)), (57, .aload_n 0, 1, (0, 0, 0)), (58, .getfield 45, 3, (6, 7, 347)), (61, .iload_n 1, 1, (0, 0, 0)), (62, .bipush 45, 2, (0, 0, 0)), (64, .if_icmp .ne 7, 3, (0, 0, 0)), (67, .iconst 4, 1, (0, 0, 0)), (68, .goto 5, 3, (0, 0, 0)), (71, .bipush 33, 2, (0, 0, 0)), (73, .iconst 0, 1, (0, 0, 0)), (74, .invokevirtual 250, 3, (76, 0, 1535)), (77, .goto 69, 3, (0, 0, 0)), (80, .aload_n 0, 1, (0, 0, 0)), (81, .getfield 57, 3, (6, 8, 348)), (84, .ifCond .eq 15, 3, (0, 0, 0)), (87, .iload_n 1, 1, (0, 0, 0)), (88, .iconst 2, 1, (0, 0, 0)), (89, .if_icmp .ne 10, 3, (0, 0, 0)), (92, .aload_n 0, 1, (0, 0, 0)), (93, .invokevirtual 265, 3, (144, 0, 1540)), (96, .goto 50, 3, (0, 0, 0)), (99, .aload_n 0, 1, (0, 0, 0)), (100, .getfield 57, 3, (6, 8, 348)), (103, .ifCond .eq 11, 3, (0, 0, 0)), (106, .aload_n 0, 1, (0, 0, 0)), (107, .iload_n 1, 1, (0, 0, 0)), (108, .invokevirtual 268, 3, (143, 0, 1546)), (111, .goto 35, 3, (0, 0, 0)), (114, .aload_n 0, 1, (0, 0, 0)), (115, .invokevirtual 219, 3, (128, 0, 1486)), (118, .istore_n 3, 1, (0, 0, 0)), (119, .iload_n 3, 1, (0, 0, 0)), (120, .ifCond .lt 26, 3, (0, 0, 0)), (123, .aload_n 0, 1, (0, 0, 0)), (124, .getfield 45, 3, (6, 7, 347)), (127, .iconst 2, 1, (0, 0, 0)), (128, .aload_n 0, 1, (0, 0, 0)), (129, .getfield 156, 3, (6, 14, 354)), (132, .iload_n 3, 1, (0, 0, 0)), (133, .invokestatic 271, 3, (32, 0, 1545)), (136, .invokevirtual 250, 3, (76, 0, 1535)), (139, .aload_n 0, 1, (0, 0, 0)), (140, .getfield 33, 3, (6, 0, 340)), (143, .invokevirtual 76, 3, (167, 0, 1399)), (146, .return_, 1, (0, 0, 0))]
set_option maxRecDepth 100000 in
def tb_X6_readAsked : List pI := [(0, .aload_n 0, 1, (0, 0, 0)), (1, .getfield 33, 3, (6, 0, 340)), (4, .invokevirtual 76, 3, (167, 0, 1399)), (7, .iload_n 1, 1, (0, 0, 0)), (8, .sipush 332, 3, (0, 0, 0)), (11, .if_icmp .ne 15, 3, (0, 0, 0)), (14, .aload_n 0, 1, (0, 0, 0)), (15, .getfield 45, 3, (6, 7, 347)), (18, .iconst 2, 1, (0, 0, 0)), (19, .sipush 234, 3, (0, 0, 0)), (22, .invokevirtual 250, 3, (76, 0, 1535)), (25, .return_, 1, (0, 0, 0)), (26, .aload_n 0, 1, (0, 0, 0)), (27, .getfield 37, 3, (6, 1, 341)), (30, .aload_n 0, 1, (0, 0, 0)), (31, .getfield 33, 3, (6, 0, 340)), (34, .getfield 115, 3, (9, 11, 194)), (37, .invokevirtual 181, 3, (84, 0, 1459)), (40, .istore_n 2, 1, (0, 0, 0)), (41, .iload_n 1, 1, (0, 0, 0)), (42, .sipush 331, 3, (0, 0, 0)), (45, .if_icmp .ne 10, 3, (0, 0, 0)), (48, .iload_n 2, 1, (0, 0, 0)), (49, .invokestatic 184, 3, (86, 0, 1460)), (52, .goto 7, 3, (0, 0, 0)), (55, .iload_n 2, 1, (0, 0, 0)), (56, .invokestatic 187, 3, (87, 0, 1463)), (59, .istore_n 3, 1, (0, 0, 0)), (60, .aload_n 0, 1, (0, 0, 0)), (61, .getfield 33, 3, (6, 0, 340)), (64, .getfield 70, 3, (9, 9, 189)), (67, .iconst 2, 1, (0, 0, 0)), (68, .if_icmp .ne 12, 3, (0, 0, 0)), (71, .iload_n 3, 1, (0, 0, 0)), (72, .ifCond .ne 8, 3, (0, 0, 0)), (75, .aload_n 0, 1, (0, 0, 0)), (76, .iconst 3, 1, (0, 0, 0)), (77, .invokevirtual 79, 3, (114, 0, 1408)), (80, .aload_n 0, 1, (0, 0, 0)), (81, .iconst 2, 1, (0, 0, 0)), (82, .invokevirtual 137, 3, (115, 0, 1431)), (85, .iload_n 1, 1, (0, 0, 0)), (86, .sipush 331, 3, (0, 0, 0)), (89, .if_icmp .ne 21, 3, (0, 0, 0)), (92, .aload_n 0, 1, (0, 0, 0)), (93, .getfield 45, 3, (6, 7, 347)), (96, .iconst 2, 1, (0, 0, 0)), (97, .bipush 40, 2, (0, 0, 0)), (99, .iload_n 2, 1, (0, 0, 0)), (100, .iadd, 1, (0, 0, 0)), (101, .bipush 8, 2, (0, 0, 0)), (103, .isub, 1, (0, 0, 0)), (104, .invokevirtual 250, 3, (76, 0, 1535)), (107, .goto 46, 3, (0, 0, 0)), (110, .iload_n 1, 1, (0, 0, 0)), (111, .sipush 328, 3, (0, 0, 0)), (114, .if_icmp .ne 7, 3, (0, 0, 0)), (117, .iconst 4, 1, (0, 0, 0)), (118, .goto 15, 3, (0, 0, 0)), (121, .iload_n 1, 1, (0, 0, 0)), (122, .sipush 329, 3, (0, 0, 0)), (125, .if_icmp .ne 7, 3, (0, 0, 0)), (128, .iconst 5, 1, (0, 0, 0)), (129, .goto 4, 3, (0, 0, 0)), (132, .iconst 2, 1, (0, 0, 0)), (133, .istore 4, 2, (0, 0, 0)), (135, .aload_n 0, 1, (0, 0, 0)), (136, .getfield 45, 3, (6, 7, 347)), (139, .iconst 3, 1, (0, 0, 0)), (140, .iload_n 2, 1, (0, 0, 0)), (141, .bipush 12, 2, (0, 0, 0)), (143, .isub, 1, (0, 0, 0)), (144, .bipush 8, 2, (0, 0, 0)), (146, .imul, 1, (0, 0, 0)), (147, .iload 4, 2, (0, 0, 0)), (149, .iadd, 1, (0, 0, 0)), (150, .invokevirtual 250, 3, (76, 0, 1535)), (153, .return_, 1, (0, 0, 0))]
set_option maxRecDepth 100000 in
def tb_X6_readCellOrLocal : List pI := [(0, .aload_n 0, 1, (0, 0, 0)), (1, .getfield 37, 3, (6, 1, 341)), (4, .aload_n 0, 1, (0, 0, 0)), (5, .getfield 33, 3, (6, 0, 340)), (8, .getfield 115, 3, (9, 11, 194)), (11, .invokevirtual 181, 3, (84, 0, 1459)), (14, .istore_n 1, 1, (0, 0, 0)), (15, .aload_n 0, 1, (0, 0, 0)), (16, .getfield 33, 3, (6, 0, 340)), (19, .invokevirtual 76, 3, (167, 0, 1399)), (22, .iload_n 1, 1, (0, 0, 0)), (23, .invokestatic 213, 3, (85, 0, 1479)), (26, .ifCond .eq 16, 3, (0, 0, 0)), (29, .aload_n 0, 1, (0, 0, 0)), (30, .getfield 45, 3, (6, 7, 347)), (33, .iconst 2, 1, (0, 0, 0)), (34, .bipush 48, 2, (0, 0, 0)), (36, .iload_n 1, 1, (0, 0, 0)), (37, .iadd, 1, (0, 0, 0)), (38, .invokevirtual 250, 3, (76, 0, 1535)), (41, .return_, 1, (0, 0, 0)), (42, .aload_n 0, 1, (0, 0, 0)), (43, .bipush 46, 2, (0, 0, 0)), (45, .invokevirtual 137, 3, (115, 0, 1431)), (48, .iload_n 1, 1, (0, 0, 0)), (49, .bipush 12, 2, (0, 0, 0)), (51, .isub, 1, (0, 0, 0)), (52, .istore_n 2, 1, (0, 0, 0)), (53, .aload_n 0, 1, (0, 0, 0)), (54, .getfield 37, 3, (6, 1, 341)), (57, .iload_n 2, 1, (0, 0, 0)), (58, .aload_n 0, 1, (0, 0, 0)), (59, .getfield 33, 3, (6, 0, 340)), (62, .getfield 115, 3, (9, 11, 194)), (65, .invokevirtual 286, 3, (88, 0, 1544)), (68, .istore_n 3, 1, (0, 0, 0)), (69, .aload_n 0, 1, (0, 0, 0)), (70, .getfield 33, 3, (6, 0, 340)), (73, .getfield 70, 3, (9, 9, 189)), (76, .iconst 2, 1, (0, 0, 0)), (77, .if_icmp .ne 12, 3, (0, 0, 0)), (80, .iload_n 3, 1, (0, 0, 0)), (81, .ifCond .ge 8, 3, (0, 0, 0)), (84, .aload_n 0, 1, (0, 0, 0)), (85, .iconst 3, 1, (0, 0, 0)), (86, .invokevirtual 79, 3, (114, 0, 1408)), (89, .aload_n 0, 1, (0, 0, 0)), (90, .iconst 2, 1, (0, 0, 0)), (91, .invokevirtual 137, 3, (115, 0, 1431)), (94, .aload_n 0, 1, (0, 0, 0)), (95, .getfield 45, 3, (6, 7, 347)), (98, .iconst 2, 1, (0, 0, 0)), (99, .iload_n 2, 1, (0, 0, 0)), (100, .iload_n 3, 1, (0, 0, 0)), (101, .invokestatic 271, 3, (32, 0, 1545)), (104, .invokevirtual 250, 3, (76, 0, 1535)), (107, .return_, 1, (0, 0, 0))]
set_option maxRecDepth 100000 in
def tb_X7_init : List pI := [(0, .aload_n 0, 1, (0, 0, 0)), (1, .invokespecial 1, 3, (-1, 0, 489)), (4, .aload_n 0, 1, (0, 0, 0)), (5, .aload_n 1, 1, (0, 0, 0)), (6, .putfield 7, 3, (7, 0, 490)), (9, .aload_n 0, 1, (0, 0, 0)), (10, .iload_n 2, 1, (0, 0, 0)), (11, .newarray .int, 2, (0, 0, 222)), (13, .putfield 13, 3, (7, 1, 493)), (16, .aload_n 0, 1, (0, 0, 0)), (17, .iload_n 3, 1, (0, 0, 0)), (18, .newarray .int, 2, (0, 0, 222)), (20, .putfield 17, 3, (7, 2, 496)), (23, .return_, 1, (0, 0, 0))]
set_option maxRecDepth 100000 in
def tb_X7_clear : List pI := [(0, .aload_n 0, 1, (0, 0, 0)), (1, .iload_n 1, 1, (0, 0, 0)), (2, .putfield 20, 3, (7, 4, 500)), (5, .aload_n 0, 1, (0, 0, 0)), (6, .iload_n 2, 1, (0, 0, 0)), (7, .putfield 24, 3, (7, 5, 503)), (10, .aload_n 0, 1, (0, 0, 0)), (11, .iconst 0, 1, (0, 0, 0)), (12, .putfield 27, 3, (7, 3, 497)), (15, .aload_n 0, 1, (0, 0, 0)), (16, .getfield 17, 3, (7, 2, 496)), (19, .iconst 0, 1, (0, 0, 0)), (20, .invokestatic 30, 3, (435, 0, 988)), (23, .return_, 1, (0, 0, 0))]
set_option maxRecDepth 100000 in
def tb_X7_placeOf : List pI := [(0, .lconst 0, 1, (0, 0, 0)), (1, .lstore_n 3, 1, (0, 0, 0)), (2, .iconst 0, 1, (0, 0, 0)), (3, .istore 5, 2, (0, 0, 0)), (5, .iload 5, 2, (0, 0, 0)), (7, .aload_n 0, 1, (0, 0, 0)), (8, .getfield 20, 3, (7, 4, 500)), (11, .if_icmp .ge 29, 3, (0, 0, 0)), (14, .lload_n 3, 1, (0, 0, 0)), (15, .aload_n 1, 1, (0, 0, 0)), (16, .iload_n 2, 1, (0, 0, 0)), (17, .iload 5, 2, (0, 0, 0)), (19, .iadd, 1, (0, 0, 0)), (20, .laload, 1, (0, 0, 0)), (21, .lxor, 1, (0, 0, 0)), (22, .ldc2_w 36, 3, (-7046029254386353131, 0, 1006)), (25, .lmul, 1, (0, 0, 0)), (26, .lstore_n 3, 1, (0, 0, 0)), (27, .lload_n 3, 1, (0, 0, 0)), (28, .lload_n 3, 1, (0, 0, 0)), (29, .bipush 29, 2, (0, 0, 0)), (31, .lushr, 1, (0, 0, 0)), (32, .lxor, 1, (0, 0, 0)), (33, .lstore_n 3, 1, (0, 0, 0)), (34, .iinc 5 1, 3, (0, 0, 0)), (37, .goto (-32), 3, (0, 0, 0)), (40, .lload_n 3, 1, (0, 0, 0)), (41, .bipush 32, 2, (0, 0, 0)), (43, .lushr, 1, (0, 0, 0)), (44, .l2i, 1, (0, 0, 0)), (45, .aload_n 0, 1, (0, 0, 0)), (46, .getfield 17, 3, (7, 2, 496)), (49, .arraylength, 1, (0, 0, 0)), (50, .iconst 1, 1, (0, 0, 0)), (51, .isub, 1, (0, 0, 0)), (52, .iand, 1, (0, 0, 0)), (53, .istore 5, 2, (0, 0, 0)), (55, .iconst 0, 1, (0, 0, 0)), (56, .istore 6, 2, (0, 0, 0)), (58, .iload 6, 2, (0, 0, 0)), (60, .aload_n 0, 1, (0, 0, 0)), (61, .getfield 17, 3, (7, 2, 496)), (64, .arraylength, 1, (0, 0, 0)), (65, .if_icmp .ge 59, 3, (0, 0, 0)), (68, .aload_n 0, 1, (0, 0, 0)), (69, .getfield 17, 3, (7, 2, 496)), (72, .iload 5, 2, (0, 0, 0)), (74, .iaload, 1, (0, 0, 0)), (75, .ifCond .eq 26, 3, (0, 0, 0)), (78, .aload_n 0, 1, (0, 0, 0)), (79, .aload_n 1, 1, (0, 0, 0)), (80, .iload_n 2, 1, (0, 0, 0)), (81, .aload_n 0, 1, (0, 0, 0)), (82, .getfield 13, 3, (7, 1, 493)), (85, .aload_n 0, 1, (0, 0, 0)), (86, .getfield 17, 3, (7, 2, 496)), (89, .iload 5, 2, (0, 0, 0)), (91, .iaload, 1, (0, 0, 0)), (92, .iconst 1, 1, (0, 0, 0)), (93, .isub, 1, (0, 0, 0)), (94, .iaload, 1, (0, 0, 0)), (95, .invokevirtual 38, 3, (148, 0, 1007)), (98, .ifCond .eq 6, 3, (0, 0, 0)), (101, .iload 5, 2, (0, 0, 0)), (103, .ireturn, 1, (0, 0, 0)), (104, .iload 5, 2, (0, 0, 0)), (106, .iconst 1, 1, (0, 0, 0)), (107, .iadd, 1, (0, 0, 0)), (108, .aload_n 0, 1, (0, 0, 0)), (109, .getfield 17, 3, (7, 2, 496)), (112, .arraylength, 1, (0, 0, 0)), (113, .iconst 1, 1, (0, 0, 0)), (114, .isub, 1, (0, 0, 0)), (115, .iand, 1, (0, 0, 0)), (116, .istore 5, 2, (0, 0, 0)), (118, .iinc 6 1, 3, (0, 0, 0)), (121, .goto (-63), 3, (0, 0, 0)), (124, .iload 5, 2, (0, 0, 0)), (126, .ireturn, 1, (0, 0, 0))]
set_option maxRecDepth 100000 in
def tb_X7_isSame : List pI := [(0, .iconst 0, 1, (0, 0, 0)), (1, .istore 4, 2, (0, 0, 0)), (3, .iload 4, 2, (0, 0, 0)), (5, .aload_n 0, 1, (0, 0, 0)), (6, .getfield 20, 3, (7, 4, 500)), (9, .if_icmp .ge 30, 3, (0, 0, 0)), (12, .aload_n 1, 1, (0, 0, 0)), (13, .iload_n 2, 1, (0, 0, 0)), (14, .iload 4, 2, (0, 0, 0)), (16, .iadd, 1, (0, 0, 0)), (17, .laload, 1, (0, 0, 0)), (18, .aload_n 0, 1, (0, 0, 0)), (19, .getfield 7, 3, (7, 0, 490)), (22, .iload_n 3, 1, (0, 0, 0)), (23, .iload 4, 2, (0, 0, 0)), (25, .iadd, 1, (0, 0, 0)), (26, .laload, 1, (0, 0, 0)), (27, .lcmp, 1, (0, 0, 0)), (28, .ifCond .eq 5, 3, (0, 0, 0)), (31, .iconst 0, 1, (0, 0, 0)), (32, .ireturn, 1, (0, 0, 0)), (33, .iinc 4 1, 3, (0, 0, 0)), (36, .goto (-33), 3, (0, 0, 0)), (39, .iconst 1, 1, (0, 0, 0)), (40, .ireturn, 1, (0, 0, 0))]
set_option maxRecDepth 100000 in
def tb_X7_numberOf : List pI := [(0, .aload_n 0, 1, (0, 0, 0)), (1, .getfield 17, 3, (7, 2, 496)), (4, .aload_n 0, 1, (0, 0, 0)), (5, .aload_n 1, 1, (0, 0, 0)), (6, .iload_n 2, 1, (0, 0, 0)), (7, .invokevirtual 42, 3, (147, 0, 1002)), (10, .iaload, 1, (0, 0, 0)), (11, .iconst 1, 1, (0, 0, 0)), (12, .isub, 1, (0, 0, 0)), (13, .ireturn, 1, (0, 0, 0))]
set_option maxRecDepth 100000 in
def tb_X7_put : List pI := [(0, .aload_n 0, 1, (0, 0, 0)), (1, .aload_n 1, 1, (0, 0, 0)), (2, .iload_n 2, 1, (0, 0, 0)), (3, .invokevirtual 42, 3, (147, 0, 1002)), (6, .istore_n 3, 1, (0, 0, 0)), (7, .aload_n 0, 1, (0, 0, 0)), (8, .getfield 17, 3, (7, 2, 496)), (11, .iload_n 3, 1, (0, 0, 0)), (12, .iaload, 1, (0, 0, 0)), (13, .ifCond .ne 52, 3, (0, 0, 0)), (16, .aload_n 0, 1, (0, 0, 0)), (17, .getfield 27, 3, (7, 3, 497)), (20, .aload_n 0, 1, (0, 0, 0)), (21, .getfield 24, 3, (7, 5, 503)), (24, .if_icmp .lt 5, 3, (0, 0, 0)), (27, .iconst (-1), 1, (0, 0, 0)), (28, .ireturn, 1, (0, 0, 0)), (29, .aload_n 1, 1, (0, 0, 0)), (30, .iload_n 2, 1, (0, 0, 0)), (31, .aload_n 0, 1, (0, 0, 0)), (32, .getfield 7, 3, (7, 0, 490)), (35, .aload_n 0, 1, (0, 0, 0)), (36, .getfield 27, 3, (7, 3, 497)), (39, .aload_n 0, 1, (0, 0, 0)), (40, .getfield 20, 3, (7, 4, 500)), (43, .imul, 1, (0, 0, 0)), (44, .aload_n 0, 1, (0, 0, 0)), (45, .getfield 20, 3, (7, 4, 500)), (48, .invokestatic 46, 3, (-2, 0, 1011)), (51, .aload_n 0, 1, (0, 0, 0)), (52, .iload_n 3, 1, (0, 0, 0)), (53, .aload_n 0, 1, (0, 0, 0)), (54, .getfield 27, 3, (7, 3, 497)), (57, .aload_n 0, 1, (0, 0, 0)), (58, .getfield 20, 3, (7, 4, 500)), (61, .imul, 1, (0, 0, 0)), (62, .invokevirtual 52, 3, (152, 0, 1014)), (65, .aload_n 0, 1, (0, 0, 0)), (66, .getfield 17, 3, (7, 2, 496)), (69, .iload_n 3, 1, (0, 0, 0)), (70, .iaload, 1, (0, 0, 0)), (71, .iconst 1, 1, (0, 0, 0)), (72, .isub, 1, (0, 0, 0)), (73, .ireturn, 1, (0, 0, 0))]
set_option maxRecDepth 100000 in
def tb_X7_refer : List pI := [(0, .aload_n 0, 1, (0, 0, 0)), (1, .aload_n 0, 1, (0, 0, 0)), (2, .getfield 7, 3, (7, 0, 490)), (5, .iload_n 1, 1, (0, 0, 0)), (6, .invokevirtual 42, 3, (147, 0, 1002)), (9, .istore_n 2, 1, (0, 0, 0)), (10, .aload_n 0, 1, (0, 0, 0)), (11, .getfield 17, 3, (7, 2, 496)), (14, .iload_n 2, 1, (0, 0, 0)), (15, .iaload, 1, (0, 0, 0)), (16, .ifCond .ne 9, 3, (0, 0, 0)), (19, .aload_n 0, 1, (0, 0, 0)), (20, .iload_n 2, 1, (0, 0, 0)), (21, .iload_n 1, 1, (0, 0, 0)), (22, .invokevirtual 52, 3, (152, 0, 1014)), (25, .aload_n 0, 1, (0, 0, 0)), (26, .getfield 17, 3, (7, 2, 496)), (29, .iload_n 2, 1, (0, 0, 0)), (30, .iaload, 1, (0, 0, 0)), (31, .iconst 1, 1, (0, 0, 0)), (32, .isub, 1, (0, 0, 0)), (33, .ireturn, 1, (0, 0, 0))]
set_option maxRecDepth 100000 in
def tb_X7_name : List pI := [(0, .aload_n 0, 1, (0, 0, 0)), (1, .getfield 13, 3, (7, 1, 493)), (4, .aload_n 0, 1, (0, 0, 0)), (5, .getfield 27, 3, (7, 3, 497)), (8, .iload_n 2, 1, (0, 0, 0)), (9, .iastore, 1, (0, 0, 0)), (10, .aload_n 0, 1, (0, 0, 0)), (11, .dup, 1, (0, 0, 0)), (12, .getfield 27, 3, (7, 3, 497)), (15, .iconst 1, 1, (0, 0, 0)), (16, .iadd, 1, (0, 0, 0)), (17, .putfield 27, 3, (7, 3, 497)), (20, .aload_n 0, 1, (0, 0, 0)), (21, .getfield 17, 3, (7, 2, 496)), (24, .iload_n 1, 1, (0, 0, 0)), (25, .aload_n 0, 1, (0, 0, 0)), (26, .getfield 27, 3, (7, 3, 497)), (29, .iastore, 1, (0, 0, 0)), (30, .return_, 1, (0, 0, 0))]
set_option maxRecDepth 100000 in
def tb_X8_init : List pI := [(0, .aload_n 0, 1, (0, 0, 0)), (1, .invokespecial 3, 3, (-1, 0, 639)), (4, .aload_n 0, 1, (0, 0, 0)), (5, .new 9, 3, (3, 0, 640)), (8, .dup, 1, (0, 0, 0)), (9, .invokespecial 11, 3, (31, 1, 5)), (12, .putfield 12, 3, (8, 0, 643)), (15, .aload_n 0, 1, (0, 0, 0)), (16, .bipush 6, 2, (0, 0, 0)), (18, .sipush 200, 3, (0, 0, 0)), (21, .multianewarray 18 2, 4, (0, 222, 642)), (25, .putfield 20, 3, (8, 1, 645)), (28, .aload_n 0, 1, (0, 0, 0)), (29, .sipush 800, 3, (0, 0, 0)), (32, .newarray .long, 2, (0, 0, 221)), (34, .putfield 23, 3, (8, 2, 646)), (37, .return_, 1, (0, 0, 0))]
set_option maxRecDepth 100000 in
def tb_X8_start : List pI := [(0, .aload_n 0, 1, (0, 0, 0)), (1, .getfield 12, 3, (8, 0, 643)), (4, .aload_n 1, 1, (0, 0, 0)), (5, .iload_n 2, 1, (0, 0, 0)), (6, .invokevirtual 27, 3, (33, 0, 759)), (9, .aload_n 0, 1, (0, 0, 0)), (10, .iconst 0, 1, (0, 0, 0)), (11, .putfield 31, 3, (8, 3, 647)), (14, .aload_n 0, 1, (0, 0, 0)), (15, .iconst 1, 1, (0, 0, 0)), (16, .putfield 35, 3, (8, 4, 649)), (19, .return_, 1, (0, 0, 0))]
set_option maxRecDepth 100000 in
def tb_X8_take : List pI := [(0, .aload_n 0, 1, (0, 0, 0)), (1, .getfield 31, 3, (8, 3, 647)), (4, .sipush 200, 3, (0, 0, 0)), (7, .if_icmp .lt 4, 3, (0, 0, 0)), (10, .return_, 1, (0, 0, 0)), (11, .aload_n 0, 1, (0, 0, 0)), (12, .getfield 12, 3, (8, 0, 643)), (15, .iload_n 1, 1, (0, 0, 0)), (16, .iload_n 2, 1, (0, 0, 0)), (17, .invokevirtual 39, 3, (52, 0, 829)), (20, .aload_n 0, 1, (0, 0, 0)), (21, .getfield 31, 3, (8, 3, 647)), (24, .istore_n 3, 1, (0, 0, 0)), (25, .aload_n 0, 1, (0, 0, 0)), (26, .dup, 1, (0, 0, 0)), (27, .getfield 31, 3, (8, 3, 647)), (30, .iconst 1, 1, (0, 0, 0)), (31, .iadd, 1, (0, 0, 0)), (32, .putfield 31, 3, (8, 3, 647)), (35, .aload_n 0, 1, (0, 0, 0)), (36, .getfield 20, 3, (8, 1, 645)), (39, .iconst 0, 1, (0, 0, 0)), (40, .aaload, 1, (0, 0, 0)), (41, .iload_n 3, 1, (0, 0, 0)), (42, .iload_n 1, 1, (0, 0, 0)), (43, .iastore, 1, (0, 0, 0)), (44, .aload_n 0, 1, (0, 0, 0)), (45, .getfield 20, 3, (8, 1, 645)), (48, .iconst 1, 1, (0, 0, 0)), (49, .aaload, 1, (0, 0, 0)), (50, .iload_n 3, 1, (0, 0, 0)), (51, .iload_n 2, 1, (0, 0, 0)), (52, .iastore, 1, (0, 0, 0)), (53, .aload_n 0, 1, (0, 0, 0)), (54, .getfield 20, 3, (8, 1, 645)), (57, .iconst 2, 1, (0, 0, 0)), (58, .aaload, 1, (0, 0, 0)), (59, .iload_n 3, 1, (0, 0, 0)), (60, .aload_n 0, 1, (0, 0, 0)), (61, .getfield 12, 3, (8, 0, 643)), (64, .getfield 43, 3, (3, 9, 419)), (67, .iastore, 1, (0, 0, 0)), (68, .aload_n 0, 1, (0, 0, 0)), (69, .getfield 20, 3, (8, 1, 645)), (72, .iconst 3, 1, (0, 0, 0)), (73, .aaload, 1, (0, 0, 0)), (74, .iload_n 3, 1, (0, 0, 0)), (75, .aload_n 0, 1, (0, 0, 0)), (76, .getfield 12, 3, (8, 0, 643)), (79, .getfield 46, 3, (3, 10, 422)), (82, .iastore, 1, (0, 0, 0)), (83, .aload_n 0, 1, (0, 0, 0)), (84, .getfield 20, 3, (8, 1, 645)), (87, .iconst 4, 1, (0, 0, 0)), (88, .aaload, 1, (0, 0, 0)), (89, .iload_n 3, 1, (0, 0, 0)), (90, .aload_n 0, 1, (0, 0, 0)), (91, .getfield 12, 3, (8, 0, 643)), (94, .getfield 43, 3, (3, 9, 419)), (97, .ifCond .ge 8, 3, (0, 0, 0)), (100, .bipush (-2), 2, (0, 0, 0)), (102, .goto 23, 3, (0, 0, 0)), (105, .aload_n 0, 1, (0, 0, 0)), (106, .getfield 12, 3, (8, 0, 643)), (109, .getfield 49, 3, (3, 7, 415)), (112, .getfield 53, 3, (5, 6, 272)), (115, .iconst 2, 1, (0, 0, 0)), (116, .aaload, 1, (0, 0, 0)), (117, .aload_n 0, 1, (0, 0, 0)), (118, .getfield 12, 3, (8, 0, 643)), (121, .getfield 43, 3, (3, 9, 419)), (124, .iaload, 1, (0, 0, 0)), (125, .iastore, 1, (0, 0, 0)), (126, .aload_n 0, 1, (0, 0, 0)), (127, .getfield 20, 3, (8, 1, 645)), (130, .iconst 5, 1, (0, 0, 0)), (131, .aaload, 1, (0, 0, 0)), (132, .iload_n 3, 1, (0, 0, 0)), (133, .aload_n 0, 1, (0, 0, 0)), (134, .getfield 12, 3, (8, 0, 643)), (137, .getfield 56, 3, (3, 11, 424)), (140, .iastore, 1, (0, 0, 0)), (141, .iconst 0, 1, (0, 0, 0)), (142, .istore 4, 2, (0, 0, 0)), (144, .iload 4, 2, (0, 0, 0)), (146, .iconst 4, 1, (0, 0, 0)), (147, .if_icmp .ge 21, 3, (0, 0, 0)), (150, .aload_n 0, 1, (0, 0, 0)), (151, .getfield 23, 3, (8, 2, 646)), (154, .iload_n 3, 1, (0, 0, 0)), (155, .iconst 4, 1, (0, 0, 0)), (156, .imul, 1, (0, 0, 0)), (157, .iload 4, 2, (0, 0, 0)), (159, .iadd, 1, (0, 0, 0)), (160, .lconst 0, 1, (0, 0, 0)), (161, .lastore, 1, (0, 0, 0)), (162, .iinc 4 1, 3, (0, 0, 0)), (165, .goto (-21), 3, (0, 0, 0)), (168, .iconst 0, 1, (0, 0, 0)), (169, .istore 4, 2, (0, 0, 0)), (171, .iload 4, 2, (0, 0, 0)), (173, .iload_n 3, 1, (0, 0, 0)), (174, .if_icmp .ge 26, 3, (0, 0, 0)), (177, .aload_n 0, 1, (0, 0, 0)), (178, .iload 4, 2, (0, 0, 0)), (180, .iload_n 3, 1, (0, 0, 0)), (181, .invokevirtual 59, 3, (158, 0, 916)), (184, .ifCond .eq 10, 3, (0, 0, 0)), (187, .aload_n 0, 1, (0, 0, 0)), (188, .iload 4, 2, (0, 0, 0)), (190, .iload_n 3, 1, (0, 0, 0)), (191, .invokevirtual 63, 3, (156, 0, 929)), (194, .iinc 4 1, 3, (0, 0, 0)), (197, .goto (-26), 3, (0, 0, 0)), (200, .return_, 1, (0, 0, 0))]
set_option maxRecDepth 100000 in
def tb_X8_putAhead : List pI := [(0, .iconst 0, 1, (0, 0, 0)), (1, .istore_n 3, 1, (0, 0, 0)), (2, .iload_n 3, 1, (0, 0, 0)), (3, .iconst 4, 1, (0, 0, 0)), (4, .if_icmp .ge 32, 3, (0, 0, 0)), (7, .aload_n 0, 1, (0, 0, 0)), (8, .getfield 23, 3, (8, 2, 646)), (11, .iload_n 2, 1, (0, 0, 0)), (12, .iconst 4, 1, (0, 0, 0)), (13, .imul, 1, (0, 0, 0)), (14, .iload_n 3, 1, (0, 0, 0)), (15, .iadd, 1, (0, 0, 0)), (16, .dup2, 1, (0, 0, 0)), (17, .laload, 1, (0, 0, 0)), (18, .aload_n 0, 1, (0, 0, 0)), (19, .getfield 23, 3, (8, 2, 646)), (22, .iload_n 1, 1, (0, 0, 0)), (23, .iconst 4, 1, (0, 0, 0)), (24, .imul, 1, (0, 0, 0)), (25, .iload_n 3, 1, (0, 0, 0)), (26, .iadd, 1, (0, 0, 0)), (27, .laload, 1, (0, 0, 0)), (28, .lor, 1, (0, 0, 0)), (29, .lastore, 1, (0, 0, 0)), (30, .iinc 3 1, 3, (0, 0, 0)), (33, .goto (-31), 3, (0, 0, 0)), (36, .aload_n 0, 1, (0, 0, 0)), (37, .getfield 23, 3, (8, 2, 646)), (40, .iload_n 2, 1, (0, 0, 0)), (41, .iconst 4, 1, (0, 0, 0)), (42, .imul, 1, (0, 0, 0)), (43, .iload_n 1, 1, (0, 0, 0)), (44, .bipush 64, 2, (0, 0, 0)), (46, .idiv, 1, (0, 0, 0)), (47, .iadd, 1, (0, 0, 0)), (48, .dup2, 1, (0, 0, 0)), (49, .laload, 1, (0, 0, 0)), (50, .lconst 1, 1, (0, 0, 0)), (51, .iload_n 1, 1, (0, 0, 0)), (52, .bipush 64, 2, (0, 0, 0)), (54, .irem, 1, (0, 0, 0)), (55, .lshl, 1, (0, 0, 0)), (56, .lor, 1, (0, 0, 0)), (57, .lastore, 1, (0, 0, 0)), (58, .return_, 1, (0, 0, 0))]
set_option maxRecDepth 100000 in
def tb_X8_leadsTo_0 : List pI := [(0, .aload_n 0, 1, (0, 0, 0)), (1, .getfield 20, 3, (8, 1, 645)), (4, .iconst 3, 1, (0, 0, 0)), (5, .aaload, 1, (0, 0, 0)), (6, .iload_n 1, 1, (0, 0, 0)), (7, .iaload, 1, (0, 0, 0)), (8, .istore_n 3, 1, (0, 0, 0)), (9, .aload_n 0, 1, (0, 0, 0)), (10, .getfield 20, 3, (8, 1, 645)), (13, .iconst 3, 1, (0, 0, 0)), (14, .aaload, 1, (0, 0, 0)), (15, .iload_n 2, 1, (0, 0, 0)), (16, .iaload, 1, (0, 0, 0)), (17, .istore 4, 2, (0, 0, 0)), (19, .iload_n 3, 1, (0, 0, 0)), (20, .bipush 20, 2, (0, 0, 0)), (22, .if_icmp .eq 10, 3, (0, 0, 0)), (25, .iload 4, 2, (0, 0, 0)), (27, .bipush 20, 2, (0, 0, 0)), (29, .if_icmp .ne 5, 3, (0, 0, 0)), (32, .iconst 0, 1, (0, 0, 0)), (33, .ireturn, 1, (0, 0, 0)), (34, .aload_n 0, 1, (0, 0, 0)), (35, .getfield 20, 3, (8, 1, 645)), (38, .iconst 0, 1, (0, 0, 0)), (39, .aaload, 1, (0, 0, 0)), (40, .iload_n 1, 1, (0, 0, 0)), (41, .iaload, 1, (0, 0, 0)), (42, .aload_n 0, 1, (0, 0, 0)), (43, .getfield 20, 3, (8, 1, 645)), (46, .iconst 0, 1, (0, 0, 0)), (47, .aaload, 1, (0, 0, 0)), (48, .iload_n 2, 1, (0, 0, 0)), (49, .iaload, 1, (0, 0, 0)), (50, .if_icmp .eq 67, 3, (0, 0, 0)), (53, .iload_n 3, 1, (0, 0, 0)), (54, .bipush 10, 2, (0, 0, 0)), (56, .if_icmp .ne 22, 3, (0, 0, 0)), (59, .aload_n 0, 1, (0, 0, 0)), (60, .getfield 20, 3, (8, 1, 645)), (63, .iconst 4, 1, (0, 0, 0)), (64, .aaload, 1, (0, 0, 0)), (65, .iload_n 1, 1, (0, 0, 0)), (66, .iaload, 1, (0, 0, 0)), (67, .aload_n 0, 1, (0, 0, 0)), (68, .getfield 20, 3, (8, 1, 645)), (71, .iconst 0, 1, (0, 0, 0)), (72, .aaload, 1, (0, 0, 0)), (73, .iload_n 2, 1, (0, 0, 0)), (74, .iaload, 1, (0, 0, 0)), (75, .if_icmp .eq 42, 3, (0, 0, 0)), (78, .iload 4, 2, (0, 0, 0)), (80, .bipush 11, 2, (0, 0, 0)), (82, .if_icmp .ne 22, 3, (0, 0, 0)), (85, .aload_n 0, 1, (0, 0, 0)), (86, .getfield 20, 3, (8, 1, 645)), (89, .iconst 4, 1, (0, 0, 0)), (90, .aaload, 1, (0, 0, 0)), (91, .iload_n 2, 1, (0, 0, 0)), (92, .iaload, 1, (0, 0, 0)), (93, .aload_n 0, 1, (0, 0, 0)), (94, .getfield 20, 3, (8, 1, 645)), (97, .iconst 0, 1, (0, 0, 0)), (98, .aaload, 1, (0, 0, 0)), (99, .iload_n 1, 1, (0, 0, 0)), (100, .iaload, 1, (0, 0, 0)), (101, .if_icmp .eq 16, 3, (0, 0, 0)), (104, .iload_n 3, 1, (0, 0, 0)), (105, .bipush 12, 2, (0, 0, 0)), (107, .if_icmp .ne 12, 3, (0, 0, 0)), (110, .iload 4, 2, (0, 0, 0)), (112, .bipush 12, 2, (0, 0, 0)), (114, .if_icmp .ne 5, 3, (0, 0, 0)), (117, .iconst 1, 1, (0, 0, 0)), (118, .ireturn, 1, (0, 0, 0)), (119, .iload_n 3, 1, (0, 0, 0)), (120, .bipush 6, 2, (0, 0, 0)), (122, .if_icmp .eq 9, 3, (0, 0, 0)), (125, .iload_n 3, 1, (0, 0, 0)), (126, .bipush 7, 2, (0, 0, 0)), (128, .if_icmp .ne 7, 3, (0, 0, 0)), (131, .iconst 1, 1, (0, 0, 0)), (132, .goto 4, 3, (0, 0, 0)), (135, .iconst 0, 1, (0, 0, 0)), (136, .istore 5, 2, (0, 0, 0)), (138, .iload 4, 2, (0, 0, 0)), (140, .iconst 5, 1, (0, 0, 0)), (141, .if_icmp .eq 10, 3, (0, 0, 0)), (144, .iload 4, 2, (0, 0, 0)), (146, .bipush 19, 2, (0, 0, 0)), (148, .if_icmp .ne 7, 3, (0, 0, 0)), (151, .iconst 1, 1, (0, 0, 0)), (152, .goto 4, 3, (0, 0, 0)), (155, .iconst 0, 1, (0, 0, 0)), (156, .istore 6, 2, (0, 0, 0)), (158, .aload_n 0, 1, (0, 0, 0)), (159, .getfield 20, 3, (8, 1, 645)), (162, .iconst 4, 1, (0, 0, 0)), (163, .aaload, 1, (0, 0, 0)), (164, .iload_n 1, 1, (0, 0, 0)), (165, .iaload, 1, (0, 0, 0)), (166, .aload_n 0, 1, (0, 0, 0)), (167, .getfield 20, 3, (8, 1, 645)), (170, .iconst 4, 1, (0, 0, 0)), (171, .aaload, 1, (0, 0, 0)), (172, .iload_n 2, 1, (0, 0, 0)), (173, .iaload, 1, (0, 0, 0)), (174, .if_icmp .ne 33, 3, (0, 0, 0)), (177, .iload 5, 2, (0, 0, 0)), (179, .ifCond .eq 8, 3, (0, 0, 0)), (182, .iload 6, 2, (0, 0, 0)), (184, .ifCond .ne 19, 3, (0, 0, 0)), (187, .aload_n 0, 1, (0, 0, 0)), (188, .iload_n 1, 1, (0, 0, 0)), (189, .invokevirtual 66, 3, (159, 0, 920)), (192, .ifCond .eq 15, 3, (0, 0, 0)), (195, .aload_n 0, 1, (0, 0, 0)), (196, .iload_n 2, 1, (0, 0, 0)), (197, .invokevirtual 70, 3, (160, 0, 925)), (200, .ifCond .eq 7, 3, (0, 0, 0))]
set_option maxRecDepth 100000 in
def tb_X8_leadsTo_1 : List pI := [(203, .iconst 1, 1, (0, 0, 0)), (204, .goto 4, 3, (0, 0, 0)), (207, .iconst 0, 1, (0, 0, 0)), (208, .ireturn, 1, (0, 0, 0))]
def tb_X8_leadsTo : List pI := tb_X8_leadsTo_0 ++ (tb_X8_leadsTo_1)
set_option maxRecDepth 100000 in
def tb_X8_tells : List pI := [(0, .aload_n 0, 1, (0, 0, 0)), (1, .getfield 20, 3, (8, 1, 645)), (4, .iconst 3, 1, (0, 0, 0)), (5, .aaload, 1, (0, 0, 0)), (6, .iload_n 1, 1, (0, 0, 0)), (7, .iaload, 1, (0, 0, 0)), (8, .istore_n 2, 1, (0, 0, 0)), (9, .iload_n 2, 1, (0, 0, 0)), (10, .iconst 3, 1, (0, 0, 0)), (11, .if_icmp .eq 34, 3, (0, 0, 0)), (14, .iload_n 2, 1, (0, 0, 0)), (15, .iconst 4, 1, (0, 0, 0)), (16, .if_icmp .eq 29, 3, (0, 0, 0)), (19, .iload_n 2, 1, (0, 0, 0)), (20, .iconst 2, 1, (0, 0, 0)), (21, .if_icmp .ne 28, 3, (0, 0, 0)), (24, .aload_n 0, 1, (0, 0, 0)), (25, .getfield 12, 3, (8, 0, 643)), (28, .getfield 49, 3, (3, 7, 415)), (31, .aload_n 0, 1, (0, 0, 0)), (32, .getfield 20, 3, (8, 1, 645)), (35, .iconst 4, 1, (0, 0, 0)), (36, .aaload, 1, (0, 0, 0)), (37, .iload_n 1, 1, (0, 0, 0)), (38, .iaload, 1, (0, 0, 0)), (39, .invokevirtual 73, 3, (94, 0, 924)), (42, .ifCond .eq 7, 3, (0, 0, 0)), (45, .iconst 1, 1, (0, 0, 0)), (46, .goto 4, 3, (0, 0, 0)), (49, .iconst 0, 1, (0, 0, 0)), (50, .ireturn, 1, (0, 0, 0))]
set_option maxRecDepth 100000 in
def tb_X8_hears : List pI := [(0, .aload_n 0, 1, (0, 0, 0)), (1, .getfield 20, 3, (8, 1, 645)), (4, .iconst 3, 1, (0, 0, 0)), (5, .aaload, 1, (0, 0, 0)), (6, .iload_n 1, 1, (0, 0, 0)), (7, .iaload, 1, (0, 0, 0)), (8, .istore_n 2, 1, (0, 0, 0)), (9, .iload_n 2, 1, (0, 0, 0)), (10, .iconst 3, 1, (0, 0, 0)), (11, .if_icmp .eq 34, 3, (0, 0, 0)), (14, .iload_n 2, 1, (0, 0, 0)), (15, .iconst 4, 1, (0, 0, 0)), (16, .if_icmp .eq 29, 3, (0, 0, 0)), (19, .iload_n 2, 1, (0, 0, 0)), (20, .iconst 1, 1, (0, 0, 0)), (21, .if_icmp .ne 28, 3, (0, 0, 0)), (24, .aload_n 0, 1, (0, 0, 0)), (25, .getfield 12, 3, (8, 0, 643)), (28, .getfield 49, 3, (3, 7, 415)), (31, .aload_n 0, 1, (0, 0, 0)), (32, .getfield 20, 3, (8, 1, 645)), (35, .iconst 4, 1, (0, 0, 0)), (36, .aaload, 1, (0, 0, 0)), (37, .iload_n 1, 1, (0, 0, 0)), (38, .iaload, 1, (0, 0, 0)), (39, .invokevirtual 73, 3, (94, 0, 924)), (42, .ifCond .eq 7, 3, (0, 0, 0)), (45, .iconst 1, 1, (0, 0, 0)), (46, .goto 4, 3, (0, 0, 0)), (49, .iconst 0, 1, (0, 0, 0)), (50, .ireturn, 1, (0, 0, 0))]
set_option maxRecDepth 100000 in
def tb_X9_init : List pI := [(0, .aload_n 0, 1, (0, 0, 0)), (1, .invokespecial 3, 3, (-1, 0, 126)), (4, .aload_n 0, 1, (0, 0, 0)), (5, .sipush 4000, 3, (0, 0, 0)), (8, .newarray .byte, 2, (0, 0, 220)), (10, .putfield 9, 3, (9, 0, 179)), (13, .aload_n 0, 1, (0, 0, 0)), (14, .ldc 15, 2, (0, 1, 127)), (16, .bipush 33, 2, (0, 0, 0)), (18, .invokestatic 17, 3, (164, 0, 128)), (21, .putfield 21, 3, (9, 1, 180)), (24, .aload_n 0, 1, (0, 0, 0)), (25, .sipush 4001, 3, (0, 0, 0)), (28, .newarray .int, 2, (0, 0, 222)), (30, .putfield 25, 3, (9, 2, 181)), (33, .aload_n 0, 1, (0, 0, 0)), (34, .sipush 4001, 3, (0, 0, 0)), (37, .newarray .int, 2, (0, 0, 222)), (39, .putfield 29, 3, (9, 3, 182)), (42, .aload_n 0, 1, (0, 0, 0)), (43, .sipush 4001, 3, (0, 0, 0)), (46, .newarray .long, 2, (0, 0, 221)), (48, .putfield 32, 3, (9, 4, 183)), (51, .return_, 1, (0, 0, 0))]
set_option maxRecDepth 100000 in
def tb_X9_codes : List pI := [(0, .iload_n 1, 1, (0, 0, 0)), (1, .newarray .long, 2, (0, 0, 221)), (3, .astore_n 2, 1, (0, 0, 0)), (4, .iconst 0, 1, (0, 0, 0)), (5, .istore_n 3, 1, (0, 0, 0)), (6, .iconst 0, 1, (0, 0, 0)), (7, .istore 4, 2, (0, 0, 0)), (9, .iload 4, 2, (0, 0, 0)), (11, .aload_n 0, 1, (0, 0, 0)), (12, .invokevirtual 35, 3, (413, 0, 131)), (15, .if_icmp .ge 48, 3, (0, 0, 0)), (18, .iload_n 3, 1, (0, 0, 0)), (19, .iload_n 1, 1, (0, 0, 0)), (20, .if_icmp .ge 43, 3, (0, 0, 0)), (23, .aload_n 0, 1, (0, 0, 0)), (24, .iload 4, 2, (0, 0, 0)), (26, .invokevirtual 41, 3, (414, 0, 141)), (29, .istore 5, 2, (0, 0, 0)), (31, .iload 5, 2, (0, 0, 0)), (33, .bipush 32, 2, (0, 0, 0)), (35, .if_icmp .ne 9, 3, (0, 0, 0)), (38, .iinc 3 1, 3, (0, 0, 0)), (41, .goto 16, 3, (0, 0, 0)), (44, .aload_n 2, 1, (0, 0, 0)), (45, .iload_n 3, 1, (0, 0, 0)), (46, .aload_n 2, 1, (0, 0, 0)), (47, .iload_n 3, 1, (0, 0, 0)), (48, .laload, 1, (0, 0, 0)), (49, .bipush 7, 2, (0, 0, 0)), (51, .lshl, 1, (0, 0, 0)), (52, .iload 5, 2, (0, 0, 0)), (54, .i2l, 1, (0, 0, 0)), (55, .lor, 1, (0, 0, 0)), (56, .lastore, 1, (0, 0, 0)), (57, .iinc 4 1, 3, (0, 0, 0)), (60, .goto (-51), 3, (0, 0, 0)), (63, .aload_n 2, 1, (0, 0, 0)), (64, .areturn, 1, (0, 0, 0))]
set_option maxRecDepth 100000 in
def tb_X9_append : List pI := [(0, .bipush 24, 2, (0, 0, 0)), (2, .istore_n 2, 1, (0, 0, 0)), (3, .iload_n 2, 1, (0, 0, 0)), (4, .ifCond .lt 42, 3, (0, 0, 0)), (7, .aload_n 0, 1, (0, 0, 0)), (8, .getfield 45, 3, (9, 5, 185)), (11, .sipush 4000, 3, (0, 0, 0)), (14, .if_icmp .ge 32, 3, (0, 0, 0)), (17, .aload_n 0, 1, (0, 0, 0)), (18, .getfield 9, 3, (9, 0, 179)), (21, .aload_n 0, 1, (0, 0, 0)), (22, .getfield 45, 3, (9, 5, 185)), (25, .iload_n 1, 1, (0, 0, 0)), (26, .iload_n 2, 1, (0, 0, 0)), (27, .ishr, 1, (0, 0, 0)), (28, .i2b, 1, (0, 0, 0)), (29, .bastore, 1, (0, 0, 0)), (30, .aload_n 0, 1, (0, 0, 0)), (31, .dup, 1, (0, 0, 0)), (32, .getfield 45, 3, (9, 5, 185)), (35, .iconst 1, 1, (0, 0, 0)), (36, .iadd, 1, (0, 0, 0)), (37, .putfield 45, 3, (9, 5, 185)), (40, .iinc 2 (-8), 3, (0, 0, 0)), (43, .goto (-40), 3, (0, 0, 0)), (46, .return_, 1, (0, 0, 0))]
set_option maxRecDepth 100000 in
def tb_X9_cut : List pI := [(0, .aload_n 0, 1, (0, 0, 0)), (1, .iconst 0, 1, (0, 0, 0)), (2, .putfield 48, 3, (9, 6, 186)), (5, .aload_n 0, 1, (0, 0, 0)), (6, .iconst 0, 1, (0, 0, 0)), (7, .putfield 51, 3, (9, 7, 187)), (10, .aload_n 0, 1, (0, 0, 0)), (11, .iconst 2, 1, (0, 0, 0)), (12, .putfield 54, 3, (9, 9, 190)), (15, .iconst 0, 1, (0, 0, 0)), (16, .istore_n 1, 1, (0, 0, 0)), (17, .iload_n 1, 1, (0, 0, 0)), (18, .sipush 4000, 3, (0, 0, 0)), (21, .if_icmp .gt 94, 3, (0, 0, 0)), (24, .aload_n 0, 1, (0, 0, 0)), (25, .getfield 54, 3, (9, 9, 190)), (28, .ifCond .eq 87, 3, (0, 0, 0)), (31, .aload_n 0, 1, (0, 0, 0)), (32, .getfield 54, 3, (9, 9, 190)), (35, .iconst 1, 1, (0, 0, 0)), (36, .if_icmp .eq 79, 3, (0, 0, 0)), (39, .aload_n 0, 1, (0, 0, 0)), (40, .invokevirtual 57, 3, (171, 0, 1303)), (43, .aload_n 0, 1, (0, 0, 0)), (44, .aload_n 0, 1, (0, 0, 0)), (45, .getfield 51, 3, (9, 7, 187)), (48, .putfield 60, 3, (9, 10, 192)), (51, .aload_n 0, 1, (0, 0, 0)), (52, .lconst 0, 1, (0, 0, 0)), (53, .putfield 63, 3, (9, 11, 193)), (56, .aload_n 0, 1, (0, 0, 0)), (57, .invokevirtual 67, 3, (172, 0, 1307)), (60, .aload_n 0, 1, (0, 0, 0)), (61, .getfield 25, 3, (9, 2, 181)), (64, .aload_n 0, 1, (0, 0, 0)), (65, .getfield 48, 3, (9, 6, 186)), (68, .aload_n 0, 1, (0, 0, 0)), (69, .getfield 54, 3, (9, 9, 190)), (72, .iastore, 1, (0, 0, 0)), (73, .aload_n 0, 1, (0, 0, 0)), (74, .getfield 29, 3, (9, 3, 182)), (77, .aload_n 0, 1, (0, 0, 0)), (78, .getfield 48, 3, (9, 6, 186)), (81, .aload_n 0, 1, (0, 0, 0)), (82, .getfield 60, 3, (9, 10, 192)), (85, .iastore, 1, (0, 0, 0)), (86, .aload_n 0, 1, (0, 0, 0)), (87, .getfield 32, 3, (9, 4, 183)), (90, .aload_n 0, 1, (0, 0, 0)), (91, .getfield 48, 3, (9, 6, 186)), (94, .aload_n 0, 1, (0, 0, 0)), (95, .getfield 63, 3, (9, 11, 193)), (98, .lastore, 1, (0, 0, 0)), (99, .aload_n 0, 1, (0, 0, 0)), (100, .dup, 1, (0, 0, 0)), (101, .getfield 48, 3, (9, 6, 186)), (104, .iconst 1, 1, (0, 0, 0)), (105, .iadd, 1, (0, 0, 0)), (106, .putfield 48, 3, (9, 6, 186)), (109, .iinc 1 1, 3, (0, 0, 0)), (112, .goto (-95), 3, (0, 0, 0)), (115, .aload_n 0, 1, (0, 0, 0)), (116, .iconst (-1), 1, (0, 0, 0)), (117, .putfield 70, 3, (9, 8, 188)), (120, .aload_n 0, 1, (0, 0, 0)), (121, .invokevirtual 73, 3, (167, 0, 1391)), (124, .return_, 1, (0, 0, 0))]
set_option maxRecDepth 100000 in
def tb_X9_advance : List pI := [(0, .aload_n 0, 1, (0, 0, 0)), (1, .getfield 70, 3, (9, 8, 188)), (4, .aload_n 0, 1, (0, 0, 0)), (5, .getfield 48, 3, (9, 6, 186)), (8, .iconst 1, 1, (0, 0, 0)), (9, .isub, 1, (0, 0, 0)), (10, .if_icmp .ge 13, 3, (0, 0, 0)), (13, .aload_n 0, 1, (0, 0, 0)), (14, .dup, 1, (0, 0, 0)), (15, .getfield 70, 3, (9, 8, 188)), (18, .iconst 1, 1, (0, 0, 0)), (19, .iadd, 1, (0, 0, 0)), (20, .putfield 70, 3, (9, 8, 188)), (23, .aload_n 0, 1, (0, 0, 0)), (24, .aload_n 0, 1, (0, 0, 0)), (25, .getfield 25, 3, (9, 2, 181)), (28, .aload_n 0, 1, (0, 0, 0)), (29, .getfield 70, 3, (9, 8, 188)), (32, .iaload, 1, (0, 0, 0)), (33, .putfield 54, 3, (9, 9, 190)), (36, .aload_n 0, 1, (0, 0, 0)), (37, .aload_n 0, 1, (0, 0, 0)), (38, .getfield 29, 3, (9, 3, 182)), (41, .aload_n 0, 1, (0, 0, 0)), (42, .getfield 70, 3, (9, 8, 188)), (45, .iaload, 1, (0, 0, 0)), (46, .putfield 60, 3, (9, 10, 192)), (49, .aload_n 0, 1, (0, 0, 0)), (50, .aload_n 0, 1, (0, 0, 0)), (51, .getfield 32, 3, (9, 4, 183)), (54, .aload_n 0, 1, (0, 0, 0)), (55, .getfield 70, 3, (9, 8, 188)), (58, .laload, 1, (0, 0, 0)), (59, .putfield 63, 3, (9, 11, 193)), (62, .return_, 1, (0, 0, 0))]
set_option maxRecDepth 100000 in
def tb_X9_byteAt : List pI := [(0, .iload_n 1, 1, (0, 0, 0)), (1, .aload_n 0, 1, (0, 0, 0)), (2, .getfield 45, 3, (9, 5, 185)), (5, .if_icmp .ge 16, 3, (0, 0, 0)), (8, .aload_n 0, 1, (0, 0, 0)), (9, .getfield 9, 3, (9, 0, 179)), (12, .iload_n 1, 1, (0, 0, 0)), (13, .baload, 1, (0, 0, 0)), (14, .sipush 255, 3, (0, 0, 0)), (17, .iand, 1, (0, 0, 0)), (18, .goto 4, 3, (0, 0, 0)), (21, .iconst (-1), 1, (0, 0, 0)), (22, .ireturn, 1, (0, 0, 0))]
set_option maxRecDepth 100000 in
def tb_X9_isLetter : List pI := [(0, .iload_n 0, 1, (0, 0, 0)), (1, .bipush 97, 2, (0, 0, 0)), (3, .if_icmp .lt 9, 3, (0, 0, 0)), (6, .iload_n 0, 1, (0, 0, 0)), (7, .bipush 122, 2, (0, 0, 0)), (9, .if_icmp .le 15, 3, (0, 0, 0)), (12, .iload_n 0, 1, (0, 0, 0)), (13, .bipush 65, 2, (0, 0, 0)), (15, .if_icmp .lt 13, 3, (0, 0, 0)), (18, .iload_n 0, 1, (0, 0, 0)), (19, .bipush 90, 2, (0, 0, 0)), (21, .if_icmp .gt 7, 3, (0, 0, 0)), (24, .iconst 1, 1, (0, 0, 0)), (25, .goto 4, 3, (0, 0, 0)), (28, .iconst 0, 1, (0, 0, 0)), (29, .ireturn, 1, (0, 0, 0))]
set_option maxRecDepth 100000 in
def tb_X9_isDigit : List pI := [(0, .iload_n 0, 1, (0, 0, 0)), (1, .bipush 48, 2, (0, 0, 0)), (3, .if_icmp .lt 13, 3, (0, 0, 0)), (6, .iload_n 0, 1, (0, 0, 0)), (7, .bipush 57, 2, (0, 0, 0)), (9, .if_icmp .gt 7, 3, (0, 0, 0)), (12, .iconst 1, 1, (0, 0, 0)), (13, .goto 4, 3, (0, 0, 0)), (16, .iconst 0, 1, (0, 0, 0)), (17, .ireturn, 1, (0, 0, 0))]
set_option maxRecDepth 100000 in
def tb_X9_skipBlanks : List pI := [(0, .iconst 0, 1, (0, 0, 0)), (1, .istore_n 1, 1, (0, 0, 0)), (2, .aload_n 0, 1, (0, 0, 0)), (3, .getfield 51, 3, (9, 7, 187)), (6, .aload_n 0, 1, (0, 0, 0)), (7, .getfield 45, 3, (9, 5, 185)), (10, .if_icmp .ge 71, 3, (0, 0, 0)), (13, .aload_n 0, 1, (0, 0, 0)), (14, .getfield 9, 3, (9, 0, 179)), (17, .aload_n 0, 1, (0, 0, 0)), (18, .getfield 51, 3, (9, 7, 187)), (21, .baload, 1, (0, 0, 0)), (22, .istore_n 2, 1, (0, 0, 0)), (23, .iload_n 2, 1, (0, 0, 0)), (24, .bipush 10, 2, (0, 0, 0)), (26, .if_icmp .ne 8, 3, (0, 0, 0)), (29, .iconst 0, 1, (0, 0, 0)), (30, .istore_n 1, 1, (0, 0, 0)), (31, .goto 37, 3, (0, 0, 0)), (34, .iload_n 2, 1, (0, 0, 0)), (35, .bipush 35, 2, (0, 0, 0)), (37, .if_icmp .ne 8, 3, (0, 0, 0)), (40, .iconst 1, 1, (0, 0, 0)), (41, .istore_n 1, 1, (0, 0, 0)), (42, .goto 26, 3, (0, 0, 0)), (45, .iload_n 1, 1, (0, 0, 0)), (46, .ifCond .ne 22, 3, (0, 0, 0)), (49, .iload_n 2, 1, (0, 0, 0)), (50, .bipush 9, 2, (0, 0, 0)), (52, .if_icmp .eq 16, 3, (0, 0, 0)), (55, .iload_n 2, 1, (0, 0, 0)), (56, .bipush 13, 2, (0, 0, 0)), (58, .if_icmp .eq 10, 3, (0, 0, 0)), (61, .iload_n 2, 1, (0, 0, 0)), (62, .bipush 32, 2, (0, 0, 0)), (64, .if_icmp .eq 4, 3, (0, 0, 0)), (67, .return_, 1, (0, 0, 0)), (68, .aload_n 0, 1, (0, 0, 0)), (69, .dup, 1, (0, 0, 0)), (70, .getfield 51, 3, (9, 7, 187)), (73, .iconst 1, 1, (0, 0, 0)), (74, .iadd, 1, (0, 0, 0)), (75, .putfield 51, 3, (9, 7, 187)), (78, .goto (-76), 3, (0, 0, 0)), (81, .return_, 1, (0, 0, 0))]
set_option maxRecDepth 100000 in
def tb_X9_cutOne : List pI := [(0, .aload_n 0, 1, (0, 0, 0)), (1, .aload_n 0, 1, (0, 0, 0)), (2, .getfield 51, 3, (9, 7, 187)), (5, .invokevirtual 76, 3, (168, 0, 1311)), (8, .istore_n 1, 1, (0, 0, 0)), (9, .iload_n 1, 1, (0, 0, 0)), (10, .ifCond .ge 11, 3, (0, 0, 0)), (13, .aload_n 0, 1, (0, 0, 0)), (14, .iconst 0, 1, (0, 0, 0)), (15, .putfield 54, 3, (9, 9, 190)), (18, .goto 36, 3, (0, 0, 0)), (21, .iload_n 1, 1, (0, 0, 0)), (22, .invokestatic 80, 3, (169, 0, 1315)), (25, .ifCond .eq 10, 3, (0, 0, 0)), (28, .aload_n 0, 1, (0, 0, 0)), (29, .invokevirtual 84, 3, (173, 0, 1318)), (32, .goto 22, 3, (0, 0, 0)), (35, .iload_n 1, 1, (0, 0, 0)), (36, .invokestatic 87, 3, (170, 0, 1322)), (39, .ifCond .eq 10, 3, (0, 0, 0)), (42, .aload_n 0, 1, (0, 0, 0)), (43, .invokevirtual 90, 3, (174, 0, 1325)), (46, .goto 8, 3, (0, 0, 0)), (49, .aload_n 0, 1, (0, 0, 0)), (50, .iload_n 1, 1, (0, 0, 0)), (51, .invokevirtual 93, 3, (175, 0, 1331)), (54, .return_, 1, (0, 0, 0))]
set_option maxRecDepth 100000 in
def tb_X9_cutWord : List pI := [(0, .aload_n 0, 1, (0, 0, 0)), (1, .getfield 51, 3, (9, 7, 187)), (4, .aload_n 0, 1, (0, 0, 0)), (5, .getfield 45, 3, (9, 5, 185)), (8, .if_icmp .ge 62, 3, (0, 0, 0)), (11, .aload_n 0, 1, (0, 0, 0)), (12, .aload_n 0, 1, (0, 0, 0)), (13, .getfield 51, 3, (9, 7, 187)), (16, .invokevirtual 76, 3, (168, 0, 1311)), (19, .istore_n 1, 1, (0, 0, 0)), (20, .iload_n 1, 1, (0, 0, 0)), (21, .invokestatic 80, 3, (169, 0, 1315)), (24, .ifCond .ne 19, 3, (0, 0, 0)), (27, .iload_n 1, 1, (0, 0, 0)), (28, .invokestatic 87, 3, (170, 0, 1322)), (31, .ifCond .ne 12, 3, (0, 0, 0)), (34, .iload_n 1, 1, (0, 0, 0)), (35, .bipush 95, 2, (0, 0, 0)), (37, .if_icmp .eq 6, 3, (0, 0, 0)), (40, .goto 30, 3, (0, 0, 0)), (43, .aload_n 0, 1, (0, 0, 0)), (44, .aload_n 0, 1, (0, 0, 0)), (45, .getfield 63, 3, (9, 11, 193)), (48, .bipush 7, 2, (0, 0, 0)), (50, .lshl, 1, (0, 0, 0)), (51, .iload_n 1, 1, (0, 0, 0)), (52, .i2l, 1, (0, 0, 0)), (53, .lor, 1, (0, 0, 0)), (54, .putfield 63, 3, (9, 11, 193)), (57, .aload_n 0, 1, (0, 0, 0)), (58, .dup, 1, (0, 0, 0)), (59, .getfield 51, 3, (9, 7, 187)), (62, .iconst 1, 1, (0, 0, 0)), (63, .iadd, 1, (0, 0, 0)), (64, .putfield 51, 3, (9, 7, 187)), (67, .goto (-67), 3, (0, 0, 0)), (70, .aload_n 0, 1, (0, 0, 0)), (71, .aload_n 0, 1, (0, 0, 0)), (72, .getfield 51, 3, (9, 7, 187)), (75, .aload_n 0, 1, (0, 0, 0)), (76, .getfield 60, 3, (9, 10, 192)), (79, .isub, 1, (0, 0, 0)), (80, .bipush 8, 2, (0, 0, 0)), (82, .if_icmp .le 7, 3, (0, 0, 0)), (85, .iconst 1, 1, (0, 0, 0)), (86, .goto 4, 3, (0, 0, 0)), (89, .iconst 2, 1, (0, 0, 0)), (90, .putfield 54, 3, (9, 9, 190)), (93, .iconst 0, 1, (0, 0, 0)), (94, .istore_n 1, 1, (0, 0, 0)), (95, .iload_n 1, 1, (0, 0, 0)), (96, .bipush 33, 2, (0, 0, 0)), (98, .if_icmp .ge 40, 3, (0, 0, 0)), (101, .aload_n 0, 1, (0, 0, 0)), (102, .getfield 54, 3, (9, 9, 190)), (105, .iconst 2, 1, (0, 0, 0)), (106, .if_icmp .ne 32, 3, (0, 0, 0)), (109, .aload_n 0, 1, (0, 0, 0)), (110, .getfield 21, 3, (9, 1, 180)), (113, .iload_n 1, 1, (0, 0, 0)), (114, .laload, 1, (0, 0, 0)), (115, .aload_n 0, 1, (0, 0, 0)), (116, .getfield 63, 3, (9, 11, 193)), (119, .lcmp, 1, (0, 0, 0)), (120, .ifCond .ne 12, 3, (0, 0, 0)), (123, .aload_n 0, 1, (0, 0, 0)), (124, .sipush 300, 3, (0, 0, 0)), (127, .iload_n 1, 1, (0, 0, 0)), (128, .iadd, 1, (0, 0, 0)), (129, .putfield 54, 3, (9, 9, 190)), (132, .iinc 1 1, 3, (0, 0, 0)), (135, .goto (-40), 3, (0, 0, 0)), (138, .return_, 1, (0, 0, 0))]
set_option maxRecDepth 100000 in
def tb_X9_cutNumber : List pI := [(0, .aload_n 0, 1, (0, 0, 0)), (1, .getfield 51, 3, (9, 7, 187)), (4, .aload_n 0, 1, (0, 0, 0)), (5, .getfield 45, 3, (9, 5, 185)), (8, .if_icmp .ge 56, 3, (0, 0, 0)), (11, .aload_n 0, 1, (0, 0, 0)), (12, .aload_n 0, 1, (0, 0, 0)), (13, .getfield 51, 3, (9, 7, 187)), (16, .invokevirtual 76, 3, (168, 0, 1311)), (19, .invokestatic 87, 3, (170, 0, 1322)), (22, .ifCond .eq 42, 3, (0, 0, 0)), (25, .aload_n 0, 1, (0, 0, 0)), (26, .aload_n 0, 1, (0, 0, 0)), (27, .getfield 63, 3, (9, 11, 193)), (30, .ldc2_w 97, 3, (10, 0, 1329)), (33, .lmul, 1, (0, 0, 0)), (34, .aload_n 0, 1, (0, 0, 0)), (35, .aload_n 0, 1, (0, 0, 0)), (36, .getfield 51, 3, (9, 7, 187)), (39, .invokevirtual 76, 3, (168, 0, 1311)), (42, .i2l, 1, (0, 0, 0)), (43, .ladd, 1, (0, 0, 0)), (44, .ldc2_w 99, 3, (48, 0, 1330)), (47, .lsub, 1, (0, 0, 0)), (48, .putfield 63, 3, (9, 11, 193)), (51, .aload_n 0, 1, (0, 0, 0)), (52, .dup, 1, (0, 0, 0)), (53, .getfield 51, 3, (9, 7, 187)), (56, .iconst 1, 1, (0, 0, 0)), (57, .iadd, 1, (0, 0, 0)), (58, .putfield 51, 3, (9, 7, 187)), (61, .goto (-61), 3, (0, 0, 0)), (64, .aload_n 0, 1, (0, 0, 0)), (65, .aload_n 0, 1, (0, 0, 0)), (66, .getfield 51, 3, (9, 7, 187)), (69, .aload_n 0, 1, (0, 0, 0)), (70, .getfield 60, 3, (9, 10, 192)), (73, .isub, 1, (0, 0, 0)), (74, .iconst 3, 1, (0, 0, 0)), (75, .if_icmp .le 7, 3, (0, 0, 0)), (78, .iconst 1, 1, (0, 0, 0)), (79, .goto 4, 3, (0, 0, 0)), (82, .iconst 3, 1, (0, 0, 0)), (83, .putfield 54, 3, (9, 9, 190)), (86, .return_, 1, (0, 0, 0))]
set_option maxRecDepth 100000 in
def tb_X9_cutSign : List pI := [(0, .ldc 101, 2, (0, 3, 1335)), (2, .iload_n 1, 1, (0, 0, 0)), (3, .i2c, 1, (0, 0, 0)), (4, .invokevirtual 103, 3, (415, 0, 1336)), (7, .ifCond .ge 9, 3, (0, 0, 0)), (10, .aload_n 0, 1, (0, 0, 0)), (11, .iconst 1, 1, (0, 0, 0)), (12, .putfield 54, 3, (9, 9, 190)), (15, .return_, 1, (0, 0, 0)), (16, .aload_n 0, 1, (0, 0, 0)), (17, .dup, 1, (0, 0, 0)), (18, .getfield 51, 3, (9, 7, 187)), (21, .iconst 1, 1, (0, 0, 0)), (22, .iadd, 1, (0, 0, 0)), (23, .putfield 51, 3, (9, 7, 187)), (26, .aload_n 0, 1, (0, 0, 0)), (27, .iload_n 1, 1, (0, 0, 0)), (28, .putfield 54, 3, (9, 9, 190)), (31, .iload_n 1, 1, (0, 0, 0)), (32, .bipush 61, 2, (0, 0, 0)), (34, .if_icmp .eq 21, 3, (0, 0, 0)), (37, .iload_n 1, 1, (0, 0, 0)), (38, .bipush 33, 2, (0, 0, 0)), (40, .if_icmp .eq 15, 3, (0, 0, 0)), (43, .iload_n 1, 1, (0, 0, 0)), (44, .bipush 60, 2, (0, 0, 0)), (46, .if_icmp .eq 9, 3, (0, 0, 0)), (49, .iload_n 1, 1, (0, 0, 0)), (50, .bipush 62, 2, (0, 0, 0)), (52, .if_icmp .ne 7, 3, (0, 0, 0)), (55, .iconst 1, 1, (0, 0, 0)), (56, .goto 4, 3, (0, 0, 0)), (59, .iconst 0, 1, (0, 0, 0)), (60, .istore_n 2, 1, (0, 0, 0)), (61, .iload_n 2, 1, (0, 0, 0)), (62, .ifCond .eq 35, 3, (0, 0, 0)), (65, .aload_n 0, 1, (0, 0, 0)), (66, .aload_n 0, 1, (0, 0, 0)), (67, .getfield 51, 3, (9, 7, 187)), (70, .invokevirtual 76, 3, (168, 0, 1311)), (73, .bipush 61, 2, (0, 0, 0)), (75, .if_icmp .ne 22, 3, (0, 0, 0)), (78, .aload_n 0, 1, (0, 0, 0)), (79, .dup, 1, (0, 0, 0)), (80, .getfield 51, 3, (9, 7, 187)), (83, .iconst 1, 1, (0, 0, 0)), (84, .iadd, 1, (0, 0, 0)), (85, .putfield 51, 3, (9, 7, 187)), (88, .aload_n 0, 1, (0, 0, 0)), (89, .iload_n 1, 1, (0, 0, 0)), (90, .sipush 128, 3, (0, 0, 0)), (93, .iadd, 1, (0, 0, 0)), (94, .putfield 54, 3, (9, 9, 190)), (97, .return_, 1, (0, 0, 0))]
set_option maxRecDepth 100000 in
def tb_X10_init : List pI := [(0, .aload_n 0, 1, (0, 0, 0)), (1, .invokespecial 3, 3, (-1, 0, 391)), (4, .aload_n 0, 1, (0, 0, 0)), (5, .new 9, 3, (3, 0, 392)), (8, .dup, 1, (0, 0, 0)), (9, .invokespecial 11, 3, (31, 1, 2)), (12, .putfield 12, 3, (10, 0, 519)), (15, .aload_n 0, 1, (0, 0, 0)), (16, .new 18, 3, (0, 0, 454)), (19, .dup, 1, (0, 0, 0)), (20, .invokespecial 20, 3, (0, 1, 3)), (23, .putfield 21, 3, (10, 1, 521)), (26, .aload_n 0, 1, (0, 0, 0)), (27, .new 25, 3, (7, 0, 482)), (30, .dup, 1, (0, 0, 0)), (31, .ldc 27, 2, (740000, 0, 484)), (33, .newarray .long, 2, (0, 0, 221)), (35, .sipush 20000, 3, (0, 0, 0)), (38, .ldc 28, 2, (32768, 0, 485)), (40, .invokespecial 29, 3, (145, 0, 486)), (43, .putfield 32, 3, (10, 2, 522)), (46, .aload_n 0, 1, (0, 0, 0)), (47, .new 25, 3, (7, 0, 482)), (50, .dup, 1, (0, 0, 0)), (51, .aload_n 0, 1, (0, 0, 0)), (52, .getfield 32, 3, (10, 2, 522)), (55, .getfield 36, 3, (7, 0, 491)), (58, .sipush 20000, 3, (0, 0, 0)), (61, .ldc 28, 2, (32768, 0, 485)), (63, .invokespecial 29, 3, (145, 0, 486)), (66, .putfield 40, 3, (10, 3, 524)), (69, .aload_n 0, 1, (0, 0, 0)), (70, .ldc 43, 2, (200000, 0, 517)), (72, .newarray .int, 2, (0, 0, 222)), (74, .putfield 44, 3, (10, 4, 526)), (77, .aload_n 0, 1, (0, 0, 0)), (78, .sipush 20000, 3, (0, 0, 0)), (81, .newarray .int, 2, (0, 0, 222)), (83, .putfield 48, 3, (10, 5, 527)), (86, .aload_n 0, 1, (0, 0, 0)), (87, .sipush 20001, 3, (0, 0, 0)), (90, .newarray .int, 2, (0, 0, 222)), (92, .putfield 51, 3, (10, 6, 528)), (95, .aload_n 0, 1, (0, 0, 0)), (96, .sipush 20000, 3, (0, 0, 0)), (99, .newarray .int, 2, (0, 0, 222)), (101, .putfield 54, 3, (10, 7, 529)), (104, .aload_n 0, 1, (0, 0, 0)), (105, .bipush 110, 2, (0, 0, 0)), (107, .newarray .long, 2, (0, 0, 221)), (109, .putfield 57, 3, (10, 8, 530)), (112, .aload_n 0, 1, (0, 0, 0)), (113, .iconst 4, 1, (0, 0, 0)), (114, .newarray .int, 2, (0, 0, 222)), (116, .putfield 60, 3, (10, 9, 531)), (119, .aload_n 0, 1, (0, 0, 0)), (120, .ldc 63, 2, (80000, 0, 518)), (122, .newarray .int, 2, (0, 0, 222)), (124, .putfield 64, 3, (10, 10, 532)), (127, .aload_n 0, 1, (0, 0, 0)), (128, .ldc 63, 2, (80000, 0, 518)), (130, .newarray .int, 2, (0, 0, 222)), (132, .putfield 67, 3, (10, 11, 533)), (135, .aload_n 0, 1, (0, 0, 0)), (136, .ldc 63, 2, (80000, 0, 518)), (138, .newarray .int, 2, (0, 0, 222)), (140, .putfield 70, 3, (10, 12, 534)), (143, .return_, 1, (0, 0, 0))]
set_option maxRecDepth 100000 in
def tb_X10_tryAll_0 : List pI := [(0, .aload_n 0, 1, (0, 0, 0)), (1, .iconst 0, 1, (0, 0, 0)), (2, .putfield 73, 3, (10, 17, 541)), (5, .aload_n 0, 1, (0, 0, 0)), (6, .iload_n 3, 1, (0, 0, 0)), (7, .putfield 77, 3, (10, 18, 543)), (10, .aload_n 0, 1, (0, 0, 0)), (11, .iconst 0, 1, (0, 0, 0)), (12, .putfield 80, 3, (10, 19, 545)), (15, .aload_n 0, 1, (0, 0, 0)), (16, .iconst 0, 1, (0, 0, 0)), (17, .putfield 83, 3, (10, 13, 535)), (20, .aload_n 0, 1, (0, 0, 0)), (21, .iconst 0, 1, (0, 0, 0)), (22, .putfield 87, 3, (10, 14, 537)), (25, .aload_n 0, 1, (0, 0, 0)), (26, .getfield 12, 3, (10, 0, 519)), (29, .aload_n 1, 1, (0, 0, 0)), (30, .iload_n 2, 1, (0, 0, 0)), (31, .invokevirtual 90, 3, (33, 0, 966)), (34, .aload_n 0, 1, (0, 0, 0)), (35, .getfield 12, 3, (10, 0, 519)), (38, .invokevirtual 94, 3, (35, 0, 967)), (41, .aload_n 0, 1, (0, 0, 0)), (42, .getfield 21, 3, (10, 1, 521)), (45, .aload_n 1, 1, (0, 0, 0)), (46, .invokevirtual 97, 3, (1, 0, 979)), (49, .aload_n 0, 1, (0, 0, 0)), (50, .getfield 32, 3, (10, 2, 522)), (53, .aload_n 0, 1, (0, 0, 0)), (54, .getfield 12, 3, (10, 0, 519)), (57, .getfield 101, 3, (3, 5, 409)), (60, .iconst 2, 1, (0, 0, 0)), (61, .idiv, 1, (0, 0, 0)), (62, .iload_n 2, 1, (0, 0, 0)), (63, .iconst 2, 1, (0, 0, 0)), (64, .if_icmp .ne 9, 3, (0, 0, 0)), (67, .sipush 6000, 3, (0, 0, 0)), (70, .goto 6, 3, (0, 0, 0)), (73, .sipush 20000, 3, (0, 0, 0)), (76, .invokevirtual 104, 3, (146, 0, 984)), (79, .aload_n 0, 1, (0, 0, 0)), (80, .getfield 40, 3, (10, 3, 524)), (83, .aload_n 0, 1, (0, 0, 0)), (84, .getfield 12, 3, (10, 0, 519)), (87, .getfield 107, 3, (3, 6, 411)), (90, .iconst 2, 1, (0, 0, 0)), (91, .idiv, 1, (0, 0, 0)), (92, .sipush 20000, 3, (0, 0, 0)), (95, .invokevirtual 104, 3, (146, 0, 984)), (98, .aload_n 0, 1, (0, 0, 0)), (99, .getfield 12, 3, (10, 0, 519)), (102, .aload_n 0, 1, (0, 0, 0)), (103, .getfield 57, 3, (10, 8, 530)), (106, .invokevirtual 110, 3, (38, 0, 989)), (109, .aload_n 0, 1, (0, 0, 0)), (110, .getfield 32, 3, (10, 2, 522)), (113, .aload_n 0, 1, (0, 0, 0)), (114, .getfield 57, 3, (10, 8, 530)), (117, .iconst 0, 1, (0, 0, 0)), (118, .invokevirtual 114, 3, (150, 0, 998)), (121, .pop, 1, (0, 0, 0)), (122, .aload_n 0, 1, (0, 0, 0)), (123, .getfield 54, 3, (10, 7, 529)), (126, .iconst 0, 1, (0, 0, 0)), (127, .iconst 0, 1, (0, 0, 0)), (128, .iastore, 1, (0, 0, 0)), (129, .aload_n 0, 1, (0, 0, 0)), (130, .getfield 48, 3, (10, 5, 527)), (133, .iconst 0, 1, (0, 0, 0)), (134, .iconst (-1), 1, (0, 0, 0)), (135, .iastore, 1, (0, 0, 0)), (136, .iconst 1, 1, (0, 0, 0)), (137, .istore 4, 2, (0, 0, 0)), (139, .iconst 0, 1, (0, 0, 0)), (140, .istore 5, 2, (0, 0, 0)), (142, .iload 5, 2, (0, 0, 0)), (144, .sipush 20000, 3, (0, 0, 0)), (147, .if_icmp .ge 106, 3, (0, 0, 0)), (150, .iload 5, 2, (0, 0, 0)), (152, .aload_n 0, 1, (0, 0, 0)), (153, .getfield 32, 3, (10, 2, 522)), (156, .getfield 118, 3, (7, 3, 498)), (159, .if_icmp .ge 94, 3, (0, 0, 0)), (162, .iload 4, 2, (0, 0, 0)), (164, .ifCond .eq 89, 3, (0, 0, 0)), (167, .aload_n 0, 1, (0, 0, 0)), (168, .iload 5, 2, (0, 0, 0)), (170, .invokevirtual 121, 3, (178, 0, 1018)), (173, .istore 6, 2, (0, 0, 0)), (175, .aload_n 0, 1, (0, 0, 0)), (176, .getfield 12, 3, (10, 0, 519)), (179, .getfield 125, 3, (3, 3, 406)), (182, .istore 7, 2, (0, 0, 0)), (184, .iconst 0, 1, (0, 0, 0)), (185, .istore 8, 2, (0, 0, 0)), (187, .iload 8, 2, (0, 0, 0)), (189, .iload 7, 2, (0, 0, 0)), (191, .if_icmp .ge 56, 3, (0, 0, 0)), (194, .iload 4, 2, (0, 0, 0)), (196, .ifCond .eq 51, 3, (0, 0, 0)), (199, .aload_n 0, 1, (0, 0, 0)), (200, .getfield 12, 3, (10, 0, 519)), (203, .getfield 128, 3, (3, 2, 404)), (206, .iload 8, 2, (0, 0, 0)), (208, .iaload, 1, (0, 0, 0)), (209, .istore 9, 2, (0, 0, 0)), (211, .iload 6, 2, (0, 0, 0)), (213, .ifCond .lt 10, 3, (0, 0, 0)), (216, .iload 9, 2, (0, 0, 0)), (218, .iload 6, 2, (0, 0, 0)), (220, .if_icmp .ne 14, 3, (0, 0, 0)), (223, .aload_n 0, 1, (0, 0, 0)), (224, .iload 5, 2, (0, 0, 0)), (226, .iload 9, 2, (0, 0, 0)), (228, .invokevirtual 131, 3, (180, 0, 1086)), (231, .ifCond .eq 7, 3, (0, 0, 0)), (234, .iconst 1, 1, (0, 0, 0)), (235, .goto 4, 3, (0, 0, 0)), (238, .iconst 0, 1, (0, 0, 0))]
set_option maxRecDepth 100000 in
def tb_X10_tryAll_1 : List pI := [(239, .istore 4, 2, (0, 0, 0)), (241, .iinc 8 1, 3, (0, 0, 0)), (244, .goto (-57), 3, (0, 0, 0)), (247, .iinc 5 1, 3, (0, 0, 0)), (250, .goto (-108), 3, (0, 0, 0)), (253, .aload_n 0, 1, (0, 0, 0)), (254, .getfield 51, 3, (10, 6, 528)), (257, .aload_n 0, 1, (0, 0, 0)), (258, .getfield 32, 3, (10, 2, 522)), (261, .getfield 118, 3, (7, 3, 498)), (264, .aload_n 0, 1, (0, 0, 0)), (265, .getfield 83, 3, (10, 13, 535)), (268, .iastore, 1, (0, 0, 0)), (269, .aload_n 0, 1, (0, 0, 0)), (270, .iload 4, 2, (0, 0, 0)), (272, .putfield 73, 3, (10, 17, 541)), (275, .iload 4, 2, (0, 0, 0)), (277, .ifCond .eq 13, 3, (0, 0, 0)), (280, .aload_n 0, 1, (0, 0, 0)), (281, .getfield 32, 3, (10, 2, 522)), (284, .getfield 118, 3, (7, 3, 498)), (287, .goto 5, 3, (0, 0, 0)), (290, .bipush (-3), 2, (0, 0, 0)), (292, .ireturn, 1, (0, 0, 0))]
def tb_X10_tryAll : List pI := tb_X10_tryAll_0 ++ (tb_X10_tryAll_1)
set_option maxRecDepth 100000 in
def tb_X10_lookAround : List pI := [(0, .aload_n 0, 1, (0, 0, 0)), (1, .getfield 12, 3, (10, 0, 519)), (4, .aload_n 0, 1, (0, 0, 0)), (5, .getfield 32, 3, (10, 2, 522)), (8, .getfield 36, 3, (7, 0, 491)), (11, .iload_n 1, 1, (0, 0, 0)), (12, .aload_n 0, 1, (0, 0, 0)), (13, .getfield 32, 3, (10, 2, 522)), (16, .getfield 135, 3, (7, 4, 501)), (19, .imul, 1, (0, 0, 0)), (20, .invokevirtual 138, 3, (39, 0, 1022)), (23, .aload_n 0, 1, (0, 0, 0)), (24, .getfield 12, 3, (10, 0, 519)), (27, .invokevirtual 142, 3, (40, 0, 1026)), (30, .aload_n 0, 1, (0, 0, 0)), (31, .getfield 12, 3, (10, 0, 519)), (34, .invokevirtual 145, 3, (42, 0, 1031)), (37, .istore_n 2, 1, (0, 0, 0)), (38, .iconst 0, 1, (0, 0, 0)), (39, .istore_n 3, 1, (0, 0, 0)), (40, .iload_n 3, 1, (0, 0, 0)), (41, .iload_n 2, 1, (0, 0, 0)), (42, .if_icmp .ge 32, 3, (0, 0, 0)), (45, .aload_n 0, 1, (0, 0, 0)), (46, .getfield 54, 3, (10, 7, 529)), (49, .iload_n 1, 1, (0, 0, 0)), (50, .dup2, 1, (0, 0, 0)), (51, .iaload, 1, (0, 0, 0)), (52, .iconst 1, 1, (0, 0, 0)), (53, .aload_n 0, 1, (0, 0, 0)), (54, .getfield 12, 3, (10, 0, 519)), (57, .getfield 128, 3, (3, 2, 404)), (60, .iload_n 3, 1, (0, 0, 0)), (61, .iaload, 1, (0, 0, 0)), (62, .bipush 10, 2, (0, 0, 0)), (64, .idiv, 1, (0, 0, 0)), (65, .ishl, 1, (0, 0, 0)), (66, .ior, 1, (0, 0, 0)), (67, .iastore, 1, (0, 0, 0)), (68, .iinc 3 1, 3, (0, 0, 0)), (71, .goto (-31), 3, (0, 0, 0)), (74, .aload_n 0, 1, (0, 0, 0)), (75, .getfield 51, 3, (10, 6, 528)), (78, .iload_n 1, 1, (0, 0, 0)), (79, .aload_n 0, 1, (0, 0, 0)), (80, .getfield 83, 3, (10, 13, 535)), (83, .iastore, 1, (0, 0, 0)), (84, .aload_n 0, 1, (0, 0, 0)), (85, .getfield 21, 3, (10, 1, 521)), (88, .aload_n 0, 1, (0, 0, 0)), (89, .getfield 12, 3, (10, 0, 519)), (92, .iload_n 1, 1, (0, 0, 0)), (93, .invokevirtual 149, 3, (2, 0, 1032)), (96, .iload_n 2, 1, (0, 0, 0)), (97, .ifCond .ne 8, 3, (0, 0, 0)), (100, .aload_n 0, 1, (0, 0, 0)), (101, .iload_n 1, 1, (0, 0, 0)), (102, .invokevirtual 153, 3, (182, 0, 1058)), (105, .aload_n 0, 1, (0, 0, 0)), (106, .getfield 77, 3, (10, 18, 543)), (109, .ifCond .eq 22, 3, (0, 0, 0)), (112, .aload_n 0, 1, (0, 0, 0)), (113, .getfield 54, 3, (10, 7, 529)), (116, .iload_n 1, 1, (0, 0, 0)), (117, .iaload, 1, (0, 0, 0)), (118, .bipush 16, 2, (0, 0, 0)), (120, .iand, 1, (0, 0, 0)), (121, .ifCond .ne 10, 3, (0, 0, 0)), (124, .aload_n 0, 1, (0, 0, 0)), (125, .invokevirtual 157, 3, (179, 0, 1082)), (128, .goto 4, 3, (0, 0, 0)), (131, .iconst (-1), 1, (0, 0, 0)), (132, .ireturn, 1, (0, 0, 0))]
set_option maxRecDepth 100000 in
def tb_X10_quietStep : List pI := [(0, .iconst 0, 1, (0, 0, 0)), (1, .istore_n 1, 1, (0, 0, 0)), (2, .iload_n 1, 1, (0, 0, 0)), (3, .aload_n 0, 1, (0, 0, 0)), (4, .getfield 12, 3, (10, 0, 519)), (7, .getfield 160, 3, (3, 7, 416)), (10, .getfield 164, 3, (5, 11, 294)), (13, .if_icmp .ge 70, 3, (0, 0, 0)), (16, .aload_n 0, 1, (0, 0, 0)), (17, .getfield 12, 3, (10, 0, 519)), (20, .getfield 169, 3, (3, 0, 400)), (23, .iconst 0, 1, (0, 0, 0)), (24, .iload_n 1, 1, (0, 0, 0)), (25, .iadd, 1, (0, 0, 0)), (26, .iaload, 1, (0, 0, 0)), (27, .iconst 1, 1, (0, 0, 0)), (28, .if_icmp .ne 49, 3, (0, 0, 0)), (31, .aload_n 0, 1, (0, 0, 0)), (32, .getfield 12, 3, (10, 0, 519)), (35, .getfield 160, 3, (3, 7, 416)), (38, .getfield 172, 3, (5, 6, 273)), (41, .iconst 0, 1, (0, 0, 0)), (42, .aaload, 1, (0, 0, 0)), (43, .aload_n 0, 1, (0, 0, 0)), (44, .getfield 12, 3, (10, 0, 519)), (47, .getfield 169, 3, (3, 0, 400)), (50, .iconst 4, 1, (0, 0, 0)), (51, .iload_n 1, 1, (0, 0, 0)), (52, .iadd, 1, (0, 0, 0)), (53, .iaload, 1, (0, 0, 0)), (54, .iaload, 1, (0, 0, 0)), (55, .istore_n 2, 1, (0, 0, 0)), (56, .iload_n 2, 1, (0, 0, 0)), (57, .ifCond .eq 15, 3, (0, 0, 0)), (60, .iload_n 2, 1, (0, 0, 0)), (61, .bipush 13, 2, (0, 0, 0)), (63, .if_icmp .lt 14, 3, (0, 0, 0)), (66, .iload_n 2, 1, (0, 0, 0)), (67, .bipush 17, 2, (0, 0, 0)), (69, .if_icmp .gt 8, 3, (0, 0, 0)), (72, .iload_n 1, 1, (0, 0, 0)), (73, .bipush 10, 2, (0, 0, 0)), (75, .imul, 1, (0, 0, 0)), (76, .ireturn, 1, (0, 0, 0)), (77, .iinc 1 1, 3, (0, 0, 0)), (80, .goto (-78), 3, (0, 0, 0)), (83, .iconst (-1), 1, (0, 0, 0)), (84, .ireturn, 1, (0, 0, 0))]
set_option maxRecDepth 100000 in
def tb_X10_tryStep : List pI := [(0, .iload_n 2, 1, (0, 0, 0)), (1, .bipush 10, 2, (0, 0, 0)), (3, .idiv, 1, (0, 0, 0)), (4, .istore_n 3, 1, (0, 0, 0)), (5, .iload_n 2, 1, (0, 0, 0)), (6, .bipush 10, 2, (0, 0, 0)), (8, .irem, 1, (0, 0, 0)), (9, .istore 4, 2, (0, 0, 0)), (11, .aload_n 0, 1, (0, 0, 0)), (12, .getfield 12, 3, (10, 0, 519)), (15, .invokevirtual 176, 3, (41, 0, 1090)), (18, .iload 4, 2, (0, 0, 0)), (20, .bipush 9, 2, (0, 0, 0)), (22, .if_icmp .eq 15, 3, (0, 0, 0)), (25, .aload_n 0, 1, (0, 0, 0)), (26, .getfield 21, 3, (10, 1, 521)), (29, .aload_n 0, 1, (0, 0, 0)), (30, .getfield 12, 3, (10, 0, 519)), (33, .iload_n 3, 1, (0, 0, 0)), (34, .invokevirtual 179, 3, (5, 0, 1094)), (37, .aload_n 0, 1, (0, 0, 0)), (38, .getfield 12, 3, (10, 0, 519)), (41, .iload_n 3, 1, (0, 0, 0)), (42, .iload 4, 2, (0, 0, 0)), (44, .invokevirtual 182, 3, (52, 0, 1098)), (47, .aload_n 0, 1, (0, 0, 0)), (48, .getfield 12, 3, (10, 0, 519)), (51, .aload_n 0, 1, (0, 0, 0)), (52, .getfield 57, 3, (10, 8, 530)), (55, .invokevirtual 110, 3, (38, 0, 989)), (58, .aload_n 0, 1, (0, 0, 0)), (59, .getfield 32, 3, (10, 2, 522)), (62, .getfield 118, 3, (7, 3, 498)), (65, .istore 5, 2, (0, 0, 0)), (67, .aload_n 0, 1, (0, 0, 0)), (68, .getfield 32, 3, (10, 2, 522)), (71, .aload_n 0, 1, (0, 0, 0)), (72, .getfield 57, 3, (10, 8, 530)), (75, .iconst 0, 1, (0, 0, 0)), (76, .invokevirtual 114, 3, (150, 0, 998)), (79, .istore 6, 2, (0, 0, 0)), (81, .iload 6, 2, (0, 0, 0)), (83, .ifCond .lt 12, 3, (0, 0, 0)), (86, .aload_n 0, 1, (0, 0, 0)), (87, .getfield 83, 3, (10, 13, 535)), (90, .ldc 43, 2, (200000, 0, 517)), (92, .if_icmp .lt 5, 3, (0, 0, 0)), (95, .iconst 0, 1, (0, 0, 0)), (96, .ireturn, 1, (0, 0, 0)), (97, .iload_n 3, 1, (0, 0, 0)), (98, .iconst 4, 1, (0, 0, 0)), (99, .ishl, 1, (0, 0, 0)), (100, .iload 4, 2, (0, 0, 0)), (102, .ior, 1, (0, 0, 0)), (103, .istore 7, 2, (0, 0, 0)), (105, .iload 6, 2, (0, 0, 0)), (107, .iload 5, 2, (0, 0, 0)), (109, .if_icmp .ne 44, 3, (0, 0, 0)), (112, .aload_n 0, 1, (0, 0, 0)), (113, .getfield 48, 3, (10, 5, 527)), (116, .iload 6, 2, (0, 0, 0)), (118, .iload_n 1, 1, (0, 0, 0)), (119, .bipush 6, 2, (0, 0, 0)), (121, .ishl, 1, (0, 0, 0)), (122, .iload 7, 2, (0, 0, 0)), (124, .ior, 1, (0, 0, 0)), (125, .iastore, 1, (0, 0, 0)), (126, .aload_n 0, 1, (0, 0, 0)), (127, .getfield 54, 3, (10, 7, 529)), (130, .iload 6, 2, (0, 0, 0)), (132, .aload_n 0, 1, (0, 0, 0)), (133, .aload_n 0, 1, (0, 0, 0)), (134, .getfield 12, 3, (10, 0, 519)), (137, .getfield 185, 3, (3, 9, 420)), (140, .invokevirtual 188, 3, (181, 0, 1099)), (143, .ifCond .eq 8, 3, (0, 0, 0)), (146, .bipush 16, 2, (0, 0, 0)), (148, .goto 4, 3, (0, 0, 0)), (151, .iconst 0, 1, (0, 0, 0)), (152, .iastore, 1, (0, 0, 0)), (153, .aload_n 0, 1, (0, 0, 0)), (154, .getfield 44, 3, (10, 4, 526)), (157, .aload_n 0, 1, (0, 0, 0)), (158, .getfield 83, 3, (10, 13, 535)), (161, .iload 6, 2, (0, 0, 0)), (163, .bipush 6, 2, (0, 0, 0)), (165, .ishl, 1, (0, 0, 0)), (166, .iload 7, 2, (0, 0, 0)), (168, .ior, 1, (0, 0, 0)), (169, .iastore, 1, (0, 0, 0)), (170, .aload_n 0, 1, (0, 0, 0)), (171, .dup, 1, (0, 0, 0)), (172, .getfield 83, 3, (10, 13, 535)), (175, .iconst 1, 1, (0, 0, 0)), (176, .iadd, 1, (0, 0, 0)), (177, .putfield 83, 3, (10, 13, 535)), (180, .iconst 1, 1, (0, 0, 0)), (181, .ireturn, 1, (0, 0, 0))]
set_option maxRecDepth 100000 in
def tb_X10_isWhile : List pI := [(0, .iload_n 1, 1, (0, 0, 0)), (1, .ifCond .lt 26, 3, (0, 0, 0)), (4, .aload_n 0, 1, (0, 0, 0)), (5, .getfield 12, 3, (10, 0, 519)), (8, .getfield 160, 3, (3, 7, 416)), (11, .getfield 172, 3, (5, 6, 273)), (14, .iconst 0, 1, (0, 0, 0)), (15, .aaload, 1, (0, 0, 0)), (16, .iload_n 1, 1, (0, 0, 0)), (17, .iaload, 1, (0, 0, 0)), (18, .bipush 18, 2, (0, 0, 0)), (20, .if_icmp .ne 7, 3, (0, 0, 0)), (23, .iconst 1, 1, (0, 0, 0)), (24, .goto 4, 3, (0, 0, 0)), (27, .iconst 0, 1, (0, 0, 0)), (28, .ireturn, 1, (0, 0, 0))]
set_option maxRecDepth 100000 in
def tb_X10_noteEnd : List pI := [(0, .aload_n 0, 1, (0, 0, 0)), (1, .dup, 1, (0, 0, 0)), (2, .getfield 87, 3, (10, 14, 537)), (5, .iconst 1, 1, (0, 0, 0)), (6, .iadd, 1, (0, 0, 0)), (7, .putfield 87, 3, (10, 14, 537)), (10, .aload_n 0, 1, (0, 0, 0)), (11, .getfield 12, 3, (10, 0, 519)), (14, .getfield 169, 3, (3, 0, 400)), (17, .sipush 233, 3, (0, 0, 0)), (20, .iaload, 1, (0, 0, 0)), (21, .ifCond .eq 26, 3, (0, 0, 0)), (24, .aload_n 0, 1, (0, 0, 0)), (25, .getfield 54, 3, (10, 7, 529)), (28, .iload_n 1, 1, (0, 0, 0)), (29, .dup2, 1, (0, 0, 0)), (30, .iaload, 1, (0, 0, 0)), (31, .bipush 32, 2, (0, 0, 0)), (33, .ior, 1, (0, 0, 0)), (34, .iastore, 1, (0, 0, 0)), (35, .aload_n 0, 1, (0, 0, 0)), (36, .getfield 21, 3, (10, 1, 521)), (39, .aload_n 0, 1, (0, 0, 0)), (40, .getfield 12, 3, (10, 0, 519)), (43, .iload_n 1, 1, (0, 0, 0)), (44, .invokevirtual 192, 3, (7, 0, 1062)), (47, .aload_n 0, 1, (0, 0, 0)), (48, .getfield 54, 3, (10, 7, 529)), (51, .iload_n 1, 1, (0, 0, 0)), (52, .dup2, 1, (0, 0, 0)), (53, .iaload, 1, (0, 0, 0)), (54, .aload_n 0, 1, (0, 0, 0)), (55, .getfield 40, 3, (10, 3, 524)), (58, .iload_n 1, 1, (0, 0, 0)), (59, .aload_n 0, 1, (0, 0, 0)), (60, .getfield 32, 3, (10, 2, 522)), (63, .getfield 135, 3, (7, 4, 501)), (66, .imul, 1, (0, 0, 0)), (67, .invokevirtual 195, 3, (151, 0, 1078)), (70, .iconst 1, 1, (0, 0, 0)), (71, .iadd, 1, (0, 0, 0)), (72, .bipush 8, 2, (0, 0, 0)), (74, .ishl, 1, (0, 0, 0)), (75, .ior, 1, (0, 0, 0)), (76, .iastore, 1, (0, 0, 0)), (77, .return_, 1, (0, 0, 0))]
set_option maxRecDepth 100000 in
def tb_X10_hasOutcome : List pI := [(0, .aload_n 0, 1, (0, 0, 0)), (1, .getfield 73, 3, (10, 17, 541)), (4, .ifCond .eq 22, 3, (0, 0, 0)), (7, .iload_n 1, 1, (0, 0, 0)), (8, .ifCond .lt 18, 3, (0, 0, 0)), (11, .iload_n 1, 1, (0, 0, 0)), (12, .aload_n 0, 1, (0, 0, 0)), (13, .getfield 40, 3, (10, 3, 524)), (16, .getfield 118, 3, (7, 3, 498)), (19, .if_icmp .ge 7, 3, (0, 0, 0)), (22, .iconst 1, 1, (0, 0, 0)), (23, .goto 4, 3, (0, 0, 0)), (26, .iconst 0, 1, (0, 0, 0)), (27, .ireturn, 1, (0, 0, 0))]
set_option maxRecDepth 100000 in
def tb_X10_stateOfOutcome : List pI := [(0, .aload_n 0, 1, (0, 0, 0)), (1, .getfield 32, 3, (10, 2, 522)), (4, .getfield 135, 3, (7, 4, 501)), (7, .ifCond .le 23, 3, (0, 0, 0)), (10, .aload_n 0, 1, (0, 0, 0)), (11, .getfield 40, 3, (10, 3, 524)), (14, .getfield 198, 3, (7, 1, 494)), (17, .iload_n 1, 1, (0, 0, 0)), (18, .iaload, 1, (0, 0, 0)), (19, .aload_n 0, 1, (0, 0, 0)), (20, .getfield 32, 3, (10, 2, 522)), (23, .getfield 135, 3, (7, 4, 501)), (26, .idiv, 1, (0, 0, 0)), (27, .goto 4, 3, (0, 0, 0)), (30, .iconst 0, 1, (0, 0, 0)), (31, .ireturn, 1, (0, 0, 0))]
set_option maxRecDepth 100000 in
def tb_X10_slotOfOutcome : List pI := [(0, .aload_n 0, 1, (0, 0, 0)), (1, .getfield 12, 3, (10, 0, 519)), (4, .aload_n 0, 1, (0, 0, 0)), (5, .getfield 32, 3, (10, 2, 522)), (8, .getfield 36, 3, (7, 0, 491)), (11, .aload_n 0, 1, (0, 0, 0)), (12, .getfield 40, 3, (10, 3, 524)), (15, .getfield 198, 3, (7, 1, 494)), (18, .iload_n 1, 1, (0, 0, 0)), (19, .iaload, 1, (0, 0, 0)), (20, .invokevirtual 138, 3, (39, 0, 1022)), (23, .aload_n 0, 1, (0, 0, 0)), (24, .getfield 12, 3, (10, 0, 519)), (27, .getfield 169, 3, (3, 0, 400)), (30, .iload_n 2, 1, (0, 0, 0)), (31, .iaload, 1, (0, 0, 0)), (32, .ireturn, 1, (0, 0, 0))]
set_option maxRecDepth 100000 in
def tb_X10_stateOf : List pI := [(0, .iload_n 0, 1, (0, 0, 0)), (1, .bipush 6, 2, (0, 0, 0)), (3, .ishr, 1, (0, 0, 0)), (4, .ireturn, 1, (0, 0, 0))]
set_option maxRecDepth 100000 in
def tb_X10_threadOf : List pI := [(0, .iload_n 0, 1, (0, 0, 0)), (1, .iconst 4, 1, (0, 0, 0)), (2, .ishr, 1, (0, 0, 0)), (3, .iconst 3, 1, (0, 0, 0)), (4, .iand, 1, (0, 0, 0)), (5, .ireturn, 1, (0, 0, 0))]
set_option maxRecDepth 100000 in
def tb_X10_fewestSwitches : List pI := [(0, .aload_n 0, 1, (0, 0, 0)), (1, .getfield 80, 3, (10, 19, 545)), (4, .ifCond .ne 12, 3, (0, 0, 0)), (7, .aload_n 0, 1, (0, 0, 0)), (8, .invokevirtual 207, 3, (193, 0, 1584)), (11, .aload_n 0, 1, (0, 0, 0)), (12, .iconst 1, 1, (0, 0, 0)), (13, .putfield 80, 3, (10, 19, 545)), (16, .aload_n 0, 1, (0, 0, 0)), (17, .iload_n 1, 1, (0, 0, 0)), (18, .invokevirtual 210, 3, (185, 0, 1603)), (21, .istore_n 2, 1, (0, 0, 0)), (22, .iload_n 2, 1, (0, 0, 0)), (23, .ifCond .ne 5, 3, (0, 0, 0)), (26, .iconst 0, 1, (0, 0, 0)), (27, .ireturn, 1, (0, 0, 0)), (28, .ldc 43, 2, (200000, 0, 517)), (30, .istore_n 3, 1, (0, 0, 0)), (31, .iload_n 2, 1, (0, 0, 0)), (32, .istore 4, 2, (0, 0, 0)), (34, .iload 4, 2, (0, 0, 0)), (36, .aload_n 0, 1, (0, 0, 0)), (37, .getfield 32, 3, (10, 2, 522)), (40, .getfield 118, 3, (7, 3, 498)), (43, .if_icmp .ge 57, 3, (0, 0, 0)), (46, .iconst 0, 1, (0, 0, 0)), (47, .istore 5, 2, (0, 0, 0)), (49, .iload 5, 2, (0, 0, 0)), (51, .iconst 4, 1, (0, 0, 0)), (52, .if_icmp .ge 42, 3, (0, 0, 0)), (55, .aload_n 0, 1, (0, 0, 0)), (56, .getfield 54, 3, (10, 7, 529)), (59, .iload 4, 2, (0, 0, 0)), (61, .iaload, 1, (0, 0, 0)), (62, .bipush 8, 2, (0, 0, 0)), (64, .ishr, 1, (0, 0, 0)), (65, .iload_n 1, 1, (0, 0, 0)), (66, .iconst 1, 1, (0, 0, 0)), (67, .iadd, 1, (0, 0, 0)), (68, .if_icmp .ne 26, 3, (0, 0, 0)), (71, .iload_n 3, 1, (0, 0, 0)), (72, .aload_n 0, 1, (0, 0, 0)), (73, .getfield 64, 3, (10, 10, 532)), (76, .iload 4, 2, (0, 0, 0)), (78, .iconst 4, 1, (0, 0, 0)), (79, .imul, 1, (0, 0, 0)), (80, .iload 5, 2, (0, 0, 0)), (82, .iadd, 1, (0, 0, 0)), (83, .iaload, 1, (0, 0, 0)), (84, .invokestatic 213, 3, (412, 0, 1604)), (87, .istore_n 3, 1, (0, 0, 0)), (88, .iinc 5 1, 3, (0, 0, 0)), (91, .goto (-42), 3, (0, 0, 0)), (94, .iinc 4 1, 3, (0, 0, 0)), (97, .goto (-63), 3, (0, 0, 0)), (100, .iload_n 3, 1, (0, 0, 0)), (101, .ireturn, 1, (0, 0, 0))]
set_option maxRecDepth 100000 in
def tb_X10_countSwitches : List pI := [(0, .aload_n 0, 1, (0, 0, 0)), (1, .getfield 64, 3, (10, 10, 532)), (4, .ldc 43, 2, (200000, 0, 517)), (6, .invokestatic 219, 3, (435, 0, 1588)), (9, .aload_n 0, 1, (0, 0, 0)), (10, .iconst 0, 1, (0, 0, 0)), (11, .putfield 225, 3, (10, 15, 539)), (14, .aload_n 0, 1, (0, 0, 0)), (15, .getfield 51, 3, (10, 6, 528)), (18, .iconst 0, 1, (0, 0, 0)), (19, .iaload, 1, (0, 0, 0)), (20, .istore_n 1, 1, (0, 0, 0)), (21, .iload_n 1, 1, (0, 0, 0)), (22, .aload_n 0, 1, (0, 0, 0)), (23, .getfield 51, 3, (10, 6, 528)), (26, .iconst 1, 1, (0, 0, 0)), (27, .iaload, 1, (0, 0, 0)), (28, .if_icmp .ge 36, 3, (0, 0, 0)), (31, .aload_n 0, 1, (0, 0, 0)), (32, .aload_n 0, 1, (0, 0, 0)), (33, .getfield 44, 3, (10, 4, 526)), (36, .iload_n 1, 1, (0, 0, 0)), (37, .iaload, 1, (0, 0, 0)), (38, .invokestatic 201, 3, (187, 0, 1589)), (41, .iconst 4, 1, (0, 0, 0)), (42, .imul, 1, (0, 0, 0)), (43, .aload_n 0, 1, (0, 0, 0)), (44, .getfield 44, 3, (10, 4, 526)), (47, .iload_n 1, 1, (0, 0, 0)), (48, .iaload, 1, (0, 0, 0)), (49, .invokestatic 204, 3, (188, 0, 1592)), (52, .iadd, 1, (0, 0, 0)), (53, .iconst 0, 1, (0, 0, 0)), (54, .iconst 0, 1, (0, 0, 0)), (55, .invokevirtual 228, 3, (195, 0, 1595)), (58, .iinc 1 1, 3, (0, 0, 0)), (61, .goto (-40), 3, (0, 0, 0)), (64, .iconst 0, 1, (0, 0, 0)), (65, .istore_n 1, 1, (0, 0, 0)), (66, .iload_n 1, 1, (0, 0, 0)), (67, .ldc 43, 2, (200000, 0, 517)), (69, .if_icmp .ge 97, 3, (0, 0, 0)), (72, .aload_n 0, 1, (0, 0, 0)), (73, .getfield 225, 3, (10, 15, 539)), (76, .ifCond .le 90, 3, (0, 0, 0)), (79, .aload_n 0, 1, (0, 0, 0)), (80, .iconst 0, 1, (0, 0, 0)), (81, .putfield 232, 3, (10, 16, 540)), (84, .iconst 0, 1, (0, 0, 0)), (85, .istore_n 2, 1, (0, 0, 0)), (86, .iload_n 2, 1, (0, 0, 0)), (87, .aload_n 0, 1, (0, 0, 0)), (88, .getfield 67, 3, (10, 11, 533)), (91, .arraylength, 1, (0, 0, 0)), (92, .if_icmp .ge 43, 3, (0, 0, 0)), (95, .iload_n 2, 1, (0, 0, 0)), (96, .aload_n 0, 1, (0, 0, 0)), (97, .getfield 225, 3, (10, 15, 539)), (100, .if_icmp .ge 35, 3, (0, 0, 0)), (103, .aload_n 0, 1, (0, 0, 0)), (104, .getfield 64, 3, (10, 10, 532)), (107, .aload_n 0, 1, (0, 0, 0)), (108, .getfield 67, 3, (10, 11, 533)), (111, .iload_n 2, 1, (0, 0, 0)), (112, .iaload, 1, (0, 0, 0)), (113, .iaload, 1, (0, 0, 0)), (114, .iload_n 1, 1, (0, 0, 0)), (115, .if_icmp .ne 14, 3, (0, 0, 0)), (118, .aload_n 0, 1, (0, 0, 0)), (119, .aload_n 0, 1, (0, 0, 0)), (120, .getfield 67, 3, (10, 11, 533)), (123, .iload_n 2, 1, (0, 0, 0)), (124, .iaload, 1, (0, 0, 0)), (125, .iload_n 1, 1, (0, 0, 0)), (126, .invokevirtual 235, 3, (194, 0, 1599)), (129, .iinc 2 1, 3, (0, 0, 0)), (132, .goto (-46), 3, (0, 0, 0)), (135, .aload_n 0, 1, (0, 0, 0)), (136, .aload_n 0, 1, (0, 0, 0)), (137, .getfield 232, 3, (10, 16, 540)), (140, .putfield 225, 3, (10, 15, 539)), (143, .aload_n 0, 1, (0, 0, 0)), (144, .getfield 70, 3, (10, 12, 534)), (147, .iconst 0, 1, (0, 0, 0)), (148, .aload_n 0, 1, (0, 0, 0)), (149, .getfield 67, 3, (10, 11, 533)), (152, .iconst 0, 1, (0, 0, 0)), (153, .aload_n 0, 1, (0, 0, 0)), (154, .getfield 232, 3, (10, 16, 540)), (157, .invokestatic 238, 3, (-2, 0, 1127)), (160, .iinc 1 1, 3, (0, 0, 0)), (163, .goto (-97), 3, (0, 0, 0)), (166, .return_, 1, (0, 0, 0))]
set_option maxRecDepth 100000 in
def tb_X10_leaveFrom : List pI := [(0, .iload_n 1, 1, (0, 0, 0)), (1, .iconst 4, 1, (0, 0, 0)), (2, .idiv, 1, (0, 0, 0)), (3, .istore_n 3, 1, (0, 0, 0)), (4, .iload_n 1, 1, (0, 0, 0)), (5, .iconst 4, 1, (0, 0, 0)), (6, .irem, 1, (0, 0, 0)), (7, .istore 4, 2, (0, 0, 0)), (9, .aload_n 0, 1, (0, 0, 0)), (10, .getfield 54, 3, (10, 7, 529)), (13, .iload_n 3, 1, (0, 0, 0)), (14, .iaload, 1, (0, 0, 0)), (15, .iload 4, 2, (0, 0, 0)), (17, .ishr, 1, (0, 0, 0)), (18, .iconst 1, 1, (0, 0, 0)), (19, .iand, 1, (0, 0, 0)), (20, .ifCond .eq 7, 3, (0, 0, 0)), (23, .iconst 1, 1, (0, 0, 0)), (24, .goto 4, 3, (0, 0, 0)), (27, .iconst 0, 1, (0, 0, 0)), (28, .istore 5, 2, (0, 0, 0)), (30, .aload_n 0, 1, (0, 0, 0)), (31, .getfield 51, 3, (10, 6, 528)), (34, .iload_n 3, 1, (0, 0, 0)), (35, .iaload, 1, (0, 0, 0)), (36, .istore 6, 2, (0, 0, 0)), (38, .iload 6, 2, (0, 0, 0)), (40, .aload_n 0, 1, (0, 0, 0)), (41, .getfield 51, 3, (10, 6, 528)), (44, .iload_n 3, 1, (0, 0, 0)), (45, .iconst 1, 1, (0, 0, 0)), (46, .iadd, 1, (0, 0, 0)), (47, .iaload, 1, (0, 0, 0)), (48, .if_icmp .ge 58, 3, (0, 0, 0)), (51, .aload_n 0, 1, (0, 0, 0)), (52, .getfield 44, 3, (10, 4, 526)), (55, .iload 6, 2, (0, 0, 0)), (57, .iaload, 1, (0, 0, 0)), (58, .invokestatic 204, 3, (188, 0, 1592)), (61, .istore 7, 2, (0, 0, 0)), (63, .aload_n 0, 1, (0, 0, 0)), (64, .aload_n 0, 1, (0, 0, 0)), (65, .getfield 44, 3, (10, 4, 526)), (68, .iload 6, 2, (0, 0, 0)), (70, .iaload, 1, (0, 0, 0)), (71, .invokestatic 201, 3, (187, 0, 1589)), (74, .iconst 4, 1, (0, 0, 0)), (75, .imul, 1, (0, 0, 0)), (76, .iload 7, 2, (0, 0, 0)), (78, .iadd, 1, (0, 0, 0)), (79, .iload_n 2, 1, (0, 0, 0)), (80, .iload 7, 2, (0, 0, 0)), (82, .iload 4, 2, (0, 0, 0)), (84, .if_icmp .eq 12, 3, (0, 0, 0)), (87, .iload 5, 2, (0, 0, 0)), (89, .ifCond .eq 7, 3, (0, 0, 0)), (92, .iconst 1, 1, (0, 0, 0)), (93, .goto 4, 3, (0, 0, 0)), (96, .iconst 0, 1, (0, 0, 0)), (97, .invokevirtual 228, 3, (195, 0, 1595)), (100, .iinc 6 1, 3, (0, 0, 0)), (103, .goto (-65), 3, (0, 0, 0)), (106, .return_, 1, (0, 0, 0))]
set_option maxRecDepth 100000 in
def tb_X10_reach : List pI := [(0, .aload_n 0, 1, (0, 0, 0)), (1, .getfield 64, 3, (10, 10, 532)), (4, .iload_n 1, 1, (0, 0, 0)), (5, .iaload, 1, (0, 0, 0)), (6, .iload_n 2, 1, (0, 0, 0)), (7, .iload_n 3, 1, (0, 0, 0)), (8, .iadd, 1, (0, 0, 0)), (9, .if_icmp .gt 4, 3, (0, 0, 0)), (12, .return_, 1, (0, 0, 0)), (13, .aload_n 0, 1, (0, 0, 0)), (14, .getfield 64, 3, (10, 10, 532)), (17, .iload_n 1, 1, (0, 0, 0)), (18, .iload_n 2, 1, (0, 0, 0)), (19, .iload_n 3, 1, (0, 0, 0)), (20, .iadd, 1, (0, 0, 0)), (21, .iastore, 1, (0, 0, 0)), (22, .iload_n 3, 1, (0, 0, 0)), (23, .ifCond .ne 26, 3, (0, 0, 0)), (26, .aload_n 0, 1, (0, 0, 0)), (27, .getfield 67, 3, (10, 11, 533)), (30, .aload_n 0, 1, (0, 0, 0)), (31, .getfield 225, 3, (10, 15, 539)), (34, .iload_n 1, 1, (0, 0, 0)), (35, .iastore, 1, (0, 0, 0)), (36, .aload_n 0, 1, (0, 0, 0)), (37, .dup, 1, (0, 0, 0)), (38, .getfield 225, 3, (10, 15, 539)), (41, .iconst 1, 1, (0, 0, 0)), (42, .iadd, 1, (0, 0, 0)), (43, .putfield 225, 3, (10, 15, 539)), (46, .goto 23, 3, (0, 0, 0)), (49, .aload_n 0, 1, (0, 0, 0)), (50, .getfield 70, 3, (10, 12, 534)), (53, .aload_n 0, 1, (0, 0, 0)), (54, .getfield 232, 3, (10, 16, 540)), (57, .iload_n 1, 1, (0, 0, 0)), (58, .iastore, 1, (0, 0, 0)), (59, .aload_n 0, 1, (0, 0, 0)), (60, .dup, 1, (0, 0, 0)), (61, .getfield 232, 3, (10, 16, 540)), (64, .iconst 1, 1, (0, 0, 0)), (65, .iadd, 1, (0, 0, 0)), (66, .putfield 232, 3, (10, 16, 540)), (69, .return_, 1, (0, 0, 0))]
set_option maxRecDepth 100000 in
def tb_X10_countChances : List pI := [(0, .iconst 1, 1, (0, 0, 0)), (1, .istore 4, 2, (0, 0, 0)), (3, .iconst 2, 1, (0, 0, 0)), (4, .istore 5, 2, (0, 0, 0)), (6, .iload 5, 2, (0, 0, 0)), (8, .aload_n 0, 1, (0, 0, 0)), (9, .getfield 12, 3, (10, 0, 519)), (12, .getfield 160, 3, (3, 7, 416)), (15, .getfield 164, 3, (5, 11, 294)), (18, .if_icmp .gt 16, 3, (0, 0, 0)), (21, .iload 4, 2, (0, 0, 0)), (23, .iload 5, 2, (0, 0, 0)), (25, .imul, 1, (0, 0, 0)), (26, .istore 4, 2, (0, 0, 0)), (28, .iinc 5 1, 3, (0, 0, 0)), (31, .goto (-25), 3, (0, 0, 0)), (34, .iload_n 2, 1, (0, 0, 0)), (35, .iconst 1, 1, (0, 0, 0)), (36, .if_icmp .le 7, 3, (0, 0, 0)), (39, .iload_n 3, 1, (0, 0, 0)), (40, .goto 4, 3, (0, 0, 0)), (43, .iconst 0, 1, (0, 0, 0)), (44, .istore 5, 2, (0, 0, 0)), (46, .iload_n 2, 1, (0, 0, 0)), (47, .iconst 2, 1, (0, 0, 0)), (48, .if_icmp .le 7, 3, (0, 0, 0)), (51, .iload_n 3, 1, (0, 0, 0)), (52, .goto 4, 3, (0, 0, 0)), (55, .iconst 0, 1, (0, 0, 0)), (56, .istore 6, 2, (0, 0, 0)), (58, .iconst 0, 1, (0, 0, 0)), (59, .istore 7, 2, (0, 0, 0)), (61, .iconst 0, 1, (0, 0, 0)), (62, .istore 8, 2, (0, 0, 0)), (64, .iload 8, 2, (0, 0, 0)), (66, .iload 4, 2, (0, 0, 0)), (68, .if_icmp .ge 96, 3, (0, 0, 0)), (71, .iload_n 2, 1, (0, 0, 0)), (72, .iconst 1, 1, (0, 0, 0)), (73, .if_icmp .le 7, 3, (0, 0, 0)), (76, .iconst 1, 1, (0, 0, 0)), (77, .goto 4, 3, (0, 0, 0)), (80, .iconst 0, 1, (0, 0, 0)), (81, .istore 9, 2, (0, 0, 0)), (83, .iload 9, 2, (0, 0, 0)), (85, .iload 5, 2, (0, 0, 0)), (87, .if_icmp .gt 71, 3, (0, 0, 0)), (90, .iload_n 2, 1, (0, 0, 0)), (91, .iconst 2, 1, (0, 0, 0)), (92, .if_icmp .le 8, 3, (0, 0, 0)), (95, .iload 9, 2, (0, 0, 0)), (97, .goto 4, 3, (0, 0, 0)), (100, .iconst 0, 1, (0, 0, 0)), (101, .istore 10, 2, (0, 0, 0)), (103, .iload 10, 2, (0, 0, 0)), (105, .iload 6, 2, (0, 0, 0)), (107, .if_icmp .gt 45, 3, (0, 0, 0)), (110, .aload_n 0, 1, (0, 0, 0)), (111, .iload 8, 2, (0, 0, 0)), (113, .iload 9, 2, (0, 0, 0)), (115, .iload 10, 2, (0, 0, 0)), (117, .invokevirtual 244, 3, (197, 0, 1119)), (120, .iload_n 1, 1, (0, 0, 0)), (121, .if_icmp .ne 25, 3, (0, 0, 0)), (124, .iload 7, 2, (0, 0, 0)), (126, .iload_n 2, 1, (0, 0, 0)), (127, .iconst 2, 1, (0, 0, 0)), (128, .if_icmp .le 14, 3, (0, 0, 0)), (131, .iload 10, 2, (0, 0, 0)), (133, .iload 9, 2, (0, 0, 0)), (135, .if_icmp .eq 7, 3, (0, 0, 0)), (138, .iconst 2, 1, (0, 0, 0)), (139, .goto 4, 3, (0, 0, 0)), (142, .iconst 1, 1, (0, 0, 0)), (143, .iadd, 1, (0, 0, 0)), (144, .istore 7, 2, (0, 0, 0)), (146, .iinc 10 1, 3, (0, 0, 0)), (149, .goto (-46), 3, (0, 0, 0)), (152, .iinc 9 1, 3, (0, 0, 0)), (155, .goto (-72), 3, (0, 0, 0)), (158, .iinc 8 1, 3, (0, 0, 0)), (161, .goto (-97), 3, (0, 0, 0)), (164, .iload 7, 2, (0, 0, 0)), (166, .ireturn, 1, (0, 0, 0))]
set_option maxRecDepth 100000 in
def tb_X10_drawnOutcome : List pI := [(0, .aload_n 0, 1, (0, 0, 0)), (1, .iload_n 1, 1, (0, 0, 0)), (2, .invokevirtual 248, 3, (198, 0, 1123)), (5, .aload_n 0, 1, (0, 0, 0)), (6, .getfield 12, 3, (10, 0, 519)), (9, .aload_n 0, 1, (0, 0, 0)), (10, .getfield 12, 3, (10, 0, 519)), (13, .getfield 160, 3, (3, 7, 416)), (16, .iconst 0, 1, (0, 0, 0)), (17, .invokevirtual 90, 3, (33, 0, 966)), (20, .iconst 0, 1, (0, 0, 0)), (21, .istore 4, 2, (0, 0, 0)), (23, .iload 4, 2, (0, 0, 0)), (25, .sipush 200, 3, (0, 0, 0)), (28, .if_icmp .gt 81, 3, (0, 0, 0)), (31, .aload_n 0, 1, (0, 0, 0)), (32, .invokevirtual 251, 3, (199, 0, 1128)), (35, .istore 5, 2, (0, 0, 0)), (37, .iload 5, 2, (0, 0, 0)), (39, .ifCond .ge 27, 3, (0, 0, 0)), (42, .aload_n 0, 1, (0, 0, 0)), (43, .getfield 12, 3, (10, 0, 519)), (46, .aload_n 0, 1, (0, 0, 0)), (47, .getfield 57, 3, (10, 8, 530)), (50, .invokevirtual 110, 3, (38, 0, 989)), (53, .aload_n 0, 1, (0, 0, 0)), (54, .getfield 40, 3, (10, 3, 524)), (57, .aload_n 0, 1, (0, 0, 0)), (58, .getfield 57, 3, (10, 8, 530)), (61, .iconst 0, 1, (0, 0, 0)), (62, .invokevirtual 254, 3, (149, 0, 1133)), (65, .ireturn, 1, (0, 0, 0)), (66, .aload_n 0, 1, (0, 0, 0)), (67, .getfield 12, 3, (10, 0, 519)), (70, .aload_n 0, 1, (0, 0, 0)), (71, .getfield 60, 3, (10, 9, 531)), (74, .iload 5, 2, (0, 0, 0)), (76, .iaload, 1, (0, 0, 0)), (77, .iconst 0, 1, (0, 0, 0)), (78, .invokevirtual 182, 3, (52, 0, 1098)), (81, .iload 4, 2, (0, 0, 0)), (83, .iconst 1, 1, (0, 0, 0)), (84, .iadd, 1, (0, 0, 0)), (85, .iload_n 2, 1, (0, 0, 0)), (86, .if_icmp .eq 11, 3, (0, 0, 0)), (89, .iload 4, 2, (0, 0, 0)), (91, .iconst 1, 1, (0, 0, 0)), (92, .iadd, 1, (0, 0, 0)), (93, .iload_n 3, 1, (0, 0, 0)), (94, .if_icmp .ne 9, 3, (0, 0, 0)), (97, .aload_n 0, 1, (0, 0, 0)), (98, .iload 5, 2, (0, 0, 0)), (100, .invokevirtual 257, 3, (200, 0, 1137)), (103, .iinc 4 1, 3, (0, 0, 0)), (106, .goto (-83), 3, (0, 0, 0)), (109, .iconst (-1), 1, (0, 0, 0)), (110, .ireturn, 1, (0, 0, 0))]
set_option maxRecDepth 100000 in
def tb_X10_arrange : List pI := [(0, .aload_n 0, 1, (0, 0, 0)), (1, .getfield 12, 3, (10, 0, 519)), (4, .getfield 160, 3, (3, 7, 416)), (7, .getfield 164, 3, (5, 11, 294)), (10, .istore_n 2, 1, (0, 0, 0)), (11, .iload_n 1, 1, (0, 0, 0)), (12, .istore_n 3, 1, (0, 0, 0)), (13, .iconst 0, 1, (0, 0, 0)), (14, .istore 4, 2, (0, 0, 0)), (16, .iload 4, 2, (0, 0, 0)), (18, .iload_n 2, 1, (0, 0, 0)), (19, .if_icmp .ge 55, 3, (0, 0, 0)), (22, .iload_n 3, 1, (0, 0, 0)), (23, .iload 4, 2, (0, 0, 0)), (25, .iconst 1, 1, (0, 0, 0)), (26, .iadd, 1, (0, 0, 0)), (27, .irem, 1, (0, 0, 0)), (28, .istore 5, 2, (0, 0, 0)), (30, .iload_n 3, 1, (0, 0, 0)), (31, .iload 4, 2, (0, 0, 0)), (33, .iconst 1, 1, (0, 0, 0)), (34, .iadd, 1, (0, 0, 0)), (35, .idiv, 1, (0, 0, 0)), (36, .istore_n 3, 1, (0, 0, 0)), (37, .aload_n 0, 1, (0, 0, 0)), (38, .getfield 60, 3, (10, 9, 531)), (41, .iload 5, 2, (0, 0, 0)), (43, .aload_n 0, 1, (0, 0, 0)), (44, .getfield 60, 3, (10, 9, 531)), (47, .iload 5, 2, (0, 0, 0)), (49, .iconst 1, 1, (0, 0, 0)), (50, .iadd, 1, (0, 0, 0)), (51, .iload 4, 2, (0, 0, 0)), (53, .iload 5, 2, (0, 0, 0)), (55, .isub, 1, (0, 0, 0)), (56, .invokestatic 238, 3, (-2, 0, 1127)), (59, .aload_n 0, 1, (0, 0, 0)), (60, .getfield 60, 3, (10, 9, 531)), (63, .iload 5, 2, (0, 0, 0)), (65, .iload 4, 2, (0, 0, 0)), (67, .iastore, 1, (0, 0, 0)), (68, .iinc 4 1, 3, (0, 0, 0)), (71, .goto (-55), 3, (0, 0, 0)), (74, .return_, 1, (0, 0, 0))]
set_option maxRecDepth 100000 in
def tb_X10_firstReady : List pI := [(0, .iconst 0, 1, (0, 0, 0)), (1, .istore_n 1, 1, (0, 0, 0)), (2, .iload_n 1, 1, (0, 0, 0)), (3, .aload_n 0, 1, (0, 0, 0)), (4, .getfield 12, 3, (10, 0, 519)), (7, .getfield 160, 3, (3, 7, 416)), (10, .getfield 164, 3, (5, 11, 294)), (13, .if_icmp .ge 27, 3, (0, 0, 0)), (16, .aload_n 0, 1, (0, 0, 0)), (17, .getfield 12, 3, (10, 0, 519)), (20, .aload_n 0, 1, (0, 0, 0)), (21, .getfield 60, 3, (10, 9, 531)), (24, .iload_n 1, 1, (0, 0, 0)), (25, .iaload, 1, (0, 0, 0)), (26, .invokevirtual 260, 3, (44, 0, 1132)), (29, .ifCond .le 5, 3, (0, 0, 0)), (32, .iload_n 1, 1, (0, 0, 0)), (33, .ireturn, 1, (0, 0, 0)), (34, .iinc 1 1, 3, (0, 0, 0)), (37, .goto (-35), 3, (0, 0, 0)), (40, .iconst (-1), 1, (0, 0, 0)), (41, .ireturn, 1, (0, 0, 0))]
set_option maxRecDepth 100000 in
def tb_X10_lower : List pI := [(0, .aload_n 0, 1, (0, 0, 0)), (1, .getfield 12, 3, (10, 0, 519)), (4, .getfield 160, 3, (3, 7, 416)), (7, .getfield 164, 3, (5, 11, 294)), (10, .iconst 1, 1, (0, 0, 0)), (11, .isub, 1, (0, 0, 0)), (12, .istore_n 2, 1, (0, 0, 0)), (13, .aload_n 0, 1, (0, 0, 0)), (14, .getfield 60, 3, (10, 9, 531)), (17, .iload_n 1, 1, (0, 0, 0)), (18, .iaload, 1, (0, 0, 0)), (19, .istore_n 3, 1, (0, 0, 0)), (20, .aload_n 0, 1, (0, 0, 0)), (21, .getfield 60, 3, (10, 9, 531)), (24, .iload_n 1, 1, (0, 0, 0)), (25, .iconst 1, 1, (0, 0, 0)), (26, .iadd, 1, (0, 0, 0)), (27, .aload_n 0, 1, (0, 0, 0)), (28, .getfield 60, 3, (10, 9, 531)), (31, .iload_n 1, 1, (0, 0, 0)), (32, .iload_n 2, 1, (0, 0, 0)), (33, .iload_n 1, 1, (0, 0, 0)), (34, .isub, 1, (0, 0, 0)), (35, .invokestatic 238, 3, (-2, 0, 1127)), (38, .aload_n 0, 1, (0, 0, 0)), (39, .getfield 60, 3, (10, 9, 531)), (42, .iload_n 2, 1, (0, 0, 0)), (43, .iload_n 3, 1, (0, 0, 0)), (44, .iastore, 1, (0, 0, 0)), (45, .return_, 1, (0, 0, 0))]
set_option maxRecDepth 100000 in
def tb_X11_init : List pI := [(0, .aload_n 0, 1, (0, 0, 0)), (1, .invokespecial 1, 3, (-1, 0, 118)), (4, .aload_n 0, 1, (0, 0, 0)), (5, .new 7, 3, (9, 0, 121)), (8, .dup, 1, (0, 0, 0)), (9, .invokespecial 9, 3, (163, 1, 0)), (12, .putfield 10, 3, (11, 0, 698)), (15, .new 16, 3, (4, 0, 223)), (18, .dup, 1, (0, 0, 0)), (19, .sipush 500, 3, (0, 0, 0)), (22, .invokespecial 18, 3, (75, 0, 225)), (25, .astore_n 1, 1, (0, 0, 0)), (26, .aload_n 0, 1, (0, 0, 0)), (27, .new 21, 3, (5, 0, 248)), (30, .dup, 1, (0, 0, 0)), (31, .aload_n 1, 1, (0, 0, 0)), (32, .invokespecial 23, 3, (80, 0, 250)), (35, .putfield 26, 3, (11, 1, 699)), (38, .aload_n 0, 1, (0, 0, 0)), (39, .new 21, 3, (5, 0, 248)), (42, .dup, 1, (0, 0, 0)), (43, .aload_n 1, 1, (0, 0, 0)), (44, .invokespecial 23, 3, (80, 0, 250)), (47, .putfield 30, 3, (11, 2, 700)), (50, .new 16, 3, (4, 0, 223)), (53, .dup, 1, (0, 0, 0)), (54, .sipush 400, 3, (0, 0, 0)), (57, .invokespecial 18, 3, (75, 0, 225)), (60, .astore_n 2, 1, (0, 0, 0)), (61, .aload_n 0, 1, (0, 0, 0)), (62, .new 33, 3, (6, 0, 332)), (65, .dup, 1, (0, 0, 0)), (66, .aload_n 0, 1, (0, 0, 0)), (67, .getfield 10, 3, (11, 0, 698)), (70, .aload_n 0, 1, (0, 0, 0)), (71, .getfield 26, 3, (11, 1, 699)), (74, .aload_n 2, 1, (0, 0, 0)), (75, .invokespecial 35, 3, (112, 0, 334)), (78, .putfield 38, 3, (11, 3, 701)), (81, .aload_n 0, 1, (0, 0, 0)), (82, .new 42, 3, (10, 0, 386)), (85, .dup, 1, (0, 0, 0)), (86, .invokespecial 44, 3, (176, 1, 1)), (89, .putfield 45, 3, (11, 4, 702)), (92, .aload_n 0, 1, (0, 0, 0)), (93, .new 49, 3, (7, 0, 587)), (96, .dup, 1, (0, 0, 0)), (97, .ldc 53, 2, (68000, 0, 588)), (99, .newarray .long, 2, (0, 0, 221)), (101, .sipush 4000, 3, (0, 0, 0)), (104, .sipush 8192, 3, (0, 0, 0)), (107, .invokespecial 54, 3, (145, 0, 589)), (110, .putfield 57, 3, (11, 5, 703)), (113, .aload_n 0, 1, (0, 0, 0)), (114, .new 61, 3, (2, 0, 590)), (117, .dup, 1, (0, 0, 0)), (118, .aload_n 0, 1, (0, 0, 0)), (119, .getfield 45, 3, (11, 4, 702)), (122, .aload_n 2, 1, (0, 0, 0)), (123, .invokespecial 63, 3, (18, 0, 592)), (126, .putfield 66, 3, (11, 6, 704)), (129, .aload_n 0, 1, (0, 0, 0)), (130, .new 70, 3, (8, 0, 634)), (133, .dup, 1, (0, 0, 0)), (134, .invokespecial 72, 3, (153, 1, 4)), (137, .putfield 73, 3, (11, 7, 705)), (140, .aload_n 0, 1, (0, 0, 0)), (141, .new 77, 3, (1, 0, 662)), (144, .dup, 1, (0, 0, 0)), (145, .invokespecial 79, 3, (10, 1, 6)), (148, .putfield 80, 3, (11, 8, 706)), (151, .aload_n 0, 1, (0, 0, 0)), (152, .bipush (-2), 2, (0, 0, 0)), (154, .putfield 84, 3, (11, 13, 711)), (157, .aload_n 0, 1, (0, 0, 0)), (158, .bipush (-2), 2, (0, 0, 0)), (160, .putfield 88, 3, (11, 14, 712)), (163, .return_, 1, (0, 0, 0))]
set_option maxRecDepth 100000 in
def tb_X11_feed : List pI := [(0, .aload_n 0, 1, (0, 0, 0)), (1, .getfield 10, 3, (11, 0, 698)), (4, .getfield 91, 3, (9, 5, 184)), (7, .sipush 3980, 3, (0, 0, 0)), (10, .if_icmp .le 6, 3, (0, 0, 0)), (13, .bipush (-3), 2, (0, 0, 0)), (15, .ireturn, 1, (0, 0, 0)), (16, .aload_n 0, 1, (0, 0, 0)), (17, .getfield 10, 3, (11, 0, 698)), (20, .iload_n 1, 1, (0, 0, 0)), (21, .invokevirtual 94, 3, (165, 0, 1229)), (24, .aload_n 0, 1, (0, 0, 0)), (25, .getfield 10, 3, (11, 0, 698)), (28, .iload_n 2, 1, (0, 0, 0)), (29, .invokevirtual 94, 3, (165, 0, 1229)), (32, .aload_n 0, 1, (0, 0, 0)), (33, .getfield 10, 3, (11, 0, 698)), (36, .iload_n 3, 1, (0, 0, 0)), (37, .invokevirtual 94, 3, (165, 0, 1229)), (40, .aload_n 0, 1, (0, 0, 0)), (41, .getfield 10, 3, (11, 0, 698)), (44, .iload 4, 2, (0, 0, 0)), (46, .invokevirtual 94, 3, (165, 0, 1229)), (49, .aload_n 0, 1, (0, 0, 0)), (50, .getfield 10, 3, (11, 0, 698)), (53, .iload 5, 2, (0, 0, 0)), (55, .invokevirtual 94, 3, (165, 0, 1229)), (58, .aload_n 0, 1, (0, 0, 0)), (59, .getfield 10, 3, (11, 0, 698)), (62, .getfield 91, 3, (9, 5, 184)), (65, .ireturn, 1, (0, 0, 0))]
set_option maxRecDepth 100000 in
def tb_X11_end : List pI := [(0, .iload_n 1, 1, (0, 0, 0)), (1, .ifCond .lt 21, 3, (0, 0, 0)), (4, .iload_n 1, 1, (0, 0, 0)), (5, .bipush 20, 2, (0, 0, 0)), (7, .if_icmp .gt 15, 3, (0, 0, 0)), (10, .aload_n 0, 1, (0, 0, 0)), (11, .getfield 10, 3, (11, 0, 698)), (14, .getfield 91, 3, (9, 5, 184)), (17, .bipush 20, 2, (0, 0, 0)), (19, .if_icmp .ge 5, 3, (0, 0, 0)), (22, .iconst (-1), 1, (0, 0, 0)), (23, .ireturn, 1, (0, 0, 0)), (24, .aload_n 0, 1, (0, 0, 0)), (25, .getfield 10, 3, (11, 0, 698)), (28, .dup, 1, (0, 0, 0)), (29, .getfield 91, 3, (9, 5, 184)), (32, .bipush 20, 2, (0, 0, 0)), (34, .iload_n 1, 1, (0, 0, 0)), (35, .isub, 1, (0, 0, 0)), (36, .isub, 1, (0, 0, 0)), (37, .putfield 91, 3, (9, 5, 184)), (40, .aload_n 0, 1, (0, 0, 0)), (41, .getfield 10, 3, (11, 0, 698)), (44, .getfield 91, 3, (9, 5, 184)), (47, .ireturn, 1, (0, 0, 0))]
set_option maxRecDepth 100000 in
def tb_X11_program : List pI := [(0, .aload_n 0, 1, (0, 0, 0)), (1, .getfield 45, 3, (11, 4, 702)), (4, .iconst 0, 1, (0, 0, 0)), (5, .putfield 97, 3, (10, 17, 542)), (8, .aload_n 0, 1, (0, 0, 0)), (9, .getfield 73, 3, (11, 7, 705)), (12, .iconst 0, 1, (0, 0, 0)), (13, .putfield 101, 3, (8, 4, 650)), (16, .aload_n 0, 1, (0, 0, 0)), (17, .iconst 0, 1, (0, 0, 0)), (18, .putfield 104, 3, (11, 10, 708)), (21, .aload_n 0, 1, (0, 0, 0)), (22, .bipush (-2), 2, (0, 0, 0)), (24, .putfield 84, 3, (11, 13, 711)), (27, .aload_n 0, 1, (0, 0, 0)), (28, .bipush (-2), 2, (0, 0, 0)), (30, .putfield 88, 3, (11, 14, 712)), (33, .aload_n 0, 1, (0, 0, 0)), (34, .getfield 38, 3, (11, 3, 701)), (37, .invokevirtual 107, 3, (117, 0, 1283)), (40, .aload_n 0, 1, (0, 0, 0)), (41, .getfield 10, 3, (11, 0, 698)), (44, .iconst 0, 1, (0, 0, 0)), (45, .putfield 91, 3, (9, 5, 184)), (48, .aload_n 0, 1, (0, 0, 0)), (49, .aload_n 0, 1, (0, 0, 0)), (50, .getfield 38, 3, (11, 3, 701)), (53, .getfield 110, 3, (6, 11, 350)), (56, .ifCond .ne 7, 3, (0, 0, 0)), (59, .iconst 1, 1, (0, 0, 0)), (60, .goto 4, 3, (0, 0, 0)), (63, .iconst 0, 1, (0, 0, 0)), (64, .putfield 113, 3, (11, 9, 707)), (67, .aload_n 0, 1, (0, 0, 0)), (68, .getfield 38, 3, (11, 3, 701)), (71, .getfield 110, 3, (6, 11, 350)), (74, .ireturn, 1, (0, 0, 0))]
set_option maxRecDepth 100000 in
def tb_X11_count : List pI := [(0, .iload_n 1, 1, (0, 0, 0)), (1, .tableswitch 166 0 7 #[47, 55, 63, 71, 90, 109, 128, 147], 47, (0, 0, 0)), (48, .aload_n 0, 1, (0, 0, 0)), (49, .getfield 38, 3, (11, 3, 701)), (52, .getfield 110, 3, (6, 11, 350)), (55, .ireturn, 1, (0, 0, 0)), (56, .aload_n 0, 1, (0, 0, 0)), (57, .getfield 38, 3, (11, 3, 701)), (60, .getfield 116, 3, (6, 12, 352)), (63, .ireturn, 1, (0, 0, 0)), (64, .aload_n 0, 1, (0, 0, 0)), (65, .getfield 10, 3, (11, 0, 698)), (68, .getfield 91, 3, (9, 5, 184)), (71, .ireturn, 1, (0, 0, 0)), (72, .aload_n 0, 1, (0, 0, 0)), (73, .getfield 113, 3, (11, 9, 707)), (76, .ifCond .eq 13, 3, (0, 0, 0)), (79, .aload_n 0, 1, (0, 0, 0)), (80, .getfield 26, 3, (11, 1, 699)), (83, .getfield 119, 3, (5, 9, 284)), (86, .goto 4, 3, (0, 0, 0)), (89, .iconst 0, 1, (0, 0, 0)), (90, .ireturn, 1, (0, 0, 0)), (91, .aload_n 0, 1, (0, 0, 0)), (92, .getfield 113, 3, (11, 9, 707)), (95, .ifCond .eq 13, 3, (0, 0, 0)), (98, .aload_n 0, 1, (0, 0, 0)), (99, .getfield 26, 3, (11, 1, 699)), (102, .getfield 122, 3, (5, 10, 288)), (105, .goto 4, 3, (0, 0, 0)), (108, .iconst 0, 1, (0, 0, 0)), (109, .ireturn, 1, (0, 0, 0)), (110, .aload_n 0, 1, (0, 0, 0)), (111, .getfield 113, 3, (11, 9, 707)), (114, .ifCond .eq 13, 3, (0, 0, 0)), (117, .aload_n 0, 1, (0, 0, 0)), (118, .getfield 26, 3, (11, 1, 699)), (121, .getfield 125, 3, (5, 11, 295)), (124, .goto 4, 3, (0, 0, 0)), (127, .iconst 0, 1, (0, 0, 0)), (128, .ireturn, 1, (0, 0, 0)), (129, .aload_n 0, 1, (0, 0, 0)), (130, .getfield 113, 3, (11, 9, 707)), (133, .ifCond .eq 13, 3, (0, 0, 0)), (136, .aload_n 0, 1, (0, 0, 0)), (137, .getfield 26, 3, (11, 1, 699)), (140, .getfield 128, 3, (5, 12, 298)), (143, .goto 4, 3, (0, 0, 0)), (146, .iconst 0, 1, (0, 0, 0)), (147, .ireturn, 1, (0, 0, 0)), (148, .aload_n 0, 1, (0, 0, 0)), (149, .getfield 113, 3, (11, 9, 707)), (152, .ifCond .eq 13, 3, (0, 0, 0)), (155, .aload_n 0, 1, (0, 0, 0)), (156, .getfield 26, 3, (11, 1, 699)), (159, .getfield 131, 3, (5, 13, 301)), (162, .goto 4, 3, (0, 0, 0)), (165, .iconst 0, 1, (0, 0, 0)), (166, .ireturn, 1, (0, 0, 0)), (167, .iconst (-1), 1, (0, 0, 0)), (168, .ireturn, 1, (0, 0, 0))]
set_option maxRecDepth 100000 in
def tb_X11_begin : List pI := [(0, .aload_n 0, 1, (0, 0, 0)), (1, .getfield 113, 3, (11, 9, 707)), (4, .ifCond .eq 10, 3, (0, 0, 0)), (7, .iload_n 1, 1, (0, 0, 0)), (8, .invokestatic 138, 3, (238, 0, 752)), (11, .ifCond .ne 5, 3, (0, 0, 0)), (14, .iconst (-1), 1, (0, 0, 0)), (15, .ireturn, 1, (0, 0, 0)), (16, .aload_n 0, 1, (0, 0, 0)), (17, .iconst 0, 1, (0, 0, 0)), (18, .putfield 142, 3, (11, 12, 710)), (21, .aload_n 0, 1, (0, 0, 0)), (22, .getfield 73, 3, (11, 7, 705)), (25, .aload_n 0, 1, (0, 0, 0)), (26, .getfield 26, 3, (11, 1, 699)), (29, .iload_n 1, 1, (0, 0, 0)), (30, .invokevirtual 145, 3, (154, 0, 755)), (33, .aload_n 0, 1, (0, 0, 0)), (34, .getfield 73, 3, (11, 7, 705)), (37, .getfield 149, 3, (8, 0, 644)), (40, .invokevirtual 153, 3, (42, 0, 770)), (43, .ireturn, 1, (0, 0, 0))]
set_option maxRecDepth 100000 in
def tb_X11_ready : List pI := [(0, .aload_n 0, 1, (0, 0, 0)), (1, .getfield 73, 3, (11, 7, 705)), (4, .getfield 101, 3, (8, 4, 650)), (7, .ifCond .ne 5, 3, (0, 0, 0)), (10, .iconst (-1), 1, (0, 0, 0)), (11, .ireturn, 1, (0, 0, 0)), (12, .aload_n 0, 1, (0, 0, 0)), (13, .getfield 73, 3, (11, 7, 705)), (16, .getfield 149, 3, (8, 0, 644)), (19, .invokevirtual 153, 3, (42, 0, 770)), (22, .istore_n 2, 1, (0, 0, 0)), (23, .iload_n 1, 1, (0, 0, 0)), (24, .ifCond .lt 8, 3, (0, 0, 0)), (27, .iload_n 1, 1, (0, 0, 0)), (28, .iload_n 2, 1, (0, 0, 0)), (29, .if_icmp .lt 8, 3, (0, 0, 0)), (32, .bipush (-2), 2, (0, 0, 0)), (34, .goto 15, 3, (0, 0, 0)), (37, .aload_n 0, 1, (0, 0, 0)), (38, .getfield 73, 3, (11, 7, 705)), (41, .getfield 149, 3, (8, 0, 644)), (44, .getfield 157, 3, (3, 2, 405)), (47, .iload_n 1, 1, (0, 0, 0)), (48, .iaload, 1, (0, 0, 0)), (49, .ireturn, 1, (0, 0, 0))]
set_option maxRecDepth 100000 in
def tb_X11_turn : List pI := [(0, .aload_n 0, 1, (0, 0, 0)), (1, .getfield 73, 3, (11, 7, 705)), (4, .getfield 101, 3, (8, 4, 650)), (7, .ifCond .ne 5, 3, (0, 0, 0)), (10, .iconst (-1), 1, (0, 0, 0)), (11, .ireturn, 1, (0, 0, 0)), (12, .aload_n 0, 1, (0, 0, 0)), (13, .getfield 73, 3, (11, 7, 705)), (16, .getfield 149, 3, (8, 0, 644)), (19, .iload_n 1, 1, (0, 0, 0)), (20, .iload_n 2, 1, (0, 0, 0)), (21, .invokevirtual 161, 3, (43, 0, 821)), (24, .ifCond .ne 6, 3, (0, 0, 0)), (27, .bipush (-2), 2, (0, 0, 0)), (29, .ireturn, 1, (0, 0, 0)), (30, .aload_n 0, 1, (0, 0, 0)), (31, .getfield 73, 3, (11, 7, 705)), (34, .getfield 165, 3, (8, 3, 648)), (37, .sipush 200, 3, (0, 0, 0)), (40, .if_icmp .lt 6, 3, (0, 0, 0)), (43, .bipush (-3), 2, (0, 0, 0)), (45, .ireturn, 1, (0, 0, 0)), (46, .aload_n 0, 1, (0, 0, 0)), (47, .getfield 73, 3, (11, 7, 705)), (50, .iload_n 1, 1, (0, 0, 0)), (51, .iload_n 2, 1, (0, 0, 0)), (52, .invokevirtual 166, 3, (155, 0, 825)), (55, .aload_n 0, 1, (0, 0, 0)), (56, .getfield 73, 3, (11, 7, 705)), (59, .getfield 149, 3, (8, 0, 644)), (62, .invokevirtual 153, 3, (42, 0, 770)), (65, .ireturn, 1, (0, 0, 0))]
set_option maxRecDepth 100000 in
def tb_X11_thread : List pI := [(0, .aload_n 0, 1, (0, 0, 0)), (1, .getfield 73, 3, (11, 7, 705)), (4, .getfield 101, 3, (8, 4, 650)), (7, .ifCond .eq 18, 3, (0, 0, 0)), (10, .iload_n 1, 1, (0, 0, 0)), (11, .ifCond .lt 14, 3, (0, 0, 0)), (14, .iload_n 1, 1, (0, 0, 0)), (15, .aload_n 0, 1, (0, 0, 0)), (16, .getfield 26, 3, (11, 1, 699)), (19, .getfield 125, 3, (5, 11, 295)), (22, .if_icmp .lt 5, 3, (0, 0, 0)), (25, .iconst (-1), 1, (0, 0, 0)), (26, .ireturn, 1, (0, 0, 0)), (27, .aload_n 0, 1, (0, 0, 0)), (28, .getfield 73, 3, (11, 7, 705)), (31, .getfield 149, 3, (8, 0, 644)), (34, .getfield 170, 3, (3, 0, 401)), (37, .astore_n 3, 1, (0, 0, 0)), (38, .iload_n 2, 1, (0, 0, 0)), (39, .tableswitch 68 0 3 #[29, 35, 54, 61], 29, (0, 0, 0)), (68, .aload_n 3, 1, (0, 0, 0)), (69, .iconst 0, 1, (0, 0, 0)), (70, .iload_n 1, 1, (0, 0, 0)), (71, .iadd, 1, (0, 0, 0)), (72, .iaload, 1, (0, 0, 0)), (73, .ireturn, 1, (0, 0, 0)), (74, .aload_n 3, 1, (0, 0, 0)), (75, .iconst 4, 1, (0, 0, 0)), (76, .iload_n 1, 1, (0, 0, 0)), (77, .iadd, 1, (0, 0, 0)), (78, .iaload, 1, (0, 0, 0)), (79, .ifCond .ge 8, 3, (0, 0, 0)), (82, .bipush (-2), 2, (0, 0, 0)), (84, .goto 8, 3, (0, 0, 0)), (87, .aload_n 3, 1, (0, 0, 0)), (88, .iconst 4, 1, (0, 0, 0)), (89, .iload_n 1, 1, (0, 0, 0)), (90, .iadd, 1, (0, 0, 0)), (91, .iaload, 1, (0, 0, 0)), (92, .ireturn, 1, (0, 0, 0)), (93, .aload_n 3, 1, (0, 0, 0)), (94, .bipush 8, 2, (0, 0, 0)), (96, .iload_n 1, 1, (0, 0, 0)), (97, .iadd, 1, (0, 0, 0)), (98, .iaload, 1, (0, 0, 0)), (99, .ireturn, 1, (0, 0, 0)), (100, .aload_n 3, 1, (0, 0, 0)), (101, .bipush 56, 2, (0, 0, 0)), (103, .iload_n 1, 1, (0, 0, 0)), (104, .iadd, 1, (0, 0, 0)), (105, .iaload, 1, (0, 0, 0)), (106, .ireturn, 1, (0, 0, 0)), (107, .iconst (-1), 1, (0, 0, 0)), (108, .ireturn, 1, (0, 0, 0))]
set_option maxRecDepth 100000 in
def tb_X11_local : List pI := [(0, .aload_n 0, 1, (0, 0, 0)), (1, .getfield 73, 3, (11, 7, 705)), (4, .getfield 101, 3, (8, 4, 650)), (7, .ifCond .ne 5, 3, (0, 0, 0)), (10, .iconst (-1), 1, (0, 0, 0)), (11, .ireturn, 1, (0, 0, 0)), (12, .aload_n 0, 1, (0, 0, 0)), (13, .getfield 26, 3, (11, 1, 699)), (16, .iload_n 1, 1, (0, 0, 0)), (17, .iload_n 2, 1, (0, 0, 0)), (18, .invokevirtual 173, 3, (93, 0, 941)), (21, .ifCond .eq 22, 3, (0, 0, 0)), (24, .aload_n 0, 1, (0, 0, 0)), (25, .getfield 73, 3, (11, 7, 705)), (28, .getfield 149, 3, (8, 0, 644)), (31, .getfield 170, 3, (3, 0, 401)), (34, .iload_n 1, 1, (0, 0, 0)), (35, .iload_n 2, 1, (0, 0, 0)), (36, .invokestatic 176, 3, (32, 0, 949)), (39, .iaload, 1, (0, 0, 0)), (40, .goto 6, 3, (0, 0, 0)), (43, .sipush (-1000), 3, (0, 0, 0)), (46, .ireturn, 1, (0, 0, 0))]
set_option maxRecDepth 100000 in
def tb_X11_cell : List pI := [(0, .aload_n 0, 1, (0, 0, 0)), (1, .getfield 73, 3, (11, 7, 705)), (4, .getfield 101, 3, (8, 4, 650)), (7, .ifCond .eq 32, 3, (0, 0, 0)), (10, .aload_n 0, 1, (0, 0, 0)), (11, .getfield 26, 3, (11, 1, 699)), (14, .iload_n 1, 1, (0, 0, 0)), (15, .invokevirtual 180, 3, (90, 0, 954)), (18, .ifCond .eq 21, 3, (0, 0, 0)), (21, .aload_n 0, 1, (0, 0, 0)), (22, .getfield 73, 3, (11, 7, 705)), (25, .getfield 149, 3, (8, 0, 644)), (28, .getfield 170, 3, (3, 0, 401)), (31, .bipush 48, 2, (0, 0, 0)), (33, .iload_n 1, 1, (0, 0, 0)), (34, .iadd, 1, (0, 0, 0)), (35, .iaload, 1, (0, 0, 0)), (36, .goto 6, 3, (0, 0, 0)), (39, .sipush (-1000), 3, (0, 0, 0)), (42, .ireturn, 1, (0, 0, 0))]
set_option maxRecDepth 100000 in
def tb_X11_explore : List pI := [(0, .aload_n 0, 1, (0, 0, 0)), (1, .getfield 113, 3, (11, 9, 707)), (4, .ifCond .eq 10, 3, (0, 0, 0)), (7, .iload_n 1, 1, (0, 0, 0)), (8, .invokestatic 138, 3, (238, 0, 752)), (11, .ifCond .ne 5, 3, (0, 0, 0)), (14, .iconst (-1), 1, (0, 0, 0)), (15, .ireturn, 1, (0, 0, 0)), (16, .aload_n 0, 1, (0, 0, 0)), (17, .iconst 0, 1, (0, 0, 0)), (18, .putfield 209, 3, (11, 11, 709)), (21, .aload_n 0, 1, (0, 0, 0)), (22, .getfield 45, 3, (11, 4, 702)), (25, .aload_n 0, 1, (0, 0, 0)), (26, .getfield 26, 3, (11, 1, 699)), (29, .iload_n 1, 1, (0, 0, 0)), (30, .iload_n 2, 1, (0, 0, 0)), (31, .invokevirtual 212, 3, (177, 0, 962)), (34, .ireturn, 1, (0, 0, 0))]
set_option maxRecDepth 100000 in
def tb_X11_explored : List pI := [(0, .aload_n 0, 1, (0, 0, 0)), (1, .getfield 45, 3, (11, 4, 702)), (4, .getfield 97, 3, (10, 17, 542)), (7, .ifCond .ne 5, 3, (0, 0, 0)), (10, .iconst (-1), 1, (0, 0, 0)), (11, .ireturn, 1, (0, 0, 0)), (12, .iload_n 1, 1, (0, 0, 0)), (13, .tableswitch 104 0 5 #[39, 50, 58, 66, 77, 88], 39, (0, 0, 0)), (52, .aload_n 0, 1, (0, 0, 0)), (53, .getfield 45, 3, (11, 4, 702)), (56, .getfield 216, 3, (10, 2, 523)), (59, .getfield 219, 3, (7, 3, 499)), (62, .ireturn, 1, (0, 0, 0)), (63, .aload_n 0, 1, (0, 0, 0)), (64, .getfield 45, 3, (11, 4, 702)), (67, .getfield 222, 3, (10, 13, 536)), (70, .ireturn, 1, (0, 0, 0)), (71, .aload_n 0, 1, (0, 0, 0)), (72, .getfield 45, 3, (11, 4, 702)), (75, .getfield 225, 3, (10, 14, 538)), (78, .ireturn, 1, (0, 0, 0)), (79, .aload_n 0, 1, (0, 0, 0)), (80, .getfield 45, 3, (11, 4, 702)), (83, .getfield 228, 3, (10, 3, 525)), (86, .getfield 219, 3, (7, 3, 499)), (89, .ireturn, 1, (0, 0, 0)), (90, .aload_n 0, 1, (0, 0, 0)), (91, .getfield 45, 3, (11, 4, 702)), (94, .getfield 231, 3, (10, 0, 520)), (97, .getfield 232, 3, (3, 8, 418)), (100, .ireturn, 1, (0, 0, 0)), (101, .aload_n 0, 1, (0, 0, 0)), (102, .getfield 45, 3, (11, 4, 702)), (105, .getfield 235, 3, (10, 18, 544)), (108, .ifCond .eq 7, 3, (0, 0, 0)), (111, .iconst 1, 1, (0, 0, 0)), (112, .goto 4, 3, (0, 0, 0)), (115, .iconst 0, 1, (0, 0, 0)), (116, .ireturn, 1, (0, 0, 0)), (117, .iconst (-1), 1, (0, 0, 0)), (118, .ireturn, 1, (0, 0, 0))]
set_option maxRecDepth 100000 in
def tb_X11_outcome : List pI := [(0, .aload_n 0, 1, (0, 0, 0)), (1, .getfield 45, 3, (11, 4, 702)), (4, .iload_n 1, 1, (0, 0, 0)), (5, .invokevirtual 238, 3, (184, 0, 1111)), (8, .ifCond .ne 5, 3, (0, 0, 0)), (11, .iconst (-1), 1, (0, 0, 0)), (12, .ireturn, 1, (0, 0, 0)), (13, .iload_n 2, 1, (0, 0, 0)), (14, .tableswitch 56 0 2 #[26, 38, 47], 26, (0, 0, 0)), (40, .aload_n 0, 1, (0, 0, 0)), (41, .getfield 45, 3, (11, 4, 702)), (44, .iload_n 1, 1, (0, 0, 0)), (45, .sipush 233, 3, (0, 0, 0)), (48, .invokevirtual 241, 3, (186, 0, 1572)), (51, .ireturn, 1, (0, 0, 0)), (52, .aload_n 0, 1, (0, 0, 0)), (53, .getfield 45, 3, (11, 4, 702)), (56, .iload_n 1, 1, (0, 0, 0)), (57, .invokevirtual 244, 3, (185, 0, 1576)), (60, .ireturn, 1, (0, 0, 0)), (61, .aload_n 0, 1, (0, 0, 0)), (62, .getfield 45, 3, (11, 4, 702)), (65, .iload_n 1, 1, (0, 0, 0)), (66, .invokevirtual 248, 3, (192, 0, 1580)), (69, .ireturn, 1, (0, 0, 0)), (70, .iconst (-1), 1, (0, 0, 0)), (71, .ireturn, 1, (0, 0, 0))]
set_option maxRecDepth 100000 in
def tb_X11_outcomeCell : List pI := [(0, .aload_n 0, 1, (0, 0, 0)), (1, .getfield 45, 3, (11, 4, 702)), (4, .iload_n 1, 1, (0, 0, 0)), (5, .invokevirtual 238, 3, (184, 0, 1111)), (8, .ifCond .eq 29, 3, (0, 0, 0)), (11, .aload_n 0, 1, (0, 0, 0)), (12, .getfield 26, 3, (11, 1, 699)), (15, .iload_n 2, 1, (0, 0, 0)), (16, .invokevirtual 180, 3, (90, 0, 954)), (19, .ifCond .eq 18, 3, (0, 0, 0)), (22, .aload_n 0, 1, (0, 0, 0)), (23, .getfield 45, 3, (11, 4, 702)), (26, .iload_n 1, 1, (0, 0, 0)), (27, .bipush 48, 2, (0, 0, 0)), (29, .iload_n 2, 1, (0, 0, 0)), (30, .iadd, 1, (0, 0, 0)), (31, .invokevirtual 241, 3, (186, 0, 1572)), (34, .goto 6, 3, (0, 0, 0)), (37, .sipush (-1000), 3, (0, 0, 0)), (40, .ireturn, 1, (0, 0, 0))]
set_option maxRecDepth 100000 in
def tb_X11_outcomeLocal : List pI := [(0, .aload_n 0, 1, (0, 0, 0)), (1, .getfield 45, 3, (11, 4, 702)), (4, .iload_n 1, 1, (0, 0, 0)), (5, .invokevirtual 238, 3, (184, 0, 1111)), (8, .ifCond .eq 31, 3, (0, 0, 0)), (11, .aload_n 0, 1, (0, 0, 0)), (12, .getfield 26, 3, (11, 1, 699)), (15, .iload_n 2, 1, (0, 0, 0)), (16, .iload_n 3, 1, (0, 0, 0)), (17, .invokevirtual 173, 3, (93, 0, 941)), (20, .ifCond .eq 19, 3, (0, 0, 0)), (23, .aload_n 0, 1, (0, 0, 0)), (24, .getfield 45, 3, (11, 4, 702)), (27, .iload_n 1, 1, (0, 0, 0)), (28, .iload_n 2, 1, (0, 0, 0)), (29, .iload_n 3, 1, (0, 0, 0)), (30, .invokestatic 176, 3, (32, 0, 949)), (33, .invokevirtual 241, 3, (186, 0, 1572)), (36, .goto 6, 3, (0, 0, 0)), (39, .sipush (-1000), 3, (0, 0, 0)), (42, .ireturn, 1, (0, 0, 0))]
set_option maxRecDepth 100000 in
def tb_X11_chances : List pI := [(0, .aload_n 0, 1, (0, 0, 0)), (1, .getfield 45, 3, (11, 4, 702)), (4, .iload_n 1, 1, (0, 0, 0)), (5, .invokevirtual 238, 3, (184, 0, 1111)), (8, .ifCond .eq 37, 3, (0, 0, 0)), (11, .aload_n 0, 1, (0, 0, 0)), (12, .getfield 45, 3, (11, 4, 702)), (15, .getfield 231, 3, (10, 0, 520)), (18, .getfield 232, 3, (3, 8, 418)), (21, .ifCond .ne 24, 3, (0, 0, 0)), (24, .iload_n 2, 1, (0, 0, 0)), (25, .iconst 1, 1, (0, 0, 0)), (26, .if_icmp .lt 19, 3, (0, 0, 0)), (29, .iload_n 2, 1, (0, 0, 0)), (30, .iconst 3, 1, (0, 0, 0)), (31, .if_icmp .gt 14, 3, (0, 0, 0)), (34, .iload_n 3, 1, (0, 0, 0)), (35, .iconst 1, 1, (0, 0, 0)), (36, .if_icmp .lt 9, 3, (0, 0, 0)), (39, .iload_n 3, 1, (0, 0, 0)), (40, .bipush 12, 2, (0, 0, 0)), (42, .if_icmp .le 5, 3, (0, 0, 0)), (45, .iconst (-1), 1, (0, 0, 0)), (46, .ireturn, 1, (0, 0, 0)), (47, .aload_n 0, 1, (0, 0, 0)), (48, .getfield 45, 3, (11, 4, 702)), (51, .iload_n 1, 1, (0, 0, 0)), (52, .iload_n 2, 1, (0, 0, 0)), (53, .iload_n 3, 1, (0, 0, 0)), (54, .invokevirtual 263, 3, (196, 0, 1115)), (57, .ireturn, 1, (0, 0, 0))]
set_option maxRecDepth 100000 in
def tb_X11_rewrite : List pI := [(0, .aload_n 0, 1, (0, 0, 0)), (1, .getfield 113, 3, (11, 9, 707)), (4, .ifCond .eq 27, 3, (0, 0, 0)), (7, .iload_n 2, 1, (0, 0, 0)), (8, .ifCond .lt 23, 3, (0, 0, 0)), (11, .iload_n 2, 1, (0, 0, 0)), (12, .aload_n 0, 1, (0, 0, 0)), (13, .getfield 26, 3, (11, 1, 699)), (16, .getfield 128, 3, (5, 12, 298)), (19, .if_icmp .ge 12, 3, (0, 0, 0)), (22, .iload_n 1, 1, (0, 0, 0)), (23, .ifCond .lt 8, 3, (0, 0, 0)), (26, .iload_n 1, 1, (0, 0, 0)), (27, .iconst 2, 1, (0, 0, 0)), (28, .if_icmp .le 5, 3, (0, 0, 0)), (31, .iconst (-1), 1, (0, 0, 0)), (32, .ireturn, 1, (0, 0, 0)), (33, .aload_n 0, 1, (0, 0, 0)), (34, .getfield 104, 3, (11, 10, 708)), (37, .ifCond .ne 14, 3, (0, 0, 0)), (40, .aload_n 0, 1, (0, 0, 0)), (41, .getfield 30, 3, (11, 2, 700)), (44, .aload_n 0, 1, (0, 0, 0)), (45, .getfield 26, 3, (11, 1, 699)), (48, .invokevirtual 305, 3, (82, 0, 1145)), (51, .aload_n 0, 1, (0, 0, 0)), (52, .getfield 30, 3, (11, 2, 700)), (55, .getfield 134, 3, (5, 6, 276)), (58, .bipush 17, 2, (0, 0, 0)), (60, .aaload, 1, (0, 0, 0)), (61, .iload_n 2, 1, (0, 0, 0)), (62, .iaload, 1, (0, 0, 0)), (63, .ifCond .eq 5, 3, (0, 0, 0)), (66, .iconst (-1), 1, (0, 0, 0)), (67, .ireturn, 1, (0, 0, 0)), (68, .aload_n 0, 1, (0, 0, 0)), (69, .getfield 30, 3, (11, 2, 700)), (72, .iload_n 1, 1, (0, 0, 0)), (73, .iload_n 2, 1, (0, 0, 0)), (74, .invokevirtual 309, 3, (105, 0, 1150)), (77, .ifCond .ne 5, 3, (0, 0, 0)), (80, .iconst 0, 1, (0, 0, 0)), (81, .ireturn, 1, (0, 0, 0)), (82, .aload_n 0, 1, (0, 0, 0)), (83, .invokevirtual 312, 3, (239, 0, 1195)), (86, .aload_n 0, 1, (0, 0, 0)), (87, .iconst 1, 1, (0, 0, 0)), (88, .putfield 104, 3, (11, 10, 708)), (91, .iconst 1, 1, (0, 0, 0)), (92, .ireturn, 1, (0, 0, 0))]
set_option maxRecDepth 100000 in
def tb_X11_drop : List pI := [(0, .aload_n 0, 1, (0, 0, 0)), (1, .getfield 104, 3, (11, 10, 708)), (4, .ifCond .ne 5, 3, (0, 0, 0)), (7, .iconst 0, 1, (0, 0, 0)), (8, .ireturn, 1, (0, 0, 0)), (9, .aload_n 0, 1, (0, 0, 0)), (10, .invokevirtual 312, 3, (239, 0, 1195)), (13, .aload_n 0, 1, (0, 0, 0)), (14, .iconst 0, 1, (0, 0, 0)), (15, .putfield 104, 3, (11, 10, 708)), (18, .iconst 1, 1, (0, 0, 0)), (19, .ireturn, 1, (0, 0, 0))]
set_option maxRecDepth 100000 in
def tb_X11_sound : List pI := [(0, .iload_n 1, 1, (0, 0, 0)), (1, .invokestatic 138, 3, (238, 0, 752)), (4, .ifCond .ne 5, 3, (0, 0, 0)), (7, .iconst (-1), 1, (0, 0, 0)), (8, .ireturn, 1, (0, 0, 0)), (9, .aload_n 0, 1, (0, 0, 0)), (10, .getfield 104, 3, (11, 10, 708)), (13, .ifCond .ne 6, 3, (0, 0, 0)), (16, .bipush (-2), 2, (0, 0, 0)), (18, .ireturn, 1, (0, 0, 0)), (19, .aload_n 0, 1, (0, 0, 0)), (20, .iconst 0, 1, (0, 0, 0)), (21, .putfield 209, 3, (11, 11, 709)), (24, .aload_n 0, 1, (0, 0, 0)), (25, .getfield 45, 3, (11, 4, 702)), (28, .aload_n 0, 1, (0, 0, 0)), (29, .getfield 26, 3, (11, 1, 699)), (32, .iload_n 1, 1, (0, 0, 0)), (33, .iconst 0, 1, (0, 0, 0)), (34, .invokevirtual 212, 3, (177, 0, 962)), (37, .ifCond .lt 23, 3, (0, 0, 0)), (40, .aload_n 0, 1, (0, 0, 0)), (41, .getfield 45, 3, (11, 4, 702)), (44, .getfield 228, 3, (10, 3, 525)), (47, .getfield 219, 3, (7, 3, 499)), (50, .sipush 4000, 3, (0, 0, 0)), (53, .if_icmp .gt 7, 3, (0, 0, 0)), (56, .iconst 1, 1, (0, 0, 0)), (57, .goto 4, 3, (0, 0, 0)), (60, .iconst 0, 1, (0, 0, 0)), (61, .istore_n 2, 1, (0, 0, 0)), (62, .aload_n 0, 1, (0, 0, 0)), (63, .getfield 45, 3, (11, 4, 702)), (66, .iconst 0, 1, (0, 0, 0)), (67, .putfield 97, 3, (10, 17, 542)), (70, .iload_n 2, 1, (0, 0, 0)), (71, .ifCond .ne 6, 3, (0, 0, 0)), (74, .bipush (-3), 2, (0, 0, 0)), (76, .ireturn, 1, (0, 0, 0)), (77, .aload_n 0, 1, (0, 0, 0)), (78, .getfield 57, 3, (11, 5, 703)), (81, .aload_n 0, 1, (0, 0, 0)), (82, .getfield 45, 3, (11, 4, 702)), (85, .getfield 228, 3, (10, 3, 525)), (88, .getfield 315, 3, (7, 4, 502)), (91, .sipush 4000, 3, (0, 0, 0)), (94, .invokevirtual 318, 3, (146, 0, 1207)), (97, .iconst 0, 1, (0, 0, 0)), (98, .istore_n 3, 1, (0, 0, 0)), (99, .iload_n 3, 1, (0, 0, 0)), (100, .aload_n 0, 1, (0, 0, 0)), (101, .getfield 45, 3, (11, 4, 702)), (104, .getfield 228, 3, (10, 3, 525)), (107, .getfield 219, 3, (7, 3, 499)), (110, .if_icmp .ge 39, 3, (0, 0, 0)), (113, .aload_n 0, 1, (0, 0, 0)), (114, .getfield 57, 3, (11, 5, 703)), (117, .aload_n 0, 1, (0, 0, 0)), (118, .getfield 45, 3, (11, 4, 702)), (121, .getfield 216, 3, (10, 2, 523)), (124, .getfield 321, 3, (7, 0, 492)), (127, .aload_n 0, 1, (0, 0, 0)), (128, .getfield 45, 3, (11, 4, 702)), (131, .getfield 228, 3, (10, 3, 525)), (134, .getfield 325, 3, (7, 1, 495)), (137, .iload_n 3, 1, (0, 0, 0)), (138, .iaload, 1, (0, 0, 0)), (139, .invokevirtual 327, 3, (150, 0, 1208)), (142, .pop, 1, (0, 0, 0)), (143, .iinc 3 1, 3, (0, 0, 0)), (146, .goto (-47), 3, (0, 0, 0)), (149, .aload_n 0, 1, (0, 0, 0)), (150, .iconst 1, 1, (0, 0, 0)), (151, .putfield 209, 3, (11, 11, 709)), (154, .aload_n 0, 1, (0, 0, 0)), (155, .getfield 45, 3, (11, 4, 702)), (158, .aload_n 0, 1, (0, 0, 0)), (159, .getfield 30, 3, (11, 2, 700)), (162, .iload_n 1, 1, (0, 0, 0)), (163, .iconst 0, 1, (0, 0, 0)), (164, .invokevirtual 212, 3, (177, 0, 962)), (167, .ifCond .ge 6, 3, (0, 0, 0)), (170, .bipush (-3), 2, (0, 0, 0)), (172, .ireturn, 1, (0, 0, 0)), (173, .iconst 0, 1, (0, 0, 0)), (174, .istore_n 3, 1, (0, 0, 0)), (175, .iload_n 3, 1, (0, 0, 0)), (176, .aload_n 0, 1, (0, 0, 0)), (177, .getfield 45, 3, (11, 4, 702)), (180, .getfield 228, 3, (10, 3, 525)), (183, .getfield 219, 3, (7, 3, 499)), (186, .if_icmp .ge 48, 3, (0, 0, 0)), (189, .aload_n 0, 1, (0, 0, 0)), (190, .getfield 57, 3, (11, 5, 703)), (193, .aload_n 0, 1, (0, 0, 0)), (194, .getfield 45, 3, (11, 4, 702)), (197, .getfield 216, 3, (10, 2, 523)), (200, .getfield 321, 3, (7, 0, 492)), (203, .aload_n 0, 1, (0, 0, 0)), (204, .getfield 45, 3, (11, 4, 702)), (207, .getfield 228, 3, (10, 3, 525)), (210, .getfield 325, 3, (7, 1, 495)), (213, .iload_n 3, 1, (0, 0, 0)), (214, .iaload, 1, (0, 0, 0)), (215, .invokevirtual 331, 3, (149, 0, 1209)), (218, .ifCond .ge 10, 3, (0, 0, 0)), (221, .aload_n 0, 1, (0, 0, 0)), (222, .iload_n 3, 1, (0, 0, 0)), (223, .putfield 88, 3, (11, 14, 712)), (226, .iconst 0, 1, (0, 0, 0)), (227, .ireturn, 1, (0, 0, 0)), (228, .iinc 3 1, 3, (0, 0, 0)), (231, .goto (-56), 3, (0, 0, 0)), (234, .iconst 1, 1, (0, 0, 0)), (235, .ireturn, 1, (0, 0, 0))]
set_option maxRecDepth 100000 in
def tb_X11_gained : List pI := [(0, .aload_n 0, 1, (0, 0, 0)), (1, .getfield 88, 3, (11, 14, 712)), (4, .ireturn, 1, (0, 0, 0))]
set_option maxRecDepth 100000 in
def tb_X11_isWay : List pI := [(0, .iload_n 0, 1, (0, 0, 0)), (1, .ifCond .lt 12, 3, (0, 0, 0)), (4, .iload_n 0, 1, (0, 0, 0)), (5, .iconst 2, 1, (0, 0, 0)), (6, .if_icmp .gt 7, 3, (0, 0, 0)), (9, .iconst 1, 1, (0, 0, 0)), (10, .goto 4, 3, (0, 0, 0)), (13, .iconst 0, 1, (0, 0, 0)), (14, .ireturn, 1, (0, 0, 0))]
set_option maxRecDepth 100000 in
def tb_X11_forgetRewritten : List pI := [(0, .aload_n 0, 1, (0, 0, 0)), (1, .getfield 209, 3, (11, 11, 709)), (4, .ifCond .eq 16, 3, (0, 0, 0)), (7, .aload_n 0, 1, (0, 0, 0)), (8, .getfield 45, 3, (11, 4, 702)), (11, .iconst 0, 1, (0, 0, 0)), (12, .putfield 97, 3, (10, 17, 542)), (15, .aload_n 0, 1, (0, 0, 0)), (16, .iconst 0, 1, (0, 0, 0)), (17, .putfield 209, 3, (11, 11, 709)), (20, .aload_n 0, 1, (0, 0, 0)), (21, .getfield 142, 3, (11, 12, 710)), (24, .ifCond .eq 16, 3, (0, 0, 0)), (27, .aload_n 0, 1, (0, 0, 0)), (28, .getfield 73, 3, (11, 7, 705)), (31, .iconst 0, 1, (0, 0, 0)), (32, .putfield 101, 3, (8, 4, 650)), (35, .aload_n 0, 1, (0, 0, 0)), (36, .iconst 0, 1, (0, 0, 0)), (37, .putfield 142, 3, (11, 12, 710)), (40, .return_, 1, (0, 0, 0))]
end
section
/-! the instructions of the methods, printed by program -/
set_option maxRecDepth 100000 in
def tb_J11_isValidCodePoint_9a6ad : List pI := [(0, .iload_n 0, 1, (0, 0, 0)), (1, .bipush 16, 2, (0, 0, 0)), (3, .iushr, 1, (0, 0, 0)), (4, .istore_n 1, 1, (0, 0, 0)), (5, .iload_n 1, 1, (0, 0, 0)), (6, .bipush 17, 2, (0, 0, 0)), (8, .if_icmp .ge 7, 3, (0, 0, 0)), (11, .iconst 1, 1, (0, 0, 0)), (12, .goto 4, 3, (0, 0, 0)), (15, .iconst 0, 1, (0, 0, 0)), (16, .ireturn, 1, (0, 0, 0))]
set_option maxRecDepth 100000 in
def tb_J11_highSurrogate_5068e : List pI := [(0, .iload_n 0, 1, (0, 0, 0)), (1, .bipush 10, 2, (0, 0, 0)), (3, .iushr, 1, (0, 0, 0)), (4, .ldc 110, 2, (55232, 0, 1386)), (6, .iadd, 1, (0, 0, 0)), (7, .i2c, 1, (0, 0, 0)), (8, .ireturn, 1, (0, 0, 0))]
set_option maxRecDepth 100000 in
def tb_J11_lowSurrogate_5068e : List pI := [(0, .iload_n 0, 1, (0, 0, 0)), (1, .sipush 1023, 3, (0, 0, 0)), (4, .iand, 1, (0, 0, 0)), (5, .ldc 76, 2, (56320, 0, 1390)), (7, .iadd, 1, (0, 0, 0)), (8, .i2c, 1, (0, 0, 0)), (9, .ireturn, 1, (0, 0, 0))]
set_option maxRecDepth 100000 in
def tb_J9_max_7cf53 : List pI := [(0, .iload_n 0, 1, (0, 0, 0)), (1, .iload_n 1, 1, (0, 0, 0)), (2, .if_icmp .lt 7, 3, (0, 0, 0)), (5, .iload_n 0, 1, (0, 0, 0)), (6, .goto 4, 3, (0, 0, 0)), (9, .iload_n 1, 1, (0, 0, 0)), (10, .ireturn, 1, (0, 0, 0))]
set_option maxRecDepth 100000 in
def tb_J9_min_7cf53 : List pI := [(0, .iload_n 0, 1, (0, 0, 0)), (1, .iload_n 1, 1, (0, 0, 0)), (2, .if_icmp .gt 7, 3, (0, 0, 0)), (5, .iload_n 0, 1, (0, 0, 0)), (6, .goto 4, 3, (0, 0, 0)), (9, .iload_n 1, 1, (0, 0, 0)), (10, .ireturn, 1, (0, 0, 0))]
set_option maxRecDepth 100000 in
def tb_J0_length_8abf5 : List pI := [(0, .aload_n 0, 1, (0, 0, 0)), (1, .getfield 9, 3, (-1, 1, 1615)), (4, .arraylength, 1, (0, 0, 0)), (5, .aload_n 0, 1, (0, 0, 0)), (6, .invokevirtual 335, 3, (417, 0, 135)), (9, .ishr, 1, (0, 0, 0)), (10, .ireturn, 1, (0, 0, 0))]
set_option maxRecDepth 100000 in
def tb_J0_charAt_5068e : List pI := [(0, .aload_n 0, 1, (0, 0, 0)), (1, .invokevirtual 492, 3, (418, 0, 145)), (4, .ifCond .eq 12, 3, (0, 0, 0)), (7, .aload_n 0, 1, (0, 0, 0)), (8, .getfield 9, 3, (-1, 1, 1615)), (11, .iload_n 1, 1, (0, 0, 0)), (12, .invokestatic 495, 3, (421, 0, 149)), (15, .ireturn, 1, (0, 0, 0)), (16, .aload_n 0, 1, (0, 0, 0)), (17, .getfield 9, 3, (-1, 1, 1615)), (20, .iload_n 1, 1, (0, 0, 0)), (21, .invokestatic 498, 3, (431, 0, 160)), (24, .ireturn, 1, (0, 0, 0))]
set_option maxRecDepth 100000 in
def tb_J0_indexOf_0f7a4 : List pI := [(0, .aload_n 0, 1, (0, 0, 0)), (1, .iload_n 1, 1, (0, 0, 0)), (2, .iconst 0, 1, (0, 0, 0)), (3, .invokevirtual 633, 3, (416, 0, 1340)), (6, .ireturn, 1, (0, 0, 0))]
set_option maxRecDepth 100000 in
def tb_J0_indexOf_7cf53 : List pI := [(0, .aload_n 0, 1, (0, 0, 0)), (1, .invokevirtual 492, 3, (418, 0, 145)), (4, .ifCond .eq 19, 3, (0, 0, 0)), (7, .aload_n 0, 1, (0, 0, 0)), (8, .getfield 9, 3, (-1, 1, 1615)), (11, .iload_n 1, 1, (0, 0, 0)), (12, .iload_n 2, 1, (0, 0, 0)), (13, .aload_n 0, 1, (0, 0, 0)), (14, .invokevirtual 505, 3, (413, 0, 1344)), (17, .invokestatic 637, 3, (423, 0, 1345)), (20, .goto 16, 3, (0, 0, 0)), (23, .aload_n 0, 1, (0, 0, 0)), (24, .getfield 9, 3, (-1, 1, 1615)), (27, .iload_n 1, 1, (0, 0, 0)), (28, .iload_n 2, 1, (0, 0, 0)), (29, .aload_n 0, 1, (0, 0, 0)), (30, .invokevirtual 505, 3, (413, 0, 1344)), (33, .invokestatic 640, 3, (427, 0, 1356)), (36, .ireturn, 1, (0, 0, 0))]
set_option maxRecDepth 100000 in
def tb_J0_coder_7d493 : List pI := [(0, .getstatic 38, 3, (0, 0, 139)), (3, .ifCond .eq 10, 3, (0, 0, 0)), (6, .aload_n 0, 1, (0, 0, 0)), (7, .getfield 15, 3, (-1, 0, 1616)), (10, .goto 4, 3, (0, 0, 0)), (13, .iconst 1, 1, (0, 0, 0)), (14, .ireturn, 1, (0, 0, 0))]
set_option maxRecDepth 100000 in
def tb_J0_isLatin1_aae02 : List pI := [(0, .getstatic 38, 3, (0, 0, 139)), (3, .ifCond .eq 14, 3, (0, 0, 0)), (6, .aload_n 0, 1, (0, 0, 0)), (7, .getfield 15, 3, (-1, 0, 1616)), (10, .ifCond .ne 7, 3, (0, 0, 0)), (13, .iconst 1, 1, (0, 0, 0)), (14, .goto 4, 3, (0, 0, 0)), (17, .iconst 0, 1, (0, 0, 0)), (18, .ireturn, 1, (0, 0, 0))]
set_option maxRecDepth 100000 in
def tb_J0_checkIndex_df160 : List pI := [(0, .iload_n 0, 1, (0, 0, 0)), (1, .iload_n 1, 1, (0, 0, 0)), (2, .getstatic 1053, 3, (0, 1, 155)), (5, .invokestatic 1059, 3, (436, 0, 157)), (8, .pop, 1, (0, 0, 0)), (9, .return_, 1, (0, 0, 0))]
set_option maxRecDepth 100000 in
def tb_J0_checkBoundsBeginEnd_23922 : List pI := [(0, .iload_n 0, 1, (0, 0, 0)), (1, .iload_n 1, 1, (0, 0, 0)), (2, .iload_n 2, 1, (0, 0, 0)), (3, .getstatic 1053, 3, (0, 1, 155)), (6, .invokestatic 1062, 3, (437, 0, 1371)), (9, .pop, 1, (0, 0, 0)), (10, .return_, 1, (0, 0, 0))]
set_option maxRecDepth 100000 in
def tb_J1_charAt_3b067 : List pI := [(0, .iload_n 1, 1, (0, 0, 0)), (1, .aload_n 0, 1, (0, 0, 0)), (2, .arraylength, 1, (0, 0, 0)), (3, .invokestatic 9, 3, (419, 0, 152)), (6, .aload_n 0, 1, (0, 0, 0)), (7, .iload_n 1, 1, (0, 0, 0)), (8, .baload, 1, (0, 0, 0)), (9, .sipush 255, 3, (0, 0, 0)), (12, .iand, 1, (0, 0, 0)), (13, .i2c, 1, (0, 0, 0)), (14, .ireturn, 1, (0, 0, 0))]
set_option maxRecDepth 100000 in
def tb_J1_canEncode_9a6ad : List pI := [(0, .iload_n 0, 1, (0, 0, 0)), (1, .ifCond .lt 14, 3, (0, 0, 0)), (4, .iload_n 0, 1, (0, 0, 0)), (5, .sipush 255, 3, (0, 0, 0)), (8, .if_icmp .gt 7, 3, (0, 0, 0)), (11, .iconst 1, 1, (0, 0, 0)), (12, .goto 4, 3, (0, 0, 0)), (15, .iconst 0, 1, (0, 0, 0)), (16, .ireturn, 1, (0, 0, 0))]
set_option maxRecDepth 100000 in
def tb_J1_indexOf_4cfef : List pI := [(0, .iload_n 1, 1, (0, 0, 0)), (1, .invokestatic 88, 3, (422, 0, 1348)), (4, .ifCond .ne 5, 3, (0, 0, 0)), (7, .iconst (-1), 1, (0, 0, 0)), (8, .ireturn, 1, (0, 0, 0)), (9, .iload_n 2, 1, (0, 0, 0)), (10, .iconst 0, 1, (0, 0, 0)), (11, .invokestatic 92, 3, (411, 0, 1351)), (14, .istore_n 2, 1, (0, 0, 0)), (15, .iload_n 3, 1, (0, 0, 0)), (16, .aload_n 0, 1, (0, 0, 0)), (17, .arraylength, 1, (0, 0, 0)), (18, .invokestatic 38, 3, (412, 0, 1352)), (21, .istore_n 3, 1, (0, 0, 0)), (22, .iload_n 2, 1, (0, 0, 0)), (23, .iload_n 3, 1, (0, 0, 0)), (24, .if_icmp .lt 5, 3, (0, 0, 0)), (27, .iconst (-1), 1, (0, 0, 0)), (28, .ireturn, 1, (0, 0, 0)), (29, .aload_n 0, 1, (0, 0, 0)), (30, .iload_n 1, 1, (0, 0, 0)), (31, .iload_n 2, 1, (0, 0, 0)), (32, .iload_n 3, 1, (0, 0, 0)), (33, .invokestatic 95, 3, (424, 0, 1353)), (36, .ireturn, 1, (0, 0, 0))]
set_option maxRecDepth 100000 in
def tb_J1_indexOfChar_4cfef : List pI := [(0, .iload_n 1, 1, (0, 0, 0)), (1, .i2b, 1, (0, 0, 0)), (2, .istore 4, 2, (0, 0, 0)), (4, .iload_n 2, 1, (0, 0, 0)), (5, .istore 5, 2, (0, 0, 0)), (7, .iload 5, 2, (0, 0, 0)), (9, .iload_n 3, 1, (0, 0, 0)), (10, .if_icmp .ge 21, 3, (0, 0, 0)), (13, .aload_n 0, 1, (0, 0, 0)), (14, .iload 5, 2, (0, 0, 0)), (16, .baload, 1, (0, 0, 0)), (17, .iload 4, 2, (0, 0, 0)), (19, .if_icmp .ne 6, 3, (0, 0, 0)), (22, .iload 5, 2, (0, 0, 0)), (24, .ireturn, 1, (0, 0, 0)), (25, .iinc 5 1, 3, (0, 0, 0)), (28, .goto (-21), 3, (0, 0, 0)), (31, .iconst (-1), 1, (0, 0, 0)), (32, .ireturn, 1, (0, 0, 0))]
set_option maxRecDepth 100000 in
def tb_J2_getChar_3b067 : List pI := [(3, .ifCond .ne 25, 3, (0, 0, 0)), (6, .iload_n 1, 1, (0, 0, 0)), (7, .ifCond .lt 11, 3, (0, 0, 0)), (10, .iload_n 1, 1, (0, 0, 0)), (11, .aload_n 0, 1, (0, 0, 0)), (12, .invokestatic 48, 3, (426, 0, 166)), (15, .if_icmp .lt 13, 3, (0, 0, 0)), (21, .dup, 1, (0, 0, 0)), (28, .iload_n 1, 1, (0, 0, 0)), (29, .iconst 1, 1, (0, 0, 0)), (30, .ishl, 1, (0, 0, 0)), (31, .istore_n 1, 1, (0, 0, 0)), (32, .aload_n 0, 1, (0, 0, 0)), (33, .iload_n 1, 1, (0, 0, 0)), (34, .iinc 1 1, 3, (0, 0, 0)), (37, .baload, 1, (0, 0, 0)), (38, .sipush 255, 3, (0, 0, 0)), (41, .iand, 1, (0, 0, 0)), (45, .ishl, 1, (0, 0, 0)), (46, .aload_n 0, 1, (0, 0, 0)), (47, .iload_n 1, 1, (0, 0, 0)), (48, .baload, 1, (0, 0, 0)), (49, .sipush 255, 3, (0, 0, 0)), (52, .iand, 1, (0, 0, 0)), (56, .ishl, 1, (0, 0, 0)), (57, .ior, 1, (0, 0, 0)), (58, .i2c, 1, (0, 0, 0)), (59, .ireturn, 1, (0, 0, 0))]
set_option maxRecDepth 100000 in
def tb_J2_length_9d52b : List pI := [(0, .aload_n 0, 1, (0, 0, 0)), (1, .arraylength, 1, (0, 0, 0)), (2, .iconst 1, 1, (0, 0, 0)), (3, .ishr, 1, (0, 0, 0)), (4, .ireturn, 1, (0, 0, 0))]
set_option maxRecDepth 100000 in
def tb_J2_indexOf_4cfef : List pI := [(0, .iload_n 2, 1, (0, 0, 0)), (1, .iconst 0, 1, (0, 0, 0)), (2, .invokestatic 224, 3, (411, 0, 1359)), (5, .istore_n 2, 1, (0, 0, 0)), (6, .iload_n 3, 1, (0, 0, 0)), (7, .aload_n 0, 1, (0, 0, 0)), (8, .arraylength, 1, (0, 0, 0)), (9, .iconst 1, 1, (0, 0, 0)), (10, .ishr, 1, (0, 0, 0)), (11, .invokestatic 183, 3, (412, 0, 1360)), (14, .istore_n 3, 1, (0, 0, 0)), (15, .iload_n 2, 1, (0, 0, 0)), (16, .iload_n 3, 1, (0, 0, 0)), (17, .if_icmp .lt 5, 3, (0, 0, 0)), (20, .iconst (-1), 1, (0, 0, 0)), (21, .ireturn, 1, (0, 0, 0)), (22, .iload_n 1, 1, (0, 0, 0)), (23, .ldc 227, 2, (65536, 0, 1361)), (25, .if_icmp .ge 11, 3, (0, 0, 0)), (28, .aload_n 0, 1, (0, 0, 0)), (29, .iload_n 1, 1, (0, 0, 0)), (30, .iload_n 2, 1, (0, 0, 0)), (31, .iload_n 3, 1, (0, 0, 0)), (32, .invokestatic 228, 3, (428, 0, 1362)), (35, .ireturn, 1, (0, 0, 0)), (36, .aload_n 0, 1, (0, 0, 0)), (37, .iload_n 1, 1, (0, 0, 0)), (38, .iload_n 2, 1, (0, 0, 0)), (39, .iload_n 3, 1, (0, 0, 0)), (40, .invokestatic 232, 3, (430, 0, 1377)), (43, .ireturn, 1, (0, 0, 0))]
set_option maxRecDepth 100000 in
def tb_J2_indexOfChar_4cfef : List pI := [(0, .iload_n 2, 1, (0, 0, 0)), (1, .iload_n 3, 1, (0, 0, 0)), (2, .aload_n 0, 1, (0, 0, 0)), (3, .invokestatic 96, 3, (433, 0, 1365)), (6, .aload_n 0, 1, (0, 0, 0)), (7, .iload_n 1, 1, (0, 0, 0)), (8, .iload_n 2, 1, (0, 0, 0)), (9, .iload_n 3, 1, (0, 0, 0)), (10, .invokestatic 244, 3, (429, 0, 1374)), (13, .ireturn, 1, (0, 0, 0))]
set_option maxRecDepth 100000 in
def tb_J2_indexOfCharUnsafe_4cfef : List pI := [(0, .iload_n 2, 1, (0, 0, 0)), (1, .istore 4, 2, (0, 0, 0)), (3, .iload 4, 2, (0, 0, 0)), (5, .iload_n 3, 1, (0, 0, 0)), (6, .if_icmp .ge 22, 3, (0, 0, 0)), (9, .aload_n 0, 1, (0, 0, 0)), (10, .iload 4, 2, (0, 0, 0)), (12, .invokestatic 71, 3, (425, 0, 170)), (15, .iload_n 1, 1, (0, 0, 0)), (16, .if_icmp .ne 6, 3, (0, 0, 0)), (19, .iload 4, 2, (0, 0, 0)), (21, .ireturn, 1, (0, 0, 0)), (22, .iinc 4 1, 3, (0, 0, 0)), (25, .goto (-22), 3, (0, 0, 0)), (28, .iconst (-1), 1, (0, 0, 0)), (29, .ireturn, 1, (0, 0, 0))]
set_option maxRecDepth 100000 in
def tb_J2_indexOfSupplementary_4cfef : List pI := [(0, .iload_n 1, 1, (0, 0, 0)), (1, .invokestatic 164, 3, (408, 0, 1380)), (4, .ifCond .eq 65, 3, (0, 0, 0)), (7, .iload_n 1, 1, (0, 0, 0)), (8, .invokestatic 157, 3, (409, 0, 1383)), (11, .istore 4, 2, (0, 0, 0)), (13, .iload_n 1, 1, (0, 0, 0)), (14, .invokestatic 161, 3, (410, 0, 1387)), (17, .istore 5, 2, (0, 0, 0)), (19, .iload_n 2, 1, (0, 0, 0)), (20, .iload_n 3, 1, (0, 0, 0)), (21, .aload_n 0, 1, (0, 0, 0)), (22, .invokestatic 96, 3, (433, 0, 1365)), (25, .iload_n 2, 1, (0, 0, 0)), (26, .istore 6, 2, (0, 0, 0)), (28, .iload 6, 2, (0, 0, 0)), (30, .iload_n 3, 1, (0, 0, 0)), (31, .iconst 1, 1, (0, 0, 0)), (32, .isub, 1, (0, 0, 0)), (33, .if_icmp .ge 36, 3, (0, 0, 0)), (36, .aload_n 0, 1, (0, 0, 0)), (37, .iload 6, 2, (0, 0, 0)), (39, .invokestatic 71, 3, (425, 0, 170)), (42, .iload 4, 2, (0, 0, 0)), (44, .if_icmp .ne 19, 3, (0, 0, 0)), (47, .aload_n 0, 1, (0, 0, 0)), (48, .iload 6, 2, (0, 0, 0)), (50, .iconst 1, 1, (0, 0, 0)), (51, .iadd, 1, (0, 0, 0)), (52, .invokestatic 71, 3, (425, 0, 170)), (55, .iload 5, 2, (0, 0, 0)), (57, .if_icmp .ne 6, 3, (0, 0, 0)), (60, .iload 6, 2, (0, 0, 0)), (62, .ireturn, 1, (0, 0, 0)), (63, .iinc 6 1, 3, (0, 0, 0)), (66, .goto (-38), 3, (0, 0, 0)), (69, .iconst (-1), 1, (0, 0, 0)), (70, .ireturn, 1, (0, 0, 0))]
set_option maxRecDepth 100000 in
def tb_J2_charAt_3b067 : List pI := [(0, .iload_n 1, 1, (0, 0, 0)), (1, .aload_n 0, 1, (0, 0, 0)), (2, .invokestatic 67, 3, (432, 0, 163)), (5, .aload_n 0, 1, (0, 0, 0)), (6, .iload_n 1, 1, (0, 0, 0)), (7, .invokestatic 71, 3, (425, 0, 170)), (10, .ireturn, 1, (0, 0, 0))]
set_option maxRecDepth 100000 in
def tb_J2_checkIndex_2214a : List pI := [(0, .iload_n 0, 1, (0, 0, 0)), (1, .aload_n 1, 1, (0, 0, 0)), (2, .invokestatic 48, 3, (426, 0, 166)), (5, .invokestatic 414, 3, (419, 0, 169)), (8, .return_, 1, (0, 0, 0))]
set_option maxRecDepth 100000 in
def tb_J2_checkBoundsBeginEnd_d044e : List pI := [(0, .iload_n 0, 1, (0, 0, 0)), (1, .iload_n 1, 1, (0, 0, 0)), (2, .aload_n 2, 1, (0, 0, 0)), (3, .invokestatic 48, 3, (426, 0, 166)), (6, .invokestatic 241, 3, (420, 0, 1368)), (9, .return_, 1, (0, 0, 0))]
set_option maxRecDepth 100000 in
def tb_J7_fill_d0a16 : List pI := [(0, .iconst 0, 1, (0, 0, 0)), (1, .istore_n 3, 1, (0, 0, 0)), (2, .aload_n 0, 1, (0, 0, 0)), (3, .arraylength, 1, (0, 0, 0)), (4, .istore 4, 2, (0, 0, 0)), (6, .iload_n 3, 1, (0, 0, 0)), (7, .iload 4, 2, (0, 0, 0)), (9, .if_icmp .ge 13, 3, (0, 0, 0)), (12, .aload_n 0, 1, (0, 0, 0)), (13, .iload_n 3, 1, (0, 0, 0)), (14, .lload_n 1, 1, (0, 0, 0)), (15, .lastore, 1, (0, 0, 0)), (16, .iinc 3 1, 3, (0, 0, 0)), (19, .goto (-13), 3, (0, 0, 0)), (22, .return_, 1, (0, 0, 0))]
set_option maxRecDepth 100000 in
def tb_J7_fill_53178 : List pI := [(0, .iconst 0, 1, (0, 0, 0)), (1, .istore_n 2, 1, (0, 0, 0)), (2, .aload_n 0, 1, (0, 0, 0)), (3, .arraylength, 1, (0, 0, 0)), (4, .istore_n 3, 1, (0, 0, 0)), (5, .iload_n 2, 1, (0, 0, 0)), (6, .iload_n 3, 1, (0, 0, 0)), (7, .if_icmp .ge 13, 3, (0, 0, 0)), (10, .aload_n 0, 1, (0, 0, 0)), (11, .iload_n 2, 1, (0, 0, 0)), (12, .iload_n 1, 1, (0, 0, 0)), (13, .iastore, 1, (0, 0, 0)), (14, .iinc 2 1, 3, (0, 0, 0)), (17, .goto (-12), 3, (0, 0, 0)), (20, .return_, 1, (0, 0, 0))]
set_option maxRecDepth 100000 in
def tb_J3_checkIndex_8e157 : List pI := [(0, .iload_n 0, 1, (0, 0, 0)), (1, .ifCond .lt 8, 3, (0, 0, 0)), (4, .iload_n 0, 1, (0, 0, 0)), (5, .iload_n 1, 1, (0, 0, 0)), (6, .if_icmp .lt 10, 3, (0, 0, 0)), (9, .aload_n 2, 1, (0, 0, 0)), (10, .iload_n 0, 1, (0, 0, 0)), (11, .iload_n 1, 1, (0, 0, 0)), (16, .iload_n 0, 1, (0, 0, 0)), (17, .ireturn, 1, (0, 0, 0))]
set_option maxRecDepth 100000 in
def tb_J3_checkFromToIndex_8c36e : List pI := [(0, .iload_n 0, 1, (0, 0, 0)), (1, .ifCond .lt 13, 3, (0, 0, 0)), (4, .iload_n 0, 1, (0, 0, 0)), (5, .iload_n 1, 1, (0, 0, 0)), (6, .if_icmp .gt 8, 3, (0, 0, 0)), (9, .iload_n 1, 1, (0, 0, 0)), (10, .iload_n 2, 1, (0, 0, 0)), (11, .if_icmp .le 11, 3, (0, 0, 0)), (14, .aload_n 3, 1, (0, 0, 0)), (15, .iload_n 0, 1, (0, 0, 0)), (16, .iload_n 1, 1, (0, 0, 0)), (17, .iload_n 2, 1, (0, 0, 0)), (22, .iload_n 0, 1, (0, 0, 0)), (23, .ireturn, 1, (0, 0, 0))]
set_option maxRecDepth 100000 in
def tb_L_cell : List pI := [(0, .iload_n 1, 1, (0, 0, 0)), (1, .aload_n 0, 1, (0, 0, 0)), (2, .arraylength, 1, (0, 0, 0)), (3, .if_icmp .ge 9, 3, (0, 0, 0)), (6, .aload_n 0, 1, (0, 0, 0)), (7, .iload_n 1, 1, (0, 0, 0)), (8, .iaload, 1, (0, 0, 0)), (9, .goto 11, 3, (0, 0, 0)), (12, .sipush 173, 3, (0, 0, 0)), (15, .iload_n 1, 1, (0, 0, 0)), (16, .imul, 1, (0, 0, 0)), (17, .bipush 37, 2, (0, 0, 0)), (19, .iadd, 1, (0, 0, 0)), (20, .ireturn, 1, (0, 0, 0))]
set_option maxRecDepth 100000 in
def tb_L_say : List pI := [(0, .aload_n 0, 1, (0, 0, 0)), (1, .lload_n 1, 1, (0, 0, 0)), (2, .bipush 32, 2, (0, 0, 0)), (4, .lshr, 1, (0, 0, 0)), (5, .l2i, 1, (0, 0, 0)), (6, .lload_n 1, 1, (0, 0, 0)), (7, .l2i, 1, (0, 0, 0)), (8, .lload_n 3, 1, (0, 0, 0)), (9, .bipush 32, 2, (0, 0, 0)), (11, .lshr, 1, (0, 0, 0)), (12, .l2i, 1, (0, 0, 0)), (13, .lload_n 3, 1, (0, 0, 0)), (14, .l2i, 1, (0, 0, 0)), (15, .iconst 0, 1, (0, 0, 0)), (16, .invokevirtual 7, 3, (202, 0, 1225)), (19, .istore 6, 2, (0, 0, 0)), (21, .aload_n 0, 1, (0, 0, 0)), (22, .iload 5, 2, (0, 0, 0)), (24, .invokevirtual 13, 3, (203, 0, 1233)), (27, .ireturn, 1, (0, 0, 0))]
set_option maxRecDepth 100000 in
def tb_L_statement_0 : List pI := [(0, .iconst 0, 1, (0, 0, 0)), (1, .istore_n 2, 1, (0, 0, 0)), (2, .iload_n 1, 1, (0, 0, 0)), (3, .bipush 15, 2, (0, 0, 0)), (5, .iand, 1, (0, 0, 0)), (6, .tableswitch 343 0 14 #[74, 88, 102, 116, 130, 157, 173, 199, 213, 242, 258, 272, 286, 313, 329], 74, (0, 0, 0)), (80, .aload_n 0, 1, (0, 0, 0)), (81, .ldc2_w 23, 3, (8655985692280291328, 0, 1246)), (84, .lconst 0, 1, (0, 0, 0)), (85, .bipush 6, 2, (0, 0, 0)), (87, .invokestatic 17, 3, (439, 0, 1222)), (90, .istore_n 2, 1, (0, 0, 0)), (91, .goto 294, 3, (0, 0, 0)), (94, .aload_n 0, 1, (0, 0, 0)), (95, .ldc2_w 25, 3, (8079524941168050176, 0, 1247)), (98, .lconst 0, 1, (0, 0, 0)), (99, .bipush 6, 2, (0, 0, 0)), (101, .invokestatic 17, 3, (439, 0, 1222)), (104, .istore_n 2, 1, (0, 0, 0)), (105, .goto 280, 3, (0, 0, 0)), (108, .aload_n 0, 1, (0, 0, 0)), (109, .ldc2_w 27, 3, (8728043287375183872, 0, 1248)), (112, .lconst 0, 1, (0, 0, 0)), (113, .bipush 6, 2, (0, 0, 0)), (115, .invokestatic 17, 3, (439, 0, 1222)), (118, .istore_n 2, 1, (0, 0, 0)), (119, .goto 266, 3, (0, 0, 0)), (122, .aload_n 0, 1, (0, 0, 0)), (123, .ldc2_w 29, 3, (8151582535222755328, 0, 1249)), (126, .lconst 0, 1, (0, 0, 0)), (127, .bipush 6, 2, (0, 0, 0)), (129, .invokestatic 17, 3, (439, 0, 1222)), (132, .istore_n 2, 1, (0, 0, 0)), (133, .goto 252, 3, (0, 0, 0)), (136, .aload_n 0, 1, (0, 0, 0)), (137, .ldc2_w 31, 3, (7813573190266993440, 0, 1250)), (140, .ldc2_w 33, 3, (8655985693337264245, 0, 1251)), (143, .bipush 16, 2, (0, 0, 0)), (145, .invokestatic 17, 3, (439, 0, 1222)), (148, .istore_n 2, 1, (0, 0, 0)), (149, .aload_n 0, 1, (0, 0, 0)), (150, .ldc2_w 35, 3, (7956857114446553403, 0, 1252)), (153, .lconst 0, 1, (0, 0, 0)), (154, .bipush 8, 2, (0, 0, 0)), (156, .invokestatic 17, 3, (439, 0, 1222)), (159, .istore_n 2, 1, (0, 0, 0)), (160, .goto 225, 3, (0, 0, 0)), (163, .aload_n 0, 1, (0, 0, 0)), (164, .ldc2_w 37, 3, (7017844209967964209, 0, 1253)), (167, .ldc2_w 39, 3, (2335519328127971643, 0, 1254)), (170, .bipush 16, 2, (0, 0, 0)), (172, .invokestatic 17, 3, (439, 0, 1222)), (175, .istore_n 2, 1, (0, 0, 0)), (176, .goto 209, 3, (0, 0, 0)), (179, .aload_n 0, 1, (0, 0, 0)), (180, .ldc2_w 41, 3, (7161131465804881968, 0, 1255)), (183, .ldc2_w 43, 3, (3179597551224386671, 0, 1256)), (186, .bipush 16, 2, (0, 0, 0)), (188, .invokestatic 17, 3, (439, 0, 1222)), (191, .istore_n 2, 1, (0, 0, 0)), (192, .aload_n 0, 1, (0, 0, 0)), (193, .ldc2_w 45, 3, (2337433077791326208, 0, 1257)), (196, .lconst 0, 1, (0, 0, 0)), (197, .iconst 3, 1, (0, 0, 0)), (198, .invokestatic 17, 3, (439, 0, 1222)), (201, .istore_n 2, 1, (0, 0, 0)), (202, .goto 183, 3, (0, 0, 0)), (205, .aload_n 0, 1, (0, 0, 0)), (206, .ldc2_w 47, 3, (7378424937695608832, 0, 1258)), (209, .lconst 0, 1, (0, 0, 0)), (210, .bipush 6, 2, (0, 0, 0)), (212, .invokestatic 17, 3, (439, 0, 1222)), (215, .istore_n 2, 1, (0, 0, 0)), (216, .goto 169, 3, (0, 0, 0)), (219, .aload_n 0, 1, (0, 0, 0)), (220, .ldc2_w 49, 3, (7594793487560286329, 0, 1259)), (223, .ldc2_w 51, 3, (2323048382905482528, 0, 1260)), (226, .bipush 16, 2, (0, 0, 0)), (228, .invokestatic 17, 3, (439, 0, 1222)), (231, .istore_n 2, 1, (0, 0, 0)), (232, .aload_n 0, 1, (0, 0, 0)), (233, .ldc2_w 53, 3, (7308343173489303665, 0, 1261)), (236, .ldc2_w 55, 3, (2323048395790384384, 0, 1262)), (239, .bipush 15, 2, (0, 0, 0)), (241, .invokestatic 17, 3, (439, 0, 1222)), (244, .istore_n 2, 1, (0, 0, 0)), (245, .goto 140, 3, (0, 0, 0)), (248, .aload_n 0, 1, (0, 0, 0)), (249, .ldc2_w 57, 3, (8079524941032074016, 0, 1263)), (252, .ldc2_w 59, 3, (3547429131484397568, 0, 1264)), (255, .bipush 10, 2, (0, 0, 0)), (257, .invokestatic 17, 3, (439, 0, 1222)), (260, .istore_n 2, 1, (0, 0, 0)), (261, .goto 124, 3, (0, 0, 0)), (264, .aload_n 0, 1, (0, 0, 0)), (265, .ldc2_w 61, 3, (8800100881429889024, 0, 1265)), (268, .lconst 0, 1, (0, 0, 0)), (269, .bipush 6, 2, (0, 0, 0)), (271, .invokestatic 17, 3, (439, 0, 1222)), (274, .istore_n 2, 1, (0, 0, 0)), (275, .goto 110, 3, (0, 0, 0)), (278, .aload_n 0, 1, (0, 0, 0)), (279, .ldc2_w 63, 3, (8151582535239532544, 0, 1266)), (282, .lconst 0, 1, (0, 0, 0)), (283, .bipush 6, 2, (0, 0, 0)), (285, .invokestatic 17, 3, (439, 0, 1222)), (288, .istore_n 2, 1, (0, 0, 0)), (289, .goto 96, 3, (0, 0, 0)), (292, .aload_n 0, 1, (0, 0, 0)), (293, .ldc2_w 65, 3, (7813573190267058976, 0, 1267)), (296, .ldc2_w 67, 3, (8151582535205986421, 0, 1268)), (299, .bipush 16, 2, (0, 0, 0)), (301, .invokestatic 17, 3, (439, 0, 1222)), (304, .istore_n 2, 1, (0, 0, 0)), (305, .aload_n 0, 1, (0, 0, 0)), (306, .ldc2_w 69, 3, (7956857114446553659, 0, 1269)), (309, .lconst 0, 1, (0, 0, 0)), (310, .bipush 8, 2, (0, 0, 0)), (312, .invokestatic 17, 3, (439, 0, 1222)), (315, .istore_n 2, 1, (0, 0, 0))]
set_option maxRecDepth 100000 in
def tb_L_statement_1 : List pI := [(316, .goto 69, 3, (0, 0, 0)), (319, .aload_n 0, 1, (0, 0, 0)), (320, .ldc2_w 71, 3, (7022083123549839473, 0, 1270)), (323, .ldc2_w 73, 3, (2322766937991413760, 0, 1271)), (326, .bipush 13, 2, (0, 0, 0)), (328, .invokestatic 17, 3, (439, 0, 1222)), (331, .istore_n 2, 1, (0, 0, 0)), (332, .goto 53, 3, (0, 0, 0)), (335, .aload_n 0, 1, (0, 0, 0)), (336, .ldc2_w 75, 3, (8728043286418882560, 0, 1272)), (339, .lconst 0, 1, (0, 0, 0)), (340, .bipush 6, 2, (0, 0, 0)), (342, .invokestatic 17, 3, (439, 0, 1222)), (345, .istore_n 2, 1, (0, 0, 0)), (346, .goto 39, 3, (0, 0, 0)), (349, .aload_n 0, 1, (0, 0, 0)), (350, .ldc2_w 31, 3, (7813573190266993440, 0, 1250)), (353, .ldc2_w 65, 3, (7813573190267058976, 0, 1267)), (356, .bipush 16, 2, (0, 0, 0)), (358, .invokestatic 17, 3, (439, 0, 1222)), (361, .istore_n 2, 1, (0, 0, 0)), (362, .aload_n 0, 1, (0, 0, 0)), (363, .ldc2_w 77, 3, (8461819975540875362, 0, 1273)), (366, .ldc2_w 79, 3, (4260534364618580843, 0, 1274)), (369, .bipush 16, 2, (0, 0, 0)), (371, .invokestatic 17, 3, (439, 0, 1222)), (374, .istore_n 2, 1, (0, 0, 0)), (375, .aload_n 0, 1, (0, 0, 0)), (376, .ldc2_w 81, 3, (2333210953140666368, 0, 1275)), (379, .lconst 0, 1, (0, 0, 0)), (380, .iconst 3, 1, (0, 0, 0)), (381, .invokestatic 17, 3, (439, 0, 1222)), (384, .istore_n 2, 1, (0, 0, 0)), (385, .iload_n 2, 1, (0, 0, 0)), (386, .ireturn, 1, (0, 0, 0))]
def tb_L_statement : List pI := tb_L_statement_0 ++ (tb_L_statement_1)
set_option maxRecDepth 100000 in
def tb_L_tell : List pI := [(0, .iconst 0, 1, (0, 0, 0)), (1, .istore 4, 2, (0, 0, 0)), (3, .aload_n 0, 1, (0, 0, 0)), (4, .ldc2_w 83, 3, (7162249994059660064, 0, 1220)), (7, .ldc2_w 85, 3, (7162249994059725600, 0, 1221)), (10, .bipush 16, 2, (0, 0, 0)), (12, .invokestatic 17, 3, (439, 0, 1222)), (15, .istore 4, 2, (0, 0, 0)), (17, .aload_n 0, 1, (0, 0, 0)), (18, .ldc2_w 87, 3, (7162249994059784310, 0, 1237)), (21, .ldc2_w 89, 3, (8028899388307563835, 0, 1238)), (24, .bipush 16, 2, (0, 0, 0)), (26, .invokestatic 17, 3, (439, 0, 1222)), (29, .istore 4, 2, (0, 0, 0)), (31, .aload_n 0, 1, (0, 0, 0)), (32, .ldc2_w 91, 3, (2336364779488174395, 0, 1239)), (35, .ldc2_w 93, 3, (2336364779488174651, 0, 1240)), (38, .bipush 16, 2, (0, 0, 0)), (40, .invokestatic 17, 3, (439, 0, 1222)), (43, .istore 4, 2, (0, 0, 0)), (45, .aload_n 0, 1, (0, 0, 0)), (46, .ldc2_w 95, 3, (2338608947048571936, 0, 1241)), (49, .ldc2_w 97, 3, (8367823485023551488, 0, 1242)), (52, .bipush 12, 2, (0, 0, 0)), (54, .invokestatic 17, 3, (439, 0, 1222)), (57, .istore 4, 2, (0, 0, 0)), (59, .iconst 0, 1, (0, 0, 0)), (60, .istore 5, 2, (0, 0, 0)), (62, .iload 5, 2, (0, 0, 0)), (64, .iload_n 3, 1, (0, 0, 0)), (65, .if_icmp .ge 23, 3, (0, 0, 0)), (68, .aload_n 0, 1, (0, 0, 0)), (69, .aload_n 1, 1, (0, 0, 0)), (70, .iload_n 2, 1, (0, 0, 0)), (71, .iload 5, 2, (0, 0, 0)), (73, .iadd, 1, (0, 0, 0)), (74, .invokestatic 99, 3, (438, 0, 1214)), (77, .invokestatic 103, 3, (440, 0, 1243)), (80, .istore 4, 2, (0, 0, 0)), (82, .iinc 5 1, 3, (0, 0, 0)), (85, .goto (-23), 3, (0, 0, 0)), (88, .aload_n 0, 1, (0, 0, 0)), (89, .ldc2_w 107, 3, (9016334445940400484, 0, 1276)), (92, .ldc2_w 109, 3, (2338811294678777856, 0, 1277)), (95, .bipush 13, 2, (0, 0, 0)), (97, .invokestatic 17, 3, (439, 0, 1222)), (100, .istore 4, 2, (0, 0, 0)), (102, .iconst 0, 1, (0, 0, 0)), (103, .istore 5, 2, (0, 0, 0)), (105, .iload 5, 2, (0, 0, 0)), (107, .iload_n 3, 1, (0, 0, 0)), (108, .if_icmp .ge 27, 3, (0, 0, 0)), (111, .aload_n 0, 1, (0, 0, 0)), (112, .aload_n 1, 1, (0, 0, 0)), (113, .iload_n 2, 1, (0, 0, 0)), (114, .iload_n 3, 1, (0, 0, 0)), (115, .iadd, 1, (0, 0, 0)), (116, .iload 5, 2, (0, 0, 0)), (118, .iadd, 1, (0, 0, 0)), (119, .invokestatic 99, 3, (438, 0, 1214)), (122, .iconst 4, 1, (0, 0, 0)), (123, .ishr, 1, (0, 0, 0)), (124, .invokestatic 103, 3, (440, 0, 1243)), (127, .istore 4, 2, (0, 0, 0)), (129, .iinc 5 1, 3, (0, 0, 0)), (132, .goto (-27), 3, (0, 0, 0)), (135, .aload_n 0, 1, (0, 0, 0)), (136, .ldc2_w 111, 3, (9007199254740992000, 0, 1278)), (139, .lconst 0, 1, (0, 0, 0)), (140, .iconst 1, 1, (0, 0, 0)), (141, .invokestatic 17, 3, (439, 0, 1222)), (144, .istore 4, 2, (0, 0, 0)), (146, .aload_n 0, 1, (0, 0, 0)), (147, .invokevirtual 113, 3, (204, 0, 1279)), (150, .ireturn, 1, (0, 0, 0))]
set_option maxRecDepth 100000 in
def tb_L_isIn : List pI := [(0, .iconst 0, 1, (0, 0, 0)), (1, .istore_n 3, 1, (0, 0, 0)), (2, .iconst 0, 1, (0, 0, 0)), (3, .istore 4, 2, (0, 0, 0)), (5, .iload 4, 2, (0, 0, 0)), (7, .iload_n 1, 1, (0, 0, 0)), (8, .if_icmp .ge 27, 3, (0, 0, 0)), (11, .iload_n 3, 1, (0, 0, 0)), (12, .ifCond .ne 11, 3, (0, 0, 0)), (15, .aload_n 0, 1, (0, 0, 0)), (16, .iload 4, 2, (0, 0, 0)), (18, .iaload, 1, (0, 0, 0)), (19, .iload_n 2, 1, (0, 0, 0)), (20, .if_icmp .ne 7, 3, (0, 0, 0)), (23, .iconst 1, 1, (0, 0, 0)), (24, .goto 4, 3, (0, 0, 0)), (27, .iconst 0, 1, (0, 0, 0)), (28, .istore_n 3, 1, (0, 0, 0)), (29, .iinc 4 1, 3, (0, 0, 0)), (32, .goto (-27), 3, (0, 0, 0)), (35, .iload_n 3, 1, (0, 0, 0)), (36, .ireturn, 1, (0, 0, 0))]
set_option maxRecDepth 100000 in
def tb_L_sum : List pI := [(0, .aload_n 0, 1, (0, 0, 0)), (1, .iload_n 1, 1, (0, 0, 0)), (2, .iconst 0, 1, (0, 0, 0)), (3, .invokevirtual 175, 3, (222, 0, 1568)), (6, .istore_n 2, 1, (0, 0, 0)), (7, .iconst 0, 1, (0, 0, 0)), (8, .istore_n 3, 1, (0, 0, 0)), (9, .iload_n 3, 1, (0, 0, 0)), (10, .iconst 3, 1, (0, 0, 0)), (11, .if_icmp .ge 22, 3, (0, 0, 0)), (14, .sipush 1009, 3, (0, 0, 0)), (17, .iload_n 2, 1, (0, 0, 0)), (18, .imul, 1, (0, 0, 0)), (19, .aload_n 0, 1, (0, 0, 0)), (20, .iload_n 1, 1, (0, 0, 0)), (21, .iload_n 3, 1, (0, 0, 0)), (22, .invokevirtual 178, 3, (223, 0, 1605)), (25, .iadd, 1, (0, 0, 0)), (26, .istore_n 2, 1, (0, 0, 0)), (27, .iinc 3 1, 3, (0, 0, 0)), (30, .goto (-21), 3, (0, 0, 0)), (33, .iconst 0, 1, (0, 0, 0)), (34, .istore_n 3, 1, (0, 0, 0)), (35, .iload_n 3, 1, (0, 0, 0)), (36, .iconst 2, 1, (0, 0, 0)), (37, .if_icmp .ge 39, 3, (0, 0, 0)), (40, .iconst 0, 1, (0, 0, 0)), (41, .istore 4, 2, (0, 0, 0)), (43, .iload 4, 2, (0, 0, 0)), (45, .iconst 2, 1, (0, 0, 0)), (46, .if_icmp .ge 24, 3, (0, 0, 0)), (49, .sipush 1013, 3, (0, 0, 0)), (52, .iload_n 2, 1, (0, 0, 0)), (53, .imul, 1, (0, 0, 0)), (54, .aload_n 0, 1, (0, 0, 0)), (55, .iload_n 1, 1, (0, 0, 0)), (56, .iload_n 3, 1, (0, 0, 0)), (57, .iload 4, 2, (0, 0, 0)), (59, .invokevirtual 181, 3, (224, 0, 1609)), (62, .iadd, 1, (0, 0, 0)), (63, .istore_n 2, 1, (0, 0, 0)), (64, .iinc 4 1, 3, (0, 0, 0)), (67, .goto (-24), 3, (0, 0, 0)), (70, .iinc 3 1, 3, (0, 0, 0)), (73, .goto (-38), 3, (0, 0, 0)), (76, .iload_n 2, 1, (0, 0, 0)), (77, .ireturn, 1, (0, 0, 0))]
set_option maxRecDepth 100000 in
def tb_law_0 : List pI := [(0, .new 8, 3, (11, 0, 113)), (3, .dup, 1, (0, 0, 0)), (4, .invokespecial 117, 3, (201, 0, 115)), (7, .astore_n 1, 1, (0, 0, 0)), (8, .aload_n 1, 1, (0, 0, 0)), (9, .aload_n 0, 1, (0, 0, 0)), (10, .iconst 1, 1, (0, 0, 0)), (11, .iconst 2, 1, (0, 0, 0)), (12, .invokestatic 118, 3, (441, 0, 1217)), (15, .ifCond .eq 5, 3, (0, 0, 0)), (18, .iconst 0, 1, (0, 0, 0)), (19, .ireturn, 1, (0, 0, 0)), (20, .aload_n 1, 1, (0, 0, 0)), (21, .iconst 0, 1, (0, 0, 0)), (22, .iconst 0, 1, (0, 0, 0)), (23, .invokevirtual 122, 3, (220, 0, 958)), (26, .istore_n 2, 1, (0, 0, 0)), (27, .aload_n 1, 1, (0, 0, 0)), (28, .iconst 3, 1, (0, 0, 0)), (29, .invokevirtual 126, 3, (221, 0, 1103)), (32, .istore_n 3, 1, (0, 0, 0)), (33, .iload_n 2, 1, (0, 0, 0)), (34, .iconst 2, 1, (0, 0, 0)), (35, .if_icmp .lt 9, 3, (0, 0, 0)), (38, .iload_n 3, 1, (0, 0, 0)), (39, .bipush 30, 2, (0, 0, 0)), (41, .if_icmp .le 21, 3, (0, 0, 0)), (44, .iload_n 2, 1, (0, 0, 0)), (45, .bipush (-3), 2, (0, 0, 0)), (47, .if_icmp .eq 9, 3, (0, 0, 0)), (50, .iload_n 3, 1, (0, 0, 0)), (51, .bipush 30, 2, (0, 0, 0)), (53, .if_icmp .le 7, 3, (0, 0, 0)), (56, .iconst 1, 1, (0, 0, 0)), (57, .goto 4, 3, (0, 0, 0)), (60, .iconst 0, 1, (0, 0, 0)), (61, .ireturn, 1, (0, 0, 0)), (62, .bipush 64, 2, (0, 0, 0)), (64, .newarray .int, 2, (0, 0, 222)), (66, .astore 4, 2, (0, 0, 0)), (68, .iconst 0, 1, (0, 0, 0)), (69, .istore 5, 2, (0, 0, 0)), (71, .iload 5, 2, (0, 0, 0)), (73, .iload_n 3, 1, (0, 0, 0)), (74, .if_icmp .ge 20, 3, (0, 0, 0)), (77, .aload 4, 2, (0, 0, 0)), (79, .iload 5, 2, (0, 0, 0)), (81, .aload_n 1, 1, (0, 0, 0)), (82, .iload 5, 2, (0, 0, 0)), (84, .invokestatic 129, 3, (443, 0, 1565)), (87, .iastore, 1, (0, 0, 0)), (88, .iinc 5 1, 3, (0, 0, 0)), (91, .goto (-20), 3, (0, 0, 0)), (94, .iconst 1, 1, (0, 0, 0)), (95, .aload_n 0, 1, (0, 0, 0)), (96, .iconst 0, 1, (0, 0, 0)), (97, .invokestatic 99, 3, (438, 0, 1214)), (100, .iconst 1, 1, (0, 0, 0)), (101, .iand, 1, (0, 0, 0)), (102, .iadd, 1, (0, 0, 0)), (103, .istore 5, 2, (0, 0, 0)), (105, .iconst 1, 1, (0, 0, 0)), (106, .aload_n 0, 1, (0, 0, 0)), (107, .iconst 0, 1, (0, 0, 0)), (108, .invokestatic 99, 3, (438, 0, 1214)), (111, .iconst 1, 1, (0, 0, 0)), (112, .ishr, 1, (0, 0, 0)), (113, .bipush 7, 2, (0, 0, 0)), (115, .iand, 1, (0, 0, 0)), (116, .iadd, 1, (0, 0, 0)), (117, .istore 6, 2, (0, 0, 0)), (119, .iconst 0, 1, (0, 0, 0)), (120, .istore 7, 2, (0, 0, 0)), (122, .iconst 0, 1, (0, 0, 0)), (123, .istore 8, 2, (0, 0, 0)), (125, .iload 8, 2, (0, 0, 0)), (127, .iload_n 3, 1, (0, 0, 0)), (128, .if_icmp .ge 24, 3, (0, 0, 0)), (131, .iload 7, 2, (0, 0, 0)), (133, .aload_n 1, 1, (0, 0, 0)), (134, .iload 8, 2, (0, 0, 0)), (136, .iload 5, 2, (0, 0, 0)), (138, .iload 6, 2, (0, 0, 0)), (140, .invokevirtual 132, 3, (227, 0, 1107)), (143, .iadd, 1, (0, 0, 0)), (144, .istore 7, 2, (0, 0, 0)), (146, .iinc 8 1, 3, (0, 0, 0)), (149, .goto (-24), 3, (0, 0, 0)), (152, .iload 7, 2, (0, 0, 0)), (154, .iconst 2, 1, (0, 0, 0)), (155, .iload 5, 2, (0, 0, 0)), (157, .iconst 1, 1, (0, 0, 0)), (158, .if_icmp .ne 7, 3, (0, 0, 0)), (161, .iconst 1, 1, (0, 0, 0)), (162, .goto 5, 3, (0, 0, 0)), (165, .iload 6, 2, (0, 0, 0)), (167, .imul, 1, (0, 0, 0)), (168, .if_icmp .eq 5, 3, (0, 0, 0)), (171, .iconst 0, 1, (0, 0, 0)), (172, .ireturn, 1, (0, 0, 0)), (173, .aload_n 1, 1, (0, 0, 0)), (174, .iconst 0, 1, (0, 0, 0)), (175, .iconst 1, 1, (0, 0, 0)), (176, .invokevirtual 122, 3, (220, 0, 958)), (179, .istore 8, 2, (0, 0, 0)), (181, .iload 8, 2, (0, 0, 0)), (183, .iload_n 2, 1, (0, 0, 0)), (184, .if_icmp .gt 21, 3, (0, 0, 0)), (187, .aload_n 1, 1, (0, 0, 0)), (188, .iconst 3, 1, (0, 0, 0)), (189, .invokevirtual 126, 3, (221, 0, 1103)), (192, .iload_n 3, 1, (0, 0, 0)), (193, .if_icmp .ne 12, 3, (0, 0, 0)), (196, .aload_n 1, 1, (0, 0, 0)), (197, .iconst 5, 1, (0, 0, 0)), (198, .invokevirtual 126, 3, (221, 0, 1103)), (201, .iconst 1, 1, (0, 0, 0)), (202, .if_icmp .eq 5, 3, (0, 0, 0)), (205, .iconst 0, 1, (0, 0, 0)), (206, .ireturn, 1, (0, 0, 0))]
set_option maxRecDepth 100000 in
def tb_law_1 : List pI := [(207, .iconst 0, 1, (0, 0, 0)), (208, .istore 9, 2, (0, 0, 0)), (210, .iload 9, 2, (0, 0, 0)), (212, .iload_n 3, 1, (0, 0, 0)), (213, .if_icmp .ge 26, 3, (0, 0, 0)), (216, .aload 4, 2, (0, 0, 0)), (218, .iload_n 3, 1, (0, 0, 0)), (219, .aload_n 1, 1, (0, 0, 0)), (220, .iload 9, 2, (0, 0, 0)), (222, .invokestatic 129, 3, (443, 0, 1565)), (225, .invokestatic 136, 3, (442, 0, 1562)), (228, .ifCond .ne 5, 3, (0, 0, 0)), (231, .iconst 0, 1, (0, 0, 0)), (232, .ireturn, 1, (0, 0, 0)), (233, .iinc 9 1, 3, (0, 0, 0)), (236, .goto (-26), 3, (0, 0, 0)), (239, .aload_n 1, 1, (0, 0, 0)), (240, .iconst 0, 1, (0, 0, 0)), (241, .invokevirtual 140, 3, (207, 0, 748)), (244, .istore 9, 2, (0, 0, 0)), (246, .iconst 0, 1, (0, 0, 0)), (247, .istore 10, 2, (0, 0, 0)), (249, .iload 9, 2, (0, 0, 0)), (251, .ifCond .le 56, 3, (0, 0, 0)), (254, .iload 10, 2, (0, 0, 0)), (256, .bipush 40, 2, (0, 0, 0)), (258, .if_icmp .ge 49, 3, (0, 0, 0)), (261, .aload_n 1, 1, (0, 0, 0)), (262, .aload_n 0, 1, (0, 0, 0)), (263, .bipush 6, 2, (0, 0, 0)), (265, .iload 10, 2, (0, 0, 0)), (267, .bipush 20, 2, (0, 0, 0)), (269, .irem, 1, (0, 0, 0)), (270, .iadd, 1, (0, 0, 0)), (271, .invokestatic 99, 3, (438, 0, 1214)), (274, .ldc 143, 2, (2147483647, 0, 1613)), (276, .iand, 1, (0, 0, 0)), (277, .iload 9, 2, (0, 0, 0)), (279, .irem, 1, (0, 0, 0)), (280, .invokevirtual 144, 3, (208, 0, 813)), (283, .istore 11, 2, (0, 0, 0)), (285, .aload_n 1, 1, (0, 0, 0)), (286, .iload 11, 2, (0, 0, 0)), (288, .bipush 10, 2, (0, 0, 0)), (290, .idiv, 1, (0, 0, 0)), (291, .iload 11, 2, (0, 0, 0)), (293, .bipush 10, 2, (0, 0, 0)), (295, .irem, 1, (0, 0, 0)), (296, .invokevirtual 147, 3, (209, 0, 817)), (299, .istore 9, 2, (0, 0, 0)), (301, .iinc 10 1, 3, (0, 0, 0)), (304, .goto (-55), 3, (0, 0, 0)), (307, .aload_n 1, 1, (0, 0, 0)), (308, .iconst 0, 1, (0, 0, 0)), (309, .iconst 0, 1, (0, 0, 0)), (310, .invokevirtual 151, 3, (210, 0, 933)), (313, .iconst 4, 1, (0, 0, 0)), (314, .if_icmp .ne 17, 3, (0, 0, 0)), (317, .aload_n 1, 1, (0, 0, 0)), (318, .iconst 1, 1, (0, 0, 0)), (319, .iconst 0, 1, (0, 0, 0)), (320, .invokevirtual 151, 3, (210, 0, 933)), (323, .iconst 4, 1, (0, 0, 0)), (324, .if_icmp .ne 7, 3, (0, 0, 0)), (327, .iconst 0, 1, (0, 0, 0)), (328, .goto 28, 3, (0, 0, 0)), (331, .aload_n 1, 1, (0, 0, 0)), (332, .iconst 0, 1, (0, 0, 0)), (333, .iconst 0, 1, (0, 0, 0)), (334, .invokevirtual 151, 3, (210, 0, 933)), (337, .iconst 5, 1, (0, 0, 0)), (338, .if_icmp .eq 13, 3, (0, 0, 0)), (341, .aload_n 1, 1, (0, 0, 0)), (342, .iconst 1, 1, (0, 0, 0)), (343, .iconst 0, 1, (0, 0, 0)), (344, .invokevirtual 151, 3, (210, 0, 933)), (347, .iconst 5, 1, (0, 0, 0)), (348, .if_icmp .ne 7, 3, (0, 0, 0)), (351, .iconst 2, 1, (0, 0, 0)), (352, .goto 4, 3, (0, 0, 0)), (355, .iconst 1, 1, (0, 0, 0)), (356, .istore 11, 2, (0, 0, 0)), (358, .iconst 0, 1, (0, 0, 0)), (359, .istore 12, 2, (0, 0, 0)), (361, .iload 12, 2, (0, 0, 0)), (363, .iconst 3, 1, (0, 0, 0)), (364, .if_icmp .ge 24, 3, (0, 0, 0)), (367, .sipush 1009, 3, (0, 0, 0)), (370, .iload 11, 2, (0, 0, 0)), (372, .imul, 1, (0, 0, 0)), (373, .aload_n 1, 1, (0, 0, 0)), (374, .iload 12, 2, (0, 0, 0)), (376, .invokevirtual 154, 3, (212, 0, 950)), (379, .iadd, 1, (0, 0, 0)), (380, .istore 11, 2, (0, 0, 0)), (382, .iinc 12 1, 3, (0, 0, 0)), (385, .goto (-24), 3, (0, 0, 0)), (388, .iconst 0, 1, (0, 0, 0)), (389, .istore 12, 2, (0, 0, 0)), (391, .iload 12, 2, (0, 0, 0)), (393, .iconst 2, 1, (0, 0, 0)), (394, .if_icmp .ge 41, 3, (0, 0, 0)), (397, .iconst 0, 1, (0, 0, 0)), (398, .istore 13, 2, (0, 0, 0)), (400, .iload 13, 2, (0, 0, 0)), (402, .iconst 2, 1, (0, 0, 0)), (403, .if_icmp .ge 26, 3, (0, 0, 0)), (406, .sipush 1013, 3, (0, 0, 0)), (409, .iload 11, 2, (0, 0, 0)), (411, .imul, 1, (0, 0, 0)), (412, .aload_n 1, 1, (0, 0, 0)), (413, .iload 12, 2, (0, 0, 0)), (415, .iload 13, 2, (0, 0, 0)), (417, .invokevirtual 156, 3, (211, 0, 937)), (420, .iadd, 1, (0, 0, 0)), (421, .istore 11, 2, (0, 0, 0)), (423, .iinc 13 1, 3, (0, 0, 0)), (426, .goto (-26), 3, (0, 0, 0)), (429, .iinc 12 1, 3, (0, 0, 0)), (432, .goto (-41), 3, (0, 0, 0))]
set_option maxRecDepth 100000 in
def tb_law_2 : List pI := [(435, .iload 9, 2, (0, 0, 0)), (437, .ifCond .ne 14, 3, (0, 0, 0)), (440, .aload 4, 2, (0, 0, 0)), (442, .iload_n 3, 1, (0, 0, 0)), (443, .iload 11, 2, (0, 0, 0)), (445, .invokestatic 136, 3, (442, 0, 1562)), (448, .ifCond .ne 5, 3, (0, 0, 0)), (451, .iconst 0, 1, (0, 0, 0)), (452, .ireturn, 1, (0, 0, 0)), (453, .aload_n 0, 1, (0, 0, 0)), (454, .iconst 5, 1, (0, 0, 0)), (455, .invokestatic 99, 3, (438, 0, 1214)), (458, .ldc 143, 2, (2147483647, 0, 1613)), (460, .iand, 1, (0, 0, 0)), (461, .iconst 3, 1, (0, 0, 0)), (462, .irem, 1, (0, 0, 0)), (463, .istore 12, 2, (0, 0, 0)), (465, .aload_n 0, 1, (0, 0, 0)), (466, .iconst 5, 1, (0, 0, 0)), (467, .invokestatic 99, 3, (438, 0, 1214)), (470, .iconst 3, 1, (0, 0, 0)), (471, .ishr, 1, (0, 0, 0)), (472, .ldc 159, 2, (134217727, 0, 1614)), (474, .iand, 1, (0, 0, 0)), (475, .aload_n 1, 1, (0, 0, 0)), (476, .bipush 6, 2, (0, 0, 0)), (478, .invokevirtual 160, 3, (205, 0, 744)), (481, .irem, 1, (0, 0, 0)), (482, .istore 13, 2, (0, 0, 0)), (484, .aload_n 1, 1, (0, 0, 0)), (485, .iload 12, 2, (0, 0, 0)), (487, .iload 13, 2, (0, 0, 0)), (489, .invokevirtual 163, 3, (234, 0, 1141)), (492, .istore 14, 2, (0, 0, 0)), (494, .iload 14, 2, (0, 0, 0)), (496, .ifCond .ne 26, 3, (0, 0, 0)), (499, .aload_n 1, 1, (0, 0, 0)), (500, .iconst 0, 1, (0, 0, 0)), (501, .invokevirtual 166, 3, (236, 0, 1203)), (504, .bipush (-2), 2, (0, 0, 0)), (506, .if_icmp .ne 14, 3, (0, 0, 0)), (509, .aload_n 1, 1, (0, 0, 0)), (510, .invokevirtual 169, 3, (235, 0, 1199)), (513, .ifCond .ne 7, 3, (0, 0, 0)), (516, .iconst 1, 1, (0, 0, 0)), (517, .goto 4, 3, (0, 0, 0)), (520, .iconst 0, 1, (0, 0, 0)), (521, .ireturn, 1, (0, 0, 0)), (522, .aload_n 1, 1, (0, 0, 0)), (523, .iconst 0, 1, (0, 0, 0)), (524, .invokevirtual 166, 3, (236, 0, 1203)), (527, .istore 15, 2, (0, 0, 0)), (529, .iload 14, 2, (0, 0, 0)), (531, .iconst 1, 1, (0, 0, 0)), (532, .if_icmp .ne 36, 3, (0, 0, 0)), (535, .iload 15, 2, (0, 0, 0)), (537, .ifCond .lt 31, 3, (0, 0, 0)), (540, .iload 15, 2, (0, 0, 0)), (542, .iconst 1, 1, (0, 0, 0)), (543, .if_icmp .ne 7, 3, (0, 0, 0)), (546, .iconst 1, 1, (0, 0, 0)), (547, .goto 4, 3, (0, 0, 0)), (550, .iconst 0, 1, (0, 0, 0)), (551, .aload_n 1, 1, (0, 0, 0)), (552, .invokevirtual 172, 3, (237, 0, 1210)), (555, .bipush (-2), 2, (0, 0, 0)), (557, .if_icmp .ne 7, 3, (0, 0, 0)), (560, .iconst 1, 1, (0, 0, 0)), (561, .goto 4, 3, (0, 0, 0)), (564, .iconst 0, 1, (0, 0, 0)), (565, .if_icmp .eq 5, 3, (0, 0, 0)), (568, .iconst 0, 1, (0, 0, 0)), (569, .ireturn, 1, (0, 0, 0)), (570, .iconst 0, 1, (0, 0, 0)), (571, .istore 16, 2, (0, 0, 0)), (573, .iload 16, 2, (0, 0, 0)), (575, .aload_n 1, 1, (0, 0, 0)), (576, .iconst 3, 1, (0, 0, 0)), (577, .invokevirtual 126, 3, (221, 0, 1103)), (580, .if_icmp .ge 45, 3, (0, 0, 0)), (583, .aload 4, 2, (0, 0, 0)), (585, .iload_n 3, 1, (0, 0, 0)), (586, .aload_n 1, 1, (0, 0, 0)), (587, .iload 16, 2, (0, 0, 0)), (589, .invokestatic 129, 3, (443, 0, 1565)), (592, .invokestatic 136, 3, (442, 0, 1562)), (595, .istore 17, 2, (0, 0, 0)), (597, .iload 17, 2, (0, 0, 0)), (599, .ifCond .ne 20, 3, (0, 0, 0)), (602, .iload 15, 2, (0, 0, 0)), (604, .iconst 1, 1, (0, 0, 0)), (605, .if_icmp .eq 12, 3, (0, 0, 0)), (608, .iload 16, 2, (0, 0, 0)), (610, .aload_n 1, 1, (0, 0, 0)), (611, .invokevirtual 172, 3, (237, 0, 1210)), (614, .if_icmp .ge 5, 3, (0, 0, 0)), (617, .iconst 0, 1, (0, 0, 0)), (618, .ireturn, 1, (0, 0, 0)), (619, .iinc 16 1, 3, (0, 0, 0)), (622, .goto (-49), 3, (0, 0, 0)), (625, .aload_n 1, 1, (0, 0, 0)), (626, .invokevirtual 169, 3, (235, 0, 1199)), (629, .iconst 1, 1, (0, 0, 0)), (630, .if_icmp .ne 35, 3, (0, 0, 0)), (633, .aload_n 1, 1, (0, 0, 0)), (634, .iconst 0, 1, (0, 0, 0)), (635, .invokevirtual 126, 3, (221, 0, 1103)), (638, .iconst (-1), 1, (0, 0, 0)), (639, .if_icmp .ne 26, 3, (0, 0, 0)), (642, .aload_n 1, 1, (0, 0, 0)), (643, .iconst 0, 1, (0, 0, 0)), (644, .iconst 0, 1, (0, 0, 0)), (645, .invokevirtual 122, 3, (220, 0, 958)), (648, .iload_n 2, 1, (0, 0, 0)), (649, .if_icmp .ne 16, 3, (0, 0, 0)), (652, .aload_n 1, 1, (0, 0, 0)), (653, .iconst 3, 1, (0, 0, 0)), (654, .invokevirtual 126, 3, (221, 0, 1103)), (657, .iload_n 3, 1, (0, 0, 0)), (658, .if_icmp .ne 7, 3, (0, 0, 0))]
set_option maxRecDepth 100000 in
def tb_law_3 : List pI := [(661, .iconst 1, 1, (0, 0, 0)), (662, .goto 4, 3, (0, 0, 0)), (665, .iconst 0, 1, (0, 0, 0)), (666, .ireturn, 1, (0, 0, 0))]
def tb_law : List pI := tb_law_0 ++ (tb_law_1 ++ (tb_law_2 ++ (tb_law_3)))
end
section
/-! all methods -/
def m_X0_init : pM := (yX0_init, cX0_init, 1, none, 0, 2, 0, (458, 457, 0, 104), tb_X0_init)
def m_X0_clear : pM := (yX0_clear, cX0_clear, 2, none, 1, 0, 0, (982, 980, 981, 104), tb_X0_clear)
def m_X0_see : pM := (yX0_see, cX0_see, 8, none, 2, 0, 0, (1035, 1033, 1034, 104), tb_X0_see)
def m_X0_noteRace : pM := (yX0_noteRace, cX0_noteRace, 4, none, 3, 0, 0, (1057, 1056, 36, 104), tb_X0_noteRace)
def m_X0_noteTaking : pM := (yX0_noteTaking, cX0_noteTaking, 6, none, 2, 0, 0, (1097, 1095, 1096, 104), tb_X0_noteTaking)
def m_X0_seeStuck : pM := (yX0_seeStuck, cX0_seeStuck, 5, none, 2, 0, 0, (1065, 1063, 1064, 104), tb_X0_seeStuck)
def m_X0_noteStuck : pM := (yX0_noteStuck, cX0_noteStuck, 4, none, 3, 0, 0, (1077, 1076, 39, 104), tb_X0_noteStuck)
def m_X0_leastInRing : pM := (yX0_leastInRing, cX0_leastInRing, 6, (some .int), 1, 0, 0, (1069, 1068, 38, 104), tb_X0_leastInRing)
def m_X1_init : pM := (yX1_init, cX1_init, 1, none, 0, 2, 1, (666, 665, 0, 108), tb_X1_init)
def m_X2_init : pM := (yX2_init, cX2_init, 3, none, 2, 2, 2, (594, 593, 0, 106), tb_X2_init)
def m_X3_init : pM := (yX3_init, cX3_init, 1, none, 0, 2, 3, (396, 395, 0, 103), tb_X3_init)
def m_X3_localSlot : pM := (yX3_localSlot, cX3_localSlot, 2, (some .int), 2, 1, 3, (859, 858, 0, 103), tb_X3_localSlot)
def m_X3_enterFirst : pM := (yX3_enterFirst, cX3_enterFirst, 4, none, 2, 0, 3, (762, 760, 761, 103), tb_X3_enterFirst)
def m_X3_go : pM := (yX3_go, cX3_go, 3, none, 2, 0, 3, (769, 768, 0, 103), tb_X3_go)
def m_X3_pickSlots : pM := (yX3_pickSlots, cX3_pickSlots, 2, none, 0, 0, 3, (970, 968, 969, 103), tb_X3_pickSlots)
def m_X3_pick : pM := (yX3_pick, cX3_pick, 4, none, 2, 0, 3, (974, 973, 30, 103), tb_X3_pick)
def m_X3_makeEven : pM := (yX3_makeEven, cX3_makeEven, 1, none, 0, 0, 3, (978, 977, 31, 103), tb_X3_makeEven)
def m_X3_pack : pM := (yX3_pack, cX3_pack, 3, none, 1, 0, 3, (992, 990, 991, 103), tb_X3_pack)
def m_X3_unpack : pM := (yX3_unpack, cX3_unpack, 6, none, 2, 0, 3, (1025, 1023, 1024, 103), tb_X3_unpack)
def m_X3_keep : pM := (yX3_keep, cX3_keep, 1, none, 0, 0, 3, (1029, 1027, 1028, 103), tb_X3_keep)
def m_X3_comeBack : pM := (yX3_comeBack, cX3_comeBack, 1, none, 0, 0, 3, (1093, 1091, 1092, 103), tb_X3_comeBack)
def m_X3_listReady : pM := (yX3_listReady, cX3_listReady, 4, (some .int), 0, 0, 3, (773, 771, 772, 103), tb_X3_listReady)
def m_X3_isReady : pM := (yX3_isReady, cX3_isReady, 3, (some .boolean), 2, 0, 3, (824, 822, 823, 103), tb_X3_isReady)
def m_X3_choices : pM := (yX3_choices, cX3_choices, 6, (some .int), 1, 0, 3, (777, 775, 776, 103), tb_X3_choices)
def m_X3_needsEmptyQueue : pM := (yX3_needsEmptyQueue, cX3_needsEmptyQueue, 3, (some .boolean), 2, 0, 3, (781, 780, 1, 103), tb_X3_needsEmptyQueue)
def m_X3_hasRoom : pM := (yX3_hasRoom, cX3_hasRoom, 8, (some .boolean), 3, 0, 3, (793, 792, 3, 103), tb_X3_hasRoom)
def m_X3_waitsFor : pM := (yX3_waitsFor, cX3_waitsFor, 3, (some .boolean), 2, 0, 3, (809, 808, 6, 103), tb_X3_waitsFor)
def m_X3_waiters : pM := (yX3_waiters, cX3_waiters, 4, (some .int), 1, 0, 3, (805, 804, 5, 103), tb_X3_waiters)
def m_X3_sort : pM := (yX3_sort, cX3_sort, 4, (some .int), 0, 0, 3, (996, 994, 995, 103), tb_X3_sort)
def m_X3_locksOf : pM := (yX3_locksOf, cX3_locksOf, 4, (some .int), 1, 0, 3, (1044, 1042, 1043, 103), tb_X3_locksOf)
def m_X3_lockAhead : pM := (yX3_lockAhead, cX3_lockAhead, 4, (some .int), 1, 0, 3, (1073, 1071, 1072, 103), tb_X3_lockAhead)
def m_X3_take : pM := (yX3_take, cX3_take, 5, none, 2, 0, 3, (832, 830, 831, 103), tb_X3_take)
def m_X3_workOut : pM := (yX3_workOut, cX3_workOut, 2, (some .int), 1, 0, 3, (871, 870, 14, 103), tb_X3_workOut)
def m_X3_setLocal : pM := (yX3_setLocal, cX3_setLocal, 4, none, 2, 0, 3, (856, 855, 11, 103), tb_X3_setLocal)
def m_X3_touch : pM := (yX3_touch, cX3_touch, 7, (some .int), 3, 0, 3, (848, 847, 10, 103), tb_X3_touch)
def m_X3_swapIf : pM := (yX3_swapIf, cX3_swapIf, 6, none, 4, 0, 3, (883, 882, 17, 103), tb_X3_swapIf)
def m_X3_addTo : pM := (yX3_addTo, cX3_addTo, 5, (some .int), 3, 0, 3, (891, 890, 19, 103), tb_X3_addTo)
def m_X3_useLock : pM := (yX3_useLock, cX3_useLock, 4, (some .int), 3, 0, 3, (895, 894, 20, 103), tb_X3_useLock)
def m_X3_leave : pM := (yX3_leave, cX3_leave, 3, none, 2, 0, 3, (899, 898, 21, 103), tb_X3_leave)
def m_X3_wake : pM := (yX3_wake, cX3_wake, 5, none, 2, 0, 3, (903, 902, 22, 103), tb_X3_wake)
def m_X3_takeBack : pM := (yX3_takeBack, cX3_takeBack, 3, none, 2, 0, 3, (840, 839, 8, 103), tb_X3_takeBack)
def m_X3_meet : pM := (yX3_meet, cX3_meet, 3, (some .int), 2, 0, 3, (907, 906, 23, 103), tb_X3_meet)
def m_X3_begins : pM := (yX3_begins, cX3_begins, 3, (some .int), 2, 0, 3, (911, 910, 24, 103), tb_X3_begins)
def m_X3_tell : pM := (yX3_tell, cX3_tell, 2, (some .int), 0, 0, 3, (915, 914, 25, 103), tb_X3_tell)
def m_X3_loadable : pM := (yX3_loadable, cX3_loadable, 6, (some .int), 2, 0, 3, (852, 850, 851, 103), tb_X3_loadable)
def m_X3_store : pM := (yX3_store, cX3_store, 4, none, 3, 0, 3, (875, 874, 15, 103), tb_X3_store)
def m_X3_flush : pM := (yX3_flush, cX3_flush, 4, none, 1, 0, 3, (836, 835, 7, 103), tb_X3_flush)
def m_X3_write : pM := (yX3_write, cX3_write, 6, none, 4, 0, 3, (879, 878, 16, 103), tb_X3_write)
def m_X3_viewed : pM := (yX3_viewed, cX3_viewed, 3, (some .int), 2, 0, 3, (789, 788, 2, 103), tb_X3_viewed)
def m_X3_view : pM := (yX3_view, cX3_view, 4, none, 3, 0, 3, (867, 866, 13, 103), tb_X3_view)
def m_X3_look : pM := (yX3_look, cX3_look, 4, none, 3, 0, 3, (863, 862, 12, 103), tb_X3_look)
def m_X3_lookAtLast : pM := (yX3_lookAtLast, cX3_lookAtLast, 4, none, 2, 0, 3, (887, 886, 18, 103), tb_X3_lookAtLast)
def m_X3_learn : pM := (yX3_learn, cX3_learn, 6, none, 2, 0, 3, (844, 843, 9, 103), tb_X3_learn)
def m_X4_init : pM := (yX4_init, cX4_init, 2, none, 1, 2, 4, (227, 226, 0, 99), tb_X4_init)
def m_X4_put : pM := (yX4_put, cX4_put, 3, none, 2, 0, 4, (1538, 1536, 1537, 99), tb_X4_put)
def m_X4_set : pM := (yX4_set, cX4_set, 4, none, 3, 0, 4, (1186, 1184, 1185, 99), tb_X4_set)
def m_X4_workOut : pM := (yX4_workOut, cX4_workOut, 8, (some .int), 3, 0, 4, (797, 795, 796, 99), tb_X4_workOut)
def m_X4_apply : pM := (yX4_apply, cX4_apply, 7, (some .int), 4, 0, 4, (801, 800, 4, 99), tb_X4_apply)
def m_X5_init : pM := (yX5_init, cX5_init, 2, none, 1, 2, 5, (252, 251, 0, 100), tb_X5_init)
def m_X5_clear : pM := (yX5_clear, cX5_clear, 1, none, 0, 0, 5, (1290, 1288, 1289, 100), tb_X5_clear)
def m_X5_copy : pM := (yX5_copy, cX5_copy, 3, none, 1, 0, 5, (1148, 1146, 1147, 100), tb_X5_copy)
def m_X5_find : pM := (yX5_find, cX5_find, 6, (some .int), 4, 1, 5, (1422, 1421, 0, 100), tb_X5_find)
def m_X5_named : pM := (yX5_named, cX5_named, 4, (some .int), 1, 0, 5, (1426, 1424, 1425, 100), tb_X5_named)
def m_X5_isCell : pM := (yX5_isCell, cX5_isCell, 1, (some .boolean), 1, 1, 5, (1481, 1480, 0, 100), tb_X5_isCell)
def m_X5_isLock : pM := (yX5_isLock, cX5_isLock, 1, (some .boolean), 1, 1, 5, (1462, 1461, 0, 100), tb_X5_isLock)
def m_X5_isThread : pM := (yX5_isThread, cX5_isThread, 1, (some .boolean), 1, 1, 5, (1465, 1464, 0, 100), tb_X5_isThread)
def m_X5_localOf : pM := (yX5_localOf, cX5_localOf, 4, (some .int), 2, 0, 5, (1419, 1417, 1418, 100), tb_X5_localOf)
def m_X5_isTold : pM := (yX5_isTold, cX5_isTold, 4, (some .boolean), 1, 0, 5, (1415, 1413, 1414, 100), tb_X5_isTold)
def m_X5_hasCell : pM := (yX5_hasCell, cX5_hasCell, 2, (some .boolean), 1, 0, 5, (957, 955, 956, 100), tb_X5_hasCell)
def m_X5_hasThread : pM := (yX5_hasThread, cX5_hasThread, 2, (some .boolean), 1, 0, 5, (948, 946, 947, 100), tb_X5_hasThread)
def m_X5_hasLocal : pM := (yX5_hasLocal, cX5_hasLocal, 3, (some .boolean), 2, 0, 5, (944, 942, 943, 100), tb_X5_hasLocal)
def m_X5_isVolatile : pM := (yX5_isVolatile, cX5_isVolatile, 2, (some .boolean), 1, 0, 5, (785, 783, 784, 100), tb_X5_isVolatile)
def m_X5_addCell : pM := (yX5_addCell, cX5_addCell, 3, (some .int), 1, 0, 5, (1430, 1428, 1429, 100), tb_X5_addCell)
def m_X5_addLock : pM := (yX5_addLock, cX5_addLock, 3, none, 1, 0, 5, (1442, 1440, 1441, 100), tb_X5_addLock)
def m_X5_addThread : pM := (yX5_addThread, cX5_addThread, 3, (some .int), 1, 0, 5, (1450, 1448, 1449, 100), tb_X5_addThread)
def m_X5_addLocal : pM := (yX5_addLocal, cX5_addLocal, 4, (some .int), 2, 0, 5, (1494, 1492, 1493, 100), tb_X5_addLocal)
def m_X5_addLine : pM := (yX5_addLine, cX5_addLine, 7, (some .int), 4, 0, 5, (1469, 1467, 1468, 100), tb_X5_addLine)
def m_X5_link : pM := (yX5_link, cX5_link, 4, none, 2, 0, 5, (1165, 1163, 1164, 100), tb_X5_link)
def m_X5_layWays : pM := (yX5_layWays, cX5_layWays, 4, none, 0, 0, 5, (1190, 1188, 1189, 100), tb_X5_layWays)
def m_X5_behind : pM := (yX5_behind, cX5_behind, 4, (some .int), 1, 0, 5, (1194, 1193, 53, 100), tb_X5_behind)
def m_X5_touches : pM := (yX5_touches, cX5_touches, 2, (some .boolean), 1, 0, 5, (1039, 1037, 1038, 100), tb_X5_touches)
def m_X5_clash : pM := (yX5_clash, cX5_clash, 5, (some .boolean), 2, 0, 5, (1048, 1046, 1047, 100), tb_X5_clash)
def m_X5_change : pM := (yX5_change, cX5_change, 4, (some .boolean), 2, 0, 5, (1153, 1151, 1152, 100), tb_X5_change)
def m_X5_ahead : pM := (yX5_ahead, cX5_ahead, 6, (some .int), 1, 0, 5, (1161, 1160, 48, 100), tb_X5_ahead)
def m_X5_swap : pM := (yX5_swap, cX5_swap, 3, (some .boolean), 1, 0, 5, (1157, 1156, 47, 100), tb_X5_swap)
def m_X5_leaveOut : pM := (yX5_leaveOut, cX5_leaveOut, 4, (some .boolean), 1, 0, 5, (1169, 1168, 49, 100), tb_X5_leaveOut)
def m_X5_unlink : pM := (yX5_unlink, cX5_unlink, 4, none, 3, 0, 5, (1173, 1172, 50, 100), tb_X5_unlink)
def m_X5_empty : pM := (yX5_empty, cX5_empty, 3, none, 1, 0, 5, (1177, 1176, 51, 100), tb_X5_empty)
def m_X5_reuse : pM := (yX5_reuse, cX5_reuse, 4, (some .boolean), 1, 0, 5, (1181, 1180, 52, 100), tb_X5_reuse)
def m_X6_init : pM := (yX6_init, cX6_init, 4, none, 3, 2, 6, (336, 335, 0, 101), tb_X6_init)
def m_X6_open : pM := (yX6_open, cX6_open, 3, none, 2, 0, 6, (1298, 1297, 55, 101), tb_X6_open)
def m_X6_blame : pM := (yX6_blame, cX6_blame, 2, none, 1, 0, 6, (1411, 1410, 65, 101), tb_X6_blame)
def m_X6_need : pM := (yX6_need, cX6_need, 2, none, 1, 0, 6, (1434, 1433, 66, 101), tb_X6_need)
def m_X6_skip : pM := (yX6_skip, cX6_skip, 3, (some .boolean), 1, 0, 6, (1398, 1397, 62, 101), tb_X6_skip)
def m_X6_readProgram : pM := (yX6_readProgram, cX6_readProgram, 2, none, 0, 0, 6, (1286, 1284, 1285, 101), tb_X6_readProgram)
def m_X6_isNewName : pM := (yX6_isNewName, cX6_isNewName, 3, (some .boolean), 2, 0, 6, (1407, 1406, 64, 101), tb_X6_isNewName)
def m_X6_readCell : pM := (yX6_readCell, cX6_readCell, 4, none, 0, 0, 6, (1403, 1402, 63, 101), tb_X6_readCell)
def m_X6_readLock : pM := (yX6_readLock, cX6_readLock, 1, none, 0, 0, 6, (1438, 1437, 67, 101), tb_X6_readLock)
def m_X6_readThread : pM := (yX6_readThread, cX6_readThread, 1, none, 0, 0, 6, (1446, 1445, 68, 101), tb_X6_readThread)
def m_X6_readBlock : pM := (yX6_readBlock, cX6_readBlock, 7, none, 3, 0, 6, (1454, 1453, 69, 101), tb_X6_readBlock)
def m_X6_mayBegin : pM := (yX6_mayBegin, cX6_mayBegin, 3, (some .boolean), 0, 0, 6, (1458, 1457, 70, 101), tb_X6_mayBegin)
def m_X6_readStatement : pM := (yX6_readStatement, cX6_readStatement, 5, none, 2, 0, 6, (1474, 1473, 71, 101), tb_X6_readStatement)
def m_X6_hasExp : pM := (yX6_hasExp, cX6_hasExp, 2, (some .boolean), 1, 0, 6, (1506, 1505, 77, 101), tb_X6_hasExp)
def m_X6_readTarget : pM := (yX6_readTarget, cX6_readTarget, 4, (some .int), 1, 0, 6, (1478, 1477, 72, 101), tb_X6_readTarget)
def m_X6_readLocal : pM := (yX6_readLocal, cX6_readLocal, 3, none, 1, 0, 6, (1485, 1484, 73, 101), tb_X6_readLocal)
def m_X6_localHere : pM := (yX6_localHere, cX6_localHere, 2, (some .int), 0, 0, 6, (1489, 1488, 74, 101), tb_X6_localHere)
def m_X6_readObject : pM := (yX6_readObject, cX6_readObject, 4, none, 2, 0, 6, (1498, 1497, 75, 101), tb_X6_readObject)
def m_X6_needName : pM := (yX6_needName, cX6_needName, 4, none, 3, 0, 6, (1502, 1501, 76, 101), tb_X6_needName)
def m_X6_readInto : pM := (yX6_readInto, cX6_readInto, 2, none, 1, 0, 6, (1556, 1555, 87, 101), tb_X6_readInto)
def m_X6_aimThreads : pM := (yX6_aimThreads, cX6_aimThreads, 4, none, 0, 0, 6, (1560, 1559, 88, 101), tb_X6_aimThreads)
def m_X6_levelOf : pM := (yX6_levelOf, cX6_levelOf, 1, (some .int), 1, 1, 6, (1552, 1551, 0, 101), tb_X6_levelOf)
def m_X6_readLevel : pM := (yX6_readLevel, cX6_readLevel, 5, none, 2, 0, 6, (1510, 1509, 78, 101), tb_X6_readLevel)
def m_X6_readSide : pM := (yX6_readSide, cX6_readSide, 3, none, 2, 0, 6, (1514, 1513, 79, 101), tb_X6_readSide)
def m_X6_countNode : pM := (yX6_countNode, cX6_countNode, 1, (some .boolean), 0, 0, 6, (1530, 1529, 83, 101), tb_X6_countNode)
def m_X6_beginsOne : pM := (yX6_beginsOne, cX6_beginsOne, 2, (some .boolean), 1, 0, 6, (1522, 1521, 81, 101), tb_X6_beginsOne)
def m_X6_isStray : pM := (yX6_isStray, cX6_isStray, 2, (some .boolean), 0, 0, 6, (1526, 1525, 82, 101), tb_X6_isStray)
def m_X6_readOne : pM := (yX6_readOne, cX6_readOne, 3, none, 1, 0, 6, (1518, 1517, 80, 101), tb_X6_readOne)
def m_X6_readNode : pM := (yX6_readNode, cX6_readNode, 4, none, 2, 0, 6, (1534, 1533, 84, 101), tb_X6_readNode)
def m_X6_readAsked : pM := (yX6_readAsked, cX6_readAsked, 5, none, 1, 0, 6, (1549, 1548, 86, 101), tb_X6_readAsked)
def m_X6_readCellOrLocal : pM := (yX6_readCellOrLocal, cX6_readCellOrLocal, 4, none, 0, 0, 6, (1543, 1542, 85, 101), tb_X6_readCellOrLocal)
def m_X7_init : pM := (yX7_init, cX7_init, 4, none, 3, 2, 7, (488, 487, 0, 105), tb_X7_init)
def m_X7_clear : pM := (yX7_clear, cX7_clear, 3, none, 2, 0, 7, (987, 985, 986, 105), tb_X7_clear)
def m_X7_placeOf : pM := (yX7_placeOf, cX7_placeOf, 7, (some .int), 2, 0, 7, (1005, 1004, 32, 105), tb_X7_placeOf)
def m_X7_isSame : pM := (yX7_isSame, cX7_isSame, 5, (some .boolean), 3, 0, 7, (1010, 1009, 33, 105), tb_X7_isSame)
def m_X7_numberOf : pM := (yX7_numberOf, cX7_numberOf, 3, (some .int), 2, 0, 7, (1136, 1134, 1135, 105), tb_X7_numberOf)
def m_X7_put : pM := (yX7_put, cX7_put, 4, (some .int), 2, 0, 7, (1001, 999, 1000, 105), tb_X7_put)
def m_X7_refer : pM := (yX7_refer, cX7_refer, 3, (some .int), 1, 0, 7, (1081, 1079, 1080, 105), tb_X7_refer)
def m_X7_name : pM := (yX7_name, cX7_name, 3, none, 2, 0, 7, (1017, 1016, 34, 105), tb_X7_name)
def m_X8_init : pM := (yX8_init, cX8_init, 1, none, 0, 2, 8, (638, 637, 0, 107), tb_X8_init)
def m_X8_start : pM := (yX8_start, cX8_start, 3, none, 2, 0, 8, (758, 756, 757, 107), tb_X8_start)
def m_X8_take : pM := (yX8_take, cX8_take, 5, none, 2, 0, 8, (828, 826, 827, 107), tb_X8_take)
def m_X8_putAhead : pM := (yX8_putAhead, cX8_putAhead, 4, none, 2, 0, 8, (932, 931, 29, 107), tb_X8_putAhead)
def m_X8_leadsTo : pM := (yX8_leadsTo, cX8_leadsTo, 7, (some .boolean), 2, 0, 8, (919, 918, 26, 107), tb_X8_leadsTo)
def m_X8_tells : pM := (yX8_tells, cX8_tells, 3, (some .boolean), 1, 0, 8, (923, 922, 27, 107), tb_X8_tells)
def m_X8_hears : pM := (yX8_hears, cX8_hears, 3, (some .boolean), 1, 0, 8, (928, 927, 28, 107), tb_X8_hears)
def m_X9_init : pM := (yX9_init, cX9_init, 1, none, 0, 2, 9, (125, 124, 0, 94), tb_X9_init)
def m_X9_codes : pM := (yX9_codes, cX9_codes, 6, (some (.array .long)), 2, 1, 9, (130, 129, 0, 94), tb_X9_codes)
def m_X9_append : pM := (yX9_append, cX9_append, 3, none, 1, 0, 9, (1232, 1230, 1231, 94), tb_X9_append)
def m_X9_cut : pM := (yX9_cut, cX9_cut, 2, none, 0, 0, 9, (1302, 1300, 1301, 94), tb_X9_cut)
def m_X9_advance : pM := (yX9_advance, cX9_advance, 1, none, 0, 0, 9, (1394, 1392, 1393, 94), tb_X9_advance)
def m_X9_byteAt : pM := (yX9_byteAt, cX9_byteAt, 2, (some .int), 1, 0, 9, (1314, 1313, 58, 94), tb_X9_byteAt)
def m_X9_isLetter : pM := (yX9_isLetter, cX9_isLetter, 1, (some .boolean), 1, 1, 9, (1317, 1316, 0, 94), tb_X9_isLetter)
def m_X9_isDigit : pM := (yX9_isDigit, cX9_isDigit, 1, (some .boolean), 1, 1, 9, (1324, 1323, 0, 94), tb_X9_isDigit)
def m_X9_skipBlanks : pM := (yX9_skipBlanks, cX9_skipBlanks, 3, none, 0, 0, 9, (1306, 1305, 56, 94), tb_X9_skipBlanks)
def m_X9_cutOne : pM := (yX9_cutOne, cX9_cutOne, 2, none, 0, 0, 9, (1310, 1309, 57, 94), tb_X9_cutOne)
def m_X9_cutWord : pM := (yX9_cutWord, cX9_cutWord, 2, none, 0, 0, 9, (1321, 1320, 59, 94), tb_X9_cutWord)
def m_X9_cutNumber : pM := (yX9_cutNumber, cX9_cutNumber, 1, none, 0, 0, 9, (1328, 1327, 60, 94), tb_X9_cutNumber)
def m_X9_cutSign : pM := (yX9_cutSign, cX9_cutSign, 3, none, 1, 0, 9, (1334, 1333, 61, 94), tb_X9_cutSign)
def m_X10_init : pM := (yX10_init, cX10_init, 1, none, 0, 2, 10, (390, 389, 0, 102), tb_X10_init)
def m_X10_tryAll : pM := (yX10_tryAll, cX10_tryAll, 10, (some .int), 3, 0, 10, (965, 963, 964, 102), tb_X10_tryAll)
def m_X10_lookAround : pM := (yX10_lookAround, cX10_lookAround, 4, (some .int), 1, 0, 10, (1021, 1020, 35, 102), tb_X10_lookAround)
def m_X10_quietStep : pM := (yX10_quietStep, cX10_quietStep, 3, (some .int), 0, 0, 10, (1085, 1084, 40, 102), tb_X10_quietStep)
def m_X10_tryStep : pM := (yX10_tryStep, cX10_tryStep, 8, (some .boolean), 2, 0, 10, (1089, 1088, 41, 102), tb_X10_tryStep)
def m_X10_isWhile : pM := (yX10_isWhile, cX10_isWhile, 2, (some .boolean), 1, 0, 10, (1102, 1101, 42, 102), tb_X10_isWhile)
def m_X10_noteEnd : pM := (yX10_noteEnd, cX10_noteEnd, 2, none, 1, 0, 10, (1061, 1060, 37, 102), tb_X10_noteEnd)
def m_X10_hasOutcome : pM := (yX10_hasOutcome, cX10_hasOutcome, 2, (some .boolean), 1, 0, 10, (1114, 1112, 1113, 102), tb_X10_hasOutcome)
def m_X10_stateOfOutcome : pM := (yX10_stateOfOutcome, cX10_stateOfOutcome, 2, (some .int), 1, 0, 10, (1579, 1577, 1578, 102), tb_X10_stateOfOutcome)
def m_X10_slotOfOutcome : pM := (yX10_slotOfOutcome, cX10_slotOfOutcome, 3, (some .int), 2, 0, 10, (1575, 1573, 1574, 102), tb_X10_slotOfOutcome)
def m_X10_stateOf : pM := (yX10_stateOf, cX10_stateOf, 1, (some .int), 1, 1, 10, (1591, 1590, 0, 102), tb_X10_stateOf)
def m_X10_threadOf : pM := (yX10_threadOf, cX10_threadOf, 1, (some .int), 1, 1, 10, (1594, 1593, 0, 102), tb_X10_threadOf)
def m_X10_fewestSwitches : pM := (yX10_fewestSwitches, cX10_fewestSwitches, 6, (some .int), 1, 0, 10, (1583, 1581, 1582, 102), tb_X10_fewestSwitches)
def m_X10_countSwitches : pM := (yX10_countSwitches, cX10_countSwitches, 3, none, 0, 0, 10, (1587, 1586, 89, 102), tb_X10_countSwitches)
def m_X10_leaveFrom : pM := (yX10_leaveFrom, cX10_leaveFrom, 8, none, 2, 0, 10, (1602, 1601, 91, 102), tb_X10_leaveFrom)
def m_X10_reach : pM := (yX10_reach, cX10_reach, 4, none, 3, 0, 10, (1598, 1597, 90, 102), tb_X10_reach)
def m_X10_countChances : pM := (yX10_countChances, cX10_countChances, 11, (some .int), 3, 0, 10, (1118, 1116, 1117, 102), tb_X10_countChances)
def m_X10_drawnOutcome : pM := (yX10_drawnOutcome, cX10_drawnOutcome, 6, (some .int), 3, 0, 10, (1122, 1121, 43, 102), tb_X10_drawnOutcome)
def m_X10_arrange : pM := (yX10_arrange, cX10_arrange, 6, none, 1, 0, 10, (1126, 1125, 44, 102), tb_X10_arrange)
def m_X10_firstReady : pM := (yX10_firstReady, cX10_firstReady, 2, (some .int), 0, 0, 10, (1131, 1130, 45, 102), tb_X10_firstReady)
def m_X10_lower : pM := (yX10_lower, cX10_lower, 4, none, 1, 0, 10, (1140, 1139, 46, 102), tb_X10_lower)
def m_X11_init : pM := (yX11_init, cX11_init, 3, none, 0, 2, 11, (117, 116, 0, 93), tb_X11_init)
def m_X11_feed : pM := (yX11_feed, cX11_feed, 6, (some .int), 5, 0, 11, (1228, 1226, 1227, 93), tb_X11_feed)
def m_X11_end : pM := (yX11_end, cX11_end, 2, (some .int), 1, 0, 11, (1236, 1234, 1235, 93), tb_X11_end)
def m_X11_program : pM := (yX11_program, cX11_program, 1, (some .int), 0, 0, 11, (1282, 1280, 1281, 93), tb_X11_program)
def m_X11_count : pM := (yX11_count, cX11_count, 2, (some .int), 1, 0, 11, (747, 745, 746, 93), tb_X11_count)
def m_X11_begin : pM := (yX11_begin, cX11_begin, 2, (some .int), 1, 0, 11, (751, 749, 750, 93), tb_X11_begin)
def m_X11_ready : pM := (yX11_ready, cX11_ready, 3, (some .int), 1, 0, 11, (816, 814, 815, 93), tb_X11_ready)
def m_X11_turn : pM := (yX11_turn, cX11_turn, 3, (some .int), 2, 0, 11, (820, 818, 819, 93), tb_X11_turn)
def m_X11_thread : pM := (yX11_thread, cX11_thread, 4, (some .int), 2, 0, 11, (936, 934, 935, 93), tb_X11_thread)
def m_X11_local : pM := (yX11_local, cX11_local, 3, (some .int), 2, 0, 11, (940, 938, 939, 93), tb_X11_local)
def m_X11_cell : pM := (yX11_cell, cX11_cell, 2, (some .int), 1, 0, 11, (953, 951, 952, 93), tb_X11_cell)
def m_X11_explore : pM := (yX11_explore, cX11_explore, 3, (some .int), 2, 0, 11, (961, 959, 960, 93), tb_X11_explore)
def m_X11_explored : pM := (yX11_explored, cX11_explored, 2, (some .int), 1, 0, 11, (1106, 1104, 1105, 93), tb_X11_explored)
def m_X11_outcome : pM := (yX11_outcome, cX11_outcome, 3, (some .int), 2, 0, 11, (1571, 1569, 1570, 93), tb_X11_outcome)
def m_X11_outcomeCell : pM := (yX11_outcomeCell, cX11_outcomeCell, 3, (some .int), 2, 0, 11, (1608, 1606, 1607, 93), tb_X11_outcomeCell)
def m_X11_outcomeLocal : pM := (yX11_outcomeLocal, cX11_outcomeLocal, 4, (some .int), 3, 0, 11, (1612, 1610, 1611, 93), tb_X11_outcomeLocal)
def m_X11_chances : pM := (yX11_chances, cX11_chances, 4, (some .int), 3, 0, 11, (1110, 1108, 1109, 93), tb_X11_chances)
def m_X11_rewrite : pM := (yX11_rewrite, cX11_rewrite, 3, (some .int), 2, 0, 11, (1144, 1142, 1143, 93), tb_X11_rewrite)
def m_X11_drop : pM := (yX11_drop, cX11_drop, 1, (some .int), 0, 0, 11, (1202, 1200, 1201, 93), tb_X11_drop)
def m_X11_sound : pM := (yX11_sound, cX11_sound, 4, (some .int), 1, 0, 11, (1206, 1204, 1205, 93), tb_X11_sound)
def m_X11_gained : pM := (yX11_gained, cX11_gained, 1, (some .int), 0, 0, 11, (1213, 1211, 1212, 93), tb_X11_gained)
def m_X11_isWay : pM := (yX11_isWay, cX11_isWay, 1, (some .boolean), 1, 1, 11, (754, 753, 0, 93), tb_X11_isWay)
def m_X11_forgetRewritten : pM := (yX11_forgetRewritten, cX11_forgetRewritten, 1, none, 0, 0, 11, (1198, 1197, 54, 93), tb_X11_forgetRewritten)
def m_J11_isValidCodePoint_9a6ad : pM := (yJ11_isValidCodePoint_9a6ad, cJ11_isValidCodePoint_9a6ad, 2, (some .boolean), 1, 1, 99, (1382, 1381, 0, 111), tb_J11_isValidCodePoint_9a6ad)
def m_J11_highSurrogate_5068e : pM := (yJ11_highSurrogate_5068e, cJ11_highSurrogate_5068e, 1, (some .char), 1, 1, 99, (1385, 1384, 0, 111), tb_J11_highSurrogate_5068e)
def m_J11_lowSurrogate_5068e : pM := (yJ11_lowSurrogate_5068e, cJ11_lowSurrogate_5068e, 1, (some .char), 1, 1, 99, (1389, 1388, 0, 111), tb_J11_lowSurrogate_5068e)
def m_J9_max_7cf53 : pM := (yJ9_max_7cf53, cJ9_max_7cf53, 2, (some .int), 2, 1, 99, (812, 811, 0, 110), tb_J9_max_7cf53)
def m_J9_min_7cf53 : pM := (yJ9_min_7cf53, cJ9_min_7cf53, 2, (some .int), 2, 1, 99, (1052, 1051, 0, 110), tb_J9_min_7cf53)
def m_J0_length_8abf5 : pM := (yJ0_length_8abf5, cJ0_length_8abf5, 1, (some .int), 0, 0, 13, (134, 132, 133, 95), tb_J0_length_8abf5)
def m_J0_charAt_5068e : pM := (yJ0_charAt_5068e, cJ0_charAt_5068e, 2, (some .char), 1, 0, 13, (144, 142, 143, 95), tb_J0_charAt_5068e)
def m_J0_indexOf_0f7a4 : pM := (yJ0_indexOf_0f7a4, cJ0_indexOf_0f7a4, 2, (some .int), 1, 0, 13, (1339, 1337, 1338, 95), tb_J0_indexOf_0f7a4)
def m_J0_indexOf_7cf53 : pM := (yJ0_indexOf_7cf53, cJ0_indexOf_7cf53, 3, (some .int), 2, 0, 13, (1343, 1341, 1342, 95), tb_J0_indexOf_7cf53)
def m_J0_coder_7d493 : pM := (yJ0_coder_7d493, cJ0_coder_7d493, 1, (some .byte), 0, 0, 13, (138, 136, 137, 95), tb_J0_coder_7d493)
def m_J0_isLatin1_aae02 : pM := (yJ0_isLatin1_aae02, cJ0_isLatin1_aae02, 1, (some .boolean), 0, 0, 13, (148, 146, 147, 95), tb_J0_isLatin1_aae02)
def m_J0_checkIndex_df160 : pM := (yJ0_checkIndex_df160, cJ0_checkIndex_df160, 2, none, 2, 1, 13, (154, 153, 0, 95), tb_J0_checkIndex_df160)
def m_J0_checkBoundsBeginEnd_23922 : pM := (yJ0_checkBoundsBeginEnd_23922, cJ0_checkBoundsBeginEnd_23922, 3, none, 3, 1, 13, (1370, 1369, 0, 95), tb_J0_checkBoundsBeginEnd_23922)
def m_J1_charAt_3b067 : pM := (yJ1_charAt_3b067, cJ1_charAt_3b067, 2, (some .char), 2, 1, 99, (151, 150, 0, 96), tb_J1_charAt_3b067)
def m_J1_canEncode_9a6ad : pM := (yJ1_canEncode_9a6ad, cJ1_canEncode_9a6ad, 1, (some .boolean), 1, 1, 99, (1350, 1349, 0, 96), tb_J1_canEncode_9a6ad)
def m_J1_indexOf_4cfef : pM := (yJ1_indexOf_4cfef, cJ1_indexOf_4cfef, 4, (some .int), 4, 1, 99, (1347, 1346, 0, 96), tb_J1_indexOf_4cfef)
def m_J1_indexOfChar_4cfef : pM := (yJ1_indexOfChar_4cfef, cJ1_indexOfChar_4cfef, 6, (some .int), 4, 1, 99, (1355, 1354, 0, 96), tb_J1_indexOfChar_4cfef)
def m_J2_getChar_3b067 : pM := (yJ2_getChar_3b067, cJ2_getChar_3b067, 2, (some .char), 2, 1, 99, (172, 171, 0, 98), tb_J2_getChar_3b067)
def m_J2_length_9d52b : pM := (yJ2_length_9d52b, cJ2_length_9d52b, 1, (some .int), 1, 1, 99, (168, 167, 0, 98), tb_J2_length_9d52b)
def m_J2_indexOf_4cfef : pM := (yJ2_indexOf_4cfef, cJ2_indexOf_4cfef, 4, (some .int), 4, 1, 99, (1358, 1357, 0, 98), tb_J2_indexOf_4cfef)
def m_J2_indexOfChar_4cfef : pM := (yJ2_indexOfChar_4cfef, cJ2_indexOfChar_4cfef, 4, (some .int), 4, 1, 99, (1364, 1363, 0, 98), tb_J2_indexOfChar_4cfef)
def m_J2_indexOfCharUnsafe_4cfef : pM := (yJ2_indexOfCharUnsafe_4cfef, cJ2_indexOfCharUnsafe_4cfef, 5, (some .int), 4, 1, 99, (1376, 1375, 0, 98), tb_J2_indexOfCharUnsafe_4cfef)
def m_J2_indexOfSupplementary_4cfef : pM := (yJ2_indexOfSupplementary_4cfef, cJ2_indexOfSupplementary_4cfef, 7, (some .int), 4, 1, 99, (1379, 1378, 0, 98), tb_J2_indexOfSupplementary_4cfef)
def m_J2_charAt_3b067 : pM := (yJ2_charAt_3b067, cJ2_charAt_3b067, 2, (some .char), 2, 1, 99, (162, 161, 0, 98), tb_J2_charAt_3b067)
def m_J2_checkIndex_2214a : pM := (yJ2_checkIndex_2214a, cJ2_checkIndex_2214a, 2, none, 2, 1, 99, (165, 164, 0, 98), tb_J2_checkIndex_2214a)
def m_J2_checkBoundsBeginEnd_d044e : pM := (yJ2_checkBoundsBeginEnd_d044e, cJ2_checkBoundsBeginEnd_d044e, 3, none, 3, 1, 99, (1367, 1366, 0, 98), tb_J2_checkBoundsBeginEnd_d044e)
def m_J7_fill_d0a16 : pM := (yJ7_fill_d0a16, cJ7_fill_d0a16, 5, none, 2, 1, 99, (1293, 1292, 0, 109), tb_J7_fill_d0a16)
def m_J7_fill_53178 : pM := (yJ7_fill_53178, cJ7_fill_53178, 4, none, 2, 1, 99, (765, 764, 0, 109), tb_J7_fill_53178)
def m_J3_checkIndex_8e157 : pM := (yJ3_checkIndex_8e157, cJ3_checkIndex_8e157, 3, (some .int), 3, 1, 99, (159, 158, 0, 97), tb_J3_checkIndex_8e157)
def m_J3_checkFromToIndex_8c36e : pM := (yJ3_checkFromToIndex_8c36e, cJ3_checkFromToIndex_8c36e, 4, (some .int), 4, 1, 99, (1373, 1372, 0, 97), tb_J3_checkFromToIndex_8c36e)
def m_L_cell : pM := (yL_cell, cL_cell, 2, (some .int), 2, 1, 99, (1216, 1215, 0, 92), tb_L_cell)
def m_L_say : pM := (yL_say, cL_say, 7, (some .int), 4, 1, 99, (1224, 1223, 0, 92), tb_L_say)
def m_L_statement : pM := (yL_statement, cL_statement, 3, (some .int), 2, 1, 99, (1245, 1244, 0, 92), tb_L_statement)
def m_L_tell : pM := (yL_tell, cL_tell, 6, (some .int), 4, 1, 99, (1219, 1218, 0, 92), tb_L_tell)
def m_L_isIn : pM := (yL_isIn, cL_isIn, 5, (some .boolean), 3, 1, 99, (1564, 1563, 0, 92), tb_L_isIn)
def m_L_sum : pM := (yL_sum, cL_sum, 5, (some .int), 2, 1, 99, (1567, 1566, 0, 92), tb_L_sum)
def msL_0 : List pM := [m_X0_init, m_X0_clear, m_X0_see, m_X0_noteRace, m_X5_isCell, m_X0_noteTaking, m_X5_isCell, m_X0_seeStuck, m_X0_noteStuck, m_X0_leastInRing, m_X1_init, m_X5_isCell, m_X5_isCell, m_X5_isCell, m_X5_isCell, m_X5_isCell, m_X5_isCell, m_X5_isCell, m_X2_init, m_X5_isCell, m_X5_isCell, m_X5_isCell, m_X5_isCell, m_X5_isCell, m_X5_isCell, m_X5_isCell, m_X5_isCell, m_X5_isCell, m_X5_isCell, m_X5_isCell, m_X5_isCell, m_X3_init, m_X3_localSlot, m_X3_enterFirst, m_X3_go, m_X3_pickSlots, m_X3_pick, m_X3_makeEven, m_X3_pack, m_X3_unpack]
def msL_1 : List pM := [m_X3_keep, m_X3_comeBack, m_X3_listReady, m_X3_isReady, m_X3_choices, m_X3_needsEmptyQueue, m_X3_hasRoom, m_X3_waitsFor, m_X3_waiters, m_X3_sort, m_X3_locksOf, m_X3_lockAhead, m_X3_take, m_X3_workOut, m_X3_setLocal, m_X3_touch, m_X3_swapIf, m_X3_addTo, m_X3_useLock, m_X3_leave, m_X3_wake, m_X3_takeBack, m_X3_meet, m_X3_begins, m_X3_tell, m_X5_isCell, m_X3_loadable, m_X3_store, m_X3_flush, m_X3_write, m_X3_viewed, m_X3_view, m_X3_look, m_X3_lookAtLast, m_X3_learn, m_X4_init, m_X4_put, m_X4_set, m_X4_workOut, m_X4_apply]
def msL_2 : List pM := [m_X5_init, m_X5_clear, m_X5_copy, m_X5_find, m_X5_named, m_X5_isCell, m_X5_isLock, m_X5_isThread, m_X5_localOf, m_X5_isTold, m_X5_hasCell, m_X5_isCell, m_X5_hasThread, m_X5_hasLocal, m_X5_isVolatile, m_X5_addCell, m_X5_addLock, m_X5_addThread, m_X5_addLocal, m_X5_addLine, m_X5_link, m_X5_layWays, m_X5_behind, m_X5_touches, m_X5_clash, m_X5_change, m_X5_ahead, m_X5_swap, m_X5_leaveOut, m_X5_unlink, m_X5_empty, m_X5_reuse, m_X6_init, m_X6_open, m_X6_blame, m_X6_need, m_X6_skip, m_X6_readProgram, m_X6_isNewName, m_X6_readCell]
def msL_3 : List pM := [m_X6_readLock, m_X6_readThread, m_X6_readBlock, m_X6_mayBegin, m_X6_readStatement, m_X6_hasExp, m_X6_readTarget, m_X6_readLocal, m_X6_localHere, m_X6_readObject, m_X6_needName, m_X6_readInto, m_X6_aimThreads, m_X6_levelOf, m_X6_readLevel, m_X6_readSide, m_X6_countNode, m_X6_beginsOne, m_X6_isStray, m_X6_readOne, m_X6_readNode, m_X5_isCell, m_X5_isCell, m_X6_readAsked, m_X6_readCellOrLocal, m_X7_init, m_X7_clear, m_X7_placeOf, m_X7_isSame, m_X7_numberOf, m_X7_put, m_X7_refer, m_X7_name, m_X8_init, m_X8_start, m_X8_take, m_X8_putAhead, m_X5_isCell, m_X8_leadsTo, m_X8_tells]
def msL_4 : List pM := [m_X8_hears, m_X5_isCell, m_X5_isCell, m_X9_init, m_X9_codes, m_X9_append, m_X9_cut, m_X9_advance, m_X9_byteAt, m_X9_isLetter, m_X9_isDigit, m_X9_skipBlanks, m_X9_cutOne, m_X9_cutWord, m_X9_cutNumber, m_X9_cutSign, m_X10_init, m_X10_tryAll, m_X10_lookAround, m_X10_quietStep, m_X10_tryStep, m_X10_isWhile, m_X10_noteEnd, m_X5_isCell, m_X10_hasOutcome, m_X10_stateOfOutcome, m_X10_slotOfOutcome, m_X10_stateOf, m_X10_threadOf, m_X5_isCell, m_X5_isCell, m_X5_isCell, m_X10_fewestSwitches, m_X10_countSwitches, m_X10_leaveFrom, m_X10_reach, m_X10_countChances, m_X10_drawnOutcome, m_X10_arrange, m_X10_firstReady]
def msL_5 : List pM := [m_X10_lower, m_X11_init, m_X11_feed, m_X11_end, m_X11_program, m_X11_count, m_X5_isCell, m_X11_begin, m_X11_ready, m_X11_turn, m_X11_thread, m_X11_local, m_X11_cell, m_X5_isCell, m_X5_isCell, m_X5_isCell, m_X5_isCell, m_X5_isCell, m_X5_isCell, m_X5_isCell, m_X11_explore, m_X11_explored, m_X11_outcome, m_X11_outcomeCell, m_X11_outcomeLocal, m_X5_isCell, m_X5_isCell, m_X11_chances, m_X5_isCell, m_X5_isCell, m_X5_isCell, m_X5_isCell, m_X5_isCell, m_X5_isCell, m_X11_rewrite, m_X11_drop, m_X11_sound, m_X11_gained, m_X11_isWay, m_X11_forgetRewritten]
def msL_6 : List pM := [m_X5_isCell, m_X5_isCell, m_X5_isCell, m_X5_isCell, m_X5_isCell, m_X5_isCell, m_X5_isCell, m_X5_isCell, m_X5_isCell, m_X5_isCell, m_X5_isCell, m_X5_isCell, m_X5_isCell, m_X5_isCell, m_X5_isCell, m_X5_isCell, m_X5_isCell, m_X5_isCell, m_X5_isCell, m_X5_isCell, m_X5_isCell, m_X5_isCell, m_X5_isCell, m_X5_isCell, m_X5_isCell, m_X5_isCell, m_X5_isCell, m_X5_isCell, m_X5_isCell, m_X5_isCell, m_X5_isCell, m_X5_isCell, m_X5_isCell, m_X5_isCell, m_X5_isCell, m_X5_isCell, m_X5_isCell, m_X5_isCell, m_X5_isCell, m_X5_isCell]
def msL_7 : List pM := [m_X5_isCell, m_X5_isCell, m_X5_isCell, m_X5_isCell, m_X5_isCell, m_X5_isCell, m_X5_isCell, m_X5_isCell, m_X5_isCell, m_X5_isCell, m_X5_isCell, m_X5_isCell, m_X5_isCell, m_X5_isCell, m_X5_isCell, m_X5_isCell, m_X5_isCell, m_X5_isCell, m_X5_isCell, m_X5_isCell, m_X5_isCell, m_X5_isCell, m_X5_isCell, m_X5_isCell, m_X5_isCell, m_X5_isCell, m_X5_isCell, m_X5_isCell, m_X5_isCell, m_X5_isCell, m_X5_isCell, m_X5_isCell, m_X5_isCell, m_X5_isCell, m_X5_isCell, m_X5_isCell, m_X5_isCell, m_X5_isCell, m_X5_isCell, m_X5_isCell]
def msL_8 : List pM := [m_X5_isCell, m_X5_isCell, m_X5_isCell, m_X5_isCell, m_X5_isCell, m_X5_isCell, m_X5_isCell, m_X5_isCell, m_X5_isCell, m_X5_isCell, m_X5_isCell, m_X5_isCell, m_X5_isCell, m_X5_isCell, m_X5_isCell, m_X5_isCell, m_X5_isCell, m_X5_isCell, m_X5_isCell, m_X5_isCell, m_X5_isCell, m_X5_isCell, m_X5_isCell, m_X5_isCell, m_X5_isCell, m_X5_isCell, m_X5_isCell, m_X5_isCell, m_X5_isCell, m_X5_isCell, m_X5_isCell, m_X5_isCell, m_X5_isCell, m_X5_isCell, m_X5_isCell, m_X5_isCell, m_X5_isCell, m_X5_isCell, m_X5_isCell, m_X5_isCell]
def msL_9 : List pM := [m_X5_isCell, m_X5_isCell, m_X5_isCell, m_X5_isCell, m_X5_isCell, m_X5_isCell, m_X5_isCell, m_X5_isCell, m_X5_isCell, m_X5_isCell, m_X5_isCell, m_X5_isCell, m_X5_isCell, m_X5_isCell, m_X5_isCell, m_X5_isCell, m_X5_isCell, m_X5_isCell, m_X5_isCell, m_X5_isCell, m_X5_isCell, m_X5_isCell, m_X5_isCell, m_X5_isCell, m_X5_isCell, m_X5_isCell, m_X5_isCell, m_X5_isCell, m_X5_isCell, m_X5_isCell, m_X5_isCell, m_X5_isCell, m_X5_isCell, m_X5_isCell, m_X5_isCell, m_X5_isCell, m_X5_isCell, m_X5_isCell, m_X5_isCell, m_X5_isCell]
def msL_10 : List pM := [m_X5_isCell, m_X5_isCell, m_X5_isCell, m_X5_isCell, m_X5_isCell, m_X5_isCell, m_X5_isCell, m_X5_isCell, m_J11_isValidCodePoint_9a6ad, m_J11_highSurrogate_5068e, m_J11_lowSurrogate_5068e, m_J9_max_7cf53, m_J9_min_7cf53, m_J0_length_8abf5, m_J0_charAt_5068e, m_J0_indexOf_0f7a4, m_J0_indexOf_7cf53, m_J0_coder_7d493, m_J0_isLatin1_aae02, m_J0_checkIndex_df160, m_J0_checkBoundsBeginEnd_23922, m_J1_charAt_3b067, m_J1_canEncode_9a6ad, m_J1_indexOf_4cfef, m_J1_indexOfChar_4cfef, m_J2_getChar_3b067, m_J2_length_9d52b, m_J2_indexOf_4cfef, m_J2_indexOfChar_4cfef, m_J2_indexOfCharUnsafe_4cfef, m_J2_indexOfSupplementary_4cfef, m_J2_charAt_3b067, m_J2_checkIndex_2214a, m_J2_checkBoundsBeginEnd_d044e, m_J7_fill_d0a16, m_J7_fill_53178, m_J3_checkIndex_8e157, m_J3_checkFromToIndex_8c36e, m_L_cell, m_L_say]
def msL_11 : List pM := [m_L_statement, m_L_tell, m_L_isIn, m_L_sum]
def msL : List pM := msL_0 ++ (msL_1 ++ (msL_2 ++ (msL_3 ++ (msL_4 ++ (msL_5 ++ (msL_6 ++ (msL_7 ++ (msL_8 ++ (msL_9 ++ (msL_10 ++ (msL_11)))))))))))
set_option maxRecDepth 100000 in
theorem ix_X0_init : msL[0]? = some m_X0_init := rfl
set_option maxRecDepth 100000 in
theorem ix_X0_clear : msL[1]? = some m_X0_clear := rfl
set_option maxRecDepth 100000 in
theorem ix_X0_see : msL[2]? = some m_X0_see := rfl
set_option maxRecDepth 100000 in
theorem ix_X0_noteRace : msL[3]? = some m_X0_noteRace := rfl
set_option maxRecDepth 100000 in
theorem ix_X0_noteTaking : msL[5]? = some m_X0_noteTaking := rfl
set_option maxRecDepth 100000 in
theorem ix_X0_seeStuck : msL[7]? = some m_X0_seeStuck := rfl
set_option maxRecDepth 100000 in
theorem ix_X0_noteStuck : msL[8]? = some m_X0_noteStuck := rfl
set_option maxRecDepth 100000 in
theorem ix_X0_leastInRing : msL[9]? = some m_X0_leastInRing := rfl
set_option maxRecDepth 100000 in
theorem ix_X1_init : msL[10]? = some m_X1_init := rfl
set_option maxRecDepth 100000 in
theorem ix_X2_init : msL[18]? = some m_X2_init := rfl
set_option maxRecDepth 100000 in
theorem ix_X3_init : msL[31]? = some m_X3_init := rfl
set_option maxRecDepth 100000 in
theorem ix_X3_localSlot : msL[32]? = some m_X3_localSlot := rfl
set_option maxRecDepth 100000 in
theorem ix_X3_enterFirst : msL[33]? = some m_X3_enterFirst := rfl
set_option maxRecDepth 100000 in
theorem ix_X3_go : msL[34]? = some m_X3_go := rfl
set_option maxRecDepth 100000 in
theorem ix_X3_pickSlots : msL[35]? = some m_X3_pickSlots := rfl
set_option maxRecDepth 100000 in
theorem ix_X3_pick : msL[36]? = some m_X3_pick := rfl
set_option maxRecDepth 100000 in
theorem ix_X3_makeEven : msL[37]? = some m_X3_makeEven := rfl
set_option maxRecDepth 100000 in
theorem ix_X3_pack : msL[38]? = some m_X3_pack := rfl
set_option maxRecDepth 100000 in
theorem ix_X3_unpack : msL[39]? = some m_X3_unpack := rfl
set_option maxRecDepth 100000 in
theorem ix_X3_keep : msL[40]? = some m_X3_keep := rfl
set_option maxRecDepth 100000 in
theorem ix_X3_comeBack : msL[41]? = some m_X3_comeBack := rfl
set_option maxRecDepth 100000 in
theorem ix_X3_listReady : msL[42]? = some m_X3_listReady := rfl
set_option maxRecDepth 100000 in
theorem ix_X3_isReady : msL[43]? = some m_X3_isReady := rfl
set_option maxRecDepth 100000 in
theorem ix_X3_choices : msL[44]? = some m_X3_choices := rfl
set_option maxRecDepth 100000 in
theorem ix_X3_needsEmptyQueue : msL[45]? = some m_X3_needsEmptyQueue := rfl
set_option maxRecDepth 100000 in
theorem ix_X3_hasRoom : msL[46]? = some m_X3_hasRoom := rfl
set_option maxRecDepth 100000 in
theorem ix_X3_waitsFor : msL[47]? = some m_X3_waitsFor := rfl
set_option maxRecDepth 100000 in
theorem ix_X3_waiters : msL[48]? = some m_X3_waiters := rfl
set_option maxRecDepth 100000 in
theorem ix_X3_sort : msL[49]? = some m_X3_sort := rfl
set_option maxRecDepth 100000 in
theorem ix_X3_locksOf : msL[50]? = some m_X3_locksOf := rfl
set_option maxRecDepth 100000 in
theorem ix_X3_lockAhead : msL[51]? = some m_X3_lockAhead := rfl
set_option maxRecDepth 100000 in
theorem ix_X3_take : msL[52]? = some m_X3_take := rfl
set_option maxRecDepth 100000 in
theorem ix_X3_workOut : msL[53]? = some m_X3_workOut := rfl
set_option maxRecDepth 100000 in
theorem ix_X3_setLocal : msL[54]? = some m_X3_setLocal := rfl
set_option maxRecDepth 100000 in
theorem ix_X3_touch : msL[55]? = some m_X3_touch := rfl
set_option maxRecDepth 100000 in
theorem ix_X3_swapIf : msL[56]? = some m_X3_swapIf := rfl
set_option maxRecDepth 100000 in
theorem ix_X3_addTo : msL[57]? = some m_X3_addTo := rfl
set_option maxRecDepth 100000 in
theorem ix_X3_useLock : msL[58]? = some m_X3_useLock := rfl
set_option maxRecDepth 100000 in
theorem ix_X3_leave : msL[59]? = some m_X3_leave := rfl
set_option maxRecDepth 100000 in
theorem ix_X3_wake : msL[60]? = some m_X3_wake := rfl
set_option maxRecDepth 100000 in
theorem ix_X3_takeBack : msL[61]? = some m_X3_takeBack := rfl
set_option maxRecDepth 100000 in
theorem ix_X3_meet : msL[62]? = some m_X3_meet := rfl
set_option maxRecDepth 100000 in
theorem ix_X3_begins : msL[63]? = some m_X3_begins := rfl
set_option maxRecDepth 100000 in
theorem ix_X3_tell : msL[64]? = some m_X3_tell := rfl
set_option maxRecDepth 100000 in
theorem ix_X3_loadable : msL[66]? = some m_X3_loadable := rfl
set_option maxRecDepth 100000 in
theorem ix_X3_store : msL[67]? = some m_X3_store := rfl
set_option maxRecDepth 100000 in
theorem ix_X3_flush : msL[68]? = some m_X3_flush := rfl
set_option maxRecDepth 100000 in
theorem ix_X3_write : msL[69]? = some m_X3_write := rfl
set_option maxRecDepth 100000 in
theorem ix_X3_viewed : msL[70]? = some m_X3_viewed := rfl
set_option maxRecDepth 100000 in
theorem ix_X3_view : msL[71]? = some m_X3_view := rfl
set_option maxRecDepth 100000 in
theorem ix_X3_look : msL[72]? = some m_X3_look := rfl
set_option maxRecDepth 100000 in
theorem ix_X3_lookAtLast : msL[73]? = some m_X3_lookAtLast := rfl
set_option maxRecDepth 100000 in
theorem ix_X3_learn : msL[74]? = some m_X3_learn := rfl
set_option maxRecDepth 100000 in
theorem ix_X4_init : msL[75]? = some m_X4_init := rfl
set_option maxRecDepth 100000 in
theorem ix_X4_put : msL[76]? = some m_X4_put := rfl
set_option maxRecDepth 100000 in
theorem ix_X4_set : msL[77]? = some m_X4_set := rfl
set_option maxRecDepth 100000 in
theorem ix_X4_workOut : msL[78]? = some m_X4_workOut := rfl
set_option maxRecDepth 100000 in
theorem ix_X4_apply : msL[79]? = some m_X4_apply := rfl
set_option maxRecDepth 100000 in
theorem ix_X5_init : msL[80]? = some m_X5_init := rfl
set_option maxRecDepth 100000 in
theorem ix_X5_clear : msL[81]? = some m_X5_clear := rfl
set_option maxRecDepth 100000 in
theorem ix_X5_copy : msL[82]? = some m_X5_copy := rfl
set_option maxRecDepth 100000 in
theorem ix_X5_find : msL[83]? = some m_X5_find := rfl
set_option maxRecDepth 100000 in
theorem ix_X5_named : msL[84]? = some m_X5_named := rfl
set_option maxRecDepth 100000 in
theorem ix_X5_isCell : msL[85]? = some m_X5_isCell := rfl
set_option maxRecDepth 100000 in
theorem ix_X5_isLock : msL[86]? = some m_X5_isLock := rfl
set_option maxRecDepth 100000 in
theorem ix_X5_isThread : msL[87]? = some m_X5_isThread := rfl
set_option maxRecDepth 100000 in
theorem ix_X5_localOf : msL[88]? = some m_X5_localOf := rfl
set_option maxRecDepth 100000 in
theorem ix_X5_isTold : msL[89]? = some m_X5_isTold := rfl
set_option maxRecDepth 100000 in
theorem ix_X5_hasCell : msL[90]? = some m_X5_hasCell := rfl
set_option maxRecDepth 100000 in
theorem ix_X5_hasThread : msL[92]? = some m_X5_hasThread := rfl
set_option maxRecDepth 100000 in
theorem ix_X5_hasLocal : msL[93]? = some m_X5_hasLocal := rfl
set_option maxRecDepth 100000 in
theorem ix_X5_isVolatile : msL[94]? = some m_X5_isVolatile := rfl
set_option maxRecDepth 100000 in
theorem ix_X5_addCell : msL[95]? = some m_X5_addCell := rfl
set_option maxRecDepth 100000 in
theorem ix_X5_addLock : msL[96]? = some m_X5_addLock := rfl
set_option maxRecDepth 100000 in
theorem ix_X5_addThread : msL[97]? = some m_X5_addThread := rfl
set_option maxRecDepth 100000 in
theorem ix_X5_addLocal : msL[98]? = some m_X5_addLocal := rfl
set_option maxRecDepth 100000 in
theorem ix_X5_addLine : msL[99]? = some m_X5_addLine := rfl
set_option maxRecDepth 100000 in
theorem ix_X5_link : msL[100]? = some m_X5_link := rfl
set_option maxRecDepth 100000 in
theorem ix_X5_layWays : msL[101]? = some m_X5_layWays := rfl
set_option maxRecDepth 100000 in
theorem ix_X5_behind : msL[102]? = some m_X5_behind := rfl
set_option maxRecDepth 100000 in
theorem ix_X5_touches : msL[103]? = some m_X5_touches := rfl
set_option maxRecDepth 100000 in
theorem ix_X5_clash : msL[104]? = some m_X5_clash := rfl
set_option maxRecDepth 100000 in
theorem ix_X5_change : msL[105]? = some m_X5_change := rfl
set_option maxRecDepth 100000 in
theorem ix_X5_ahead : msL[106]? = some m_X5_ahead := rfl
set_option maxRecDepth 100000 in
theorem ix_X5_swap : msL[107]? = some m_X5_swap := rfl
set_option maxRecDepth 100000 in
theorem ix_X5_leaveOut : msL[108]? = some m_X5_leaveOut := rfl
set_option maxRecDepth 100000 in
theorem ix_X5_unlink : msL[109]? = some m_X5_unlink := rfl
set_option maxRecDepth 100000 in
theorem ix_X5_empty : msL[110]? = some m_X5_empty := rfl
set_option maxRecDepth 100000 in
theorem ix_X5_reuse : msL[111]? = some m_X5_reuse := rfl
set_option maxRecDepth 100000 in
theorem ix_X6_init : msL[112]? = some m_X6_init := rfl
set_option maxRecDepth 100000 in
theorem ix_X6_open : msL[113]? = some m_X6_open := rfl
set_option maxRecDepth 100000 in
theorem ix_X6_blame : msL[114]? = some m_X6_blame := rfl
set_option maxRecDepth 100000 in
theorem ix_X6_need : msL[115]? = some m_X6_need := rfl
set_option maxRecDepth 100000 in
theorem ix_X6_skip : msL[116]? = some m_X6_skip := rfl
set_option maxRecDepth 100000 in
theorem ix_X6_readProgram : msL[117]? = some m_X6_readProgram := rfl
set_option maxRecDepth 100000 in
theorem ix_X6_isNewName : msL[118]? = some m_X6_isNewName := rfl
set_option maxRecDepth 100000 in
theorem ix_X6_readCell : msL[119]? = some m_X6_readCell := rfl
set_option maxRecDepth 100000 in
theorem ix_X6_readLock : msL[120]? = some m_X6_readLock := rfl
set_option maxRecDepth 100000 in
theorem ix_X6_readThread : msL[121]? = some m_X6_readThread := rfl
set_option maxRecDepth 100000 in
theorem ix_X6_readBlock : msL[122]? = some m_X6_readBlock := rfl
set_option maxRecDepth 100000 in
theorem ix_X6_mayBegin : msL[123]? = some m_X6_mayBegin := rfl
set_option maxRecDepth 100000 in
theorem ix_X6_readStatement : msL[124]? = some m_X6_readStatement := rfl
set_option maxRecDepth 100000 in
theorem ix_X6_hasExp : msL[125]? = some m_X6_hasExp := rfl
set_option maxRecDepth 100000 in
theorem ix_X6_readTarget : msL[126]? = some m_X6_readTarget := rfl
set_option maxRecDepth 100000 in
theorem ix_X6_readLocal : msL[127]? = some m_X6_readLocal := rfl
set_option maxRecDepth 100000 in
theorem ix_X6_localHere : msL[128]? = some m_X6_localHere := rfl
set_option maxRecDepth 100000 in
theorem ix_X6_readObject : msL[129]? = some m_X6_readObject := rfl
set_option maxRecDepth 100000 in
theorem ix_X6_needName : msL[130]? = some m_X6_needName := rfl
set_option maxRecDepth 100000 in
theorem ix_X6_readInto : msL[131]? = some m_X6_readInto := rfl
set_option maxRecDepth 100000 in
theorem ix_X6_aimThreads : msL[132]? = some m_X6_aimThreads := rfl
set_option maxRecDepth 100000 in
theorem ix_X6_levelOf : msL[133]? = some m_X6_levelOf := rfl
set_option maxRecDepth 100000 in
theorem ix_X6_readLevel : msL[134]? = some m_X6_readLevel := rfl
set_option maxRecDepth 100000 in
theorem ix_X6_readSide : msL[135]? = some m_X6_readSide := rfl
set_option maxRecDepth 100000 in
theorem ix_X6_countNode : msL[136]? = some m_X6_countNode := rfl
set_option maxRecDepth 100000 in
theorem ix_X6_beginsOne : msL[137]? = some m_X6_beginsOne := rfl
set_option maxRecDepth 100000 in
theorem ix_X6_isStray : msL[138]? = some m_X6_isStray := rfl
set_option maxRecDepth 100000 in
theorem ix_X6_readOne : msL[139]? = some m_X6_readOne := rfl
set_option maxRecDepth 100000 in
theorem ix_X6_readNode : msL[140]? = some m_X6_readNode := rfl
set_option maxRecDepth 100000 in
theorem ix_X6_readAsked : msL[143]? = some m_X6_readAsked := rfl
set_option maxRecDepth 100000 in
theorem ix_X6_readCellOrLocal : msL[144]? = some m_X6_readCellOrLocal := rfl
set_option maxRecDepth 100000 in
theorem ix_X7_init : msL[145]? = some m_X7_init := rfl
set_option maxRecDepth 100000 in
theorem ix_X7_clear : msL[146]? = some m_X7_clear := rfl
set_option maxRecDepth 100000 in
theorem ix_X7_placeOf : msL[147]? = some m_X7_placeOf := rfl
set_option maxRecDepth 100000 in
theorem ix_X7_isSame : msL[148]? = some m_X7_isSame := rfl
set_option maxRecDepth 100000 in
theorem ix_X7_numberOf : msL[149]? = some m_X7_numberOf := rfl
set_option maxRecDepth 100000 in
theorem ix_X7_put : msL[150]? = some m_X7_put := rfl
set_option maxRecDepth 100000 in
theorem ix_X7_refer : msL[151]? = some m_X7_refer := rfl
set_option maxRecDepth 100000 in
theorem ix_X7_name : msL[152]? = some m_X7_name := rfl
set_option maxRecDepth 100000 in
theorem ix_X8_init : msL[153]? = some m_X8_init := rfl
set_option maxRecDepth 100000 in
theorem ix_X8_start : msL[154]? = some m_X8_start := rfl
set_option maxRecDepth 100000 in
theorem ix_X8_take : msL[155]? = some m_X8_take := rfl
set_option maxRecDepth 100000 in
theorem ix_X8_putAhead : msL[156]? = some m_X8_putAhead := rfl
set_option maxRecDepth 100000 in
theorem ix_X8_leadsTo : msL[158]? = some m_X8_leadsTo := rfl
set_option maxRecDepth 100000 in
theorem ix_X8_tells : msL[159]? = some m_X8_tells := rfl
set_option maxRecDepth 100000 in
theorem ix_X8_hears : msL[160]? = some m_X8_hears := rfl
set_option maxRecDepth 100000 in
theorem ix_X9_init : msL[163]? = some m_X9_init := rfl
set_option maxRecDepth 100000 in
theorem ix_X9_codes : msL[164]? = some m_X9_codes := rfl
set_option maxRecDepth 100000 in
theorem ix_X9_append : msL[165]? = some m_X9_append := rfl
set_option maxRecDepth 100000 in
theorem ix_X9_cut : msL[166]? = some m_X9_cut := rfl
set_option maxRecDepth 100000 in
theorem ix_X9_advance : msL[167]? = some m_X9_advance := rfl
set_option maxRecDepth 100000 in
theorem ix_X9_byteAt : msL[168]? = some m_X9_byteAt := rfl
set_option maxRecDepth 100000 in
theorem ix_X9_isLetter : msL[169]? = some m_X9_isLetter := rfl
set_option maxRecDepth 100000 in
theorem ix_X9_isDigit : msL[170]? = some m_X9_isDigit := rfl
set_option maxRecDepth 100000 in
theorem ix_X9_skipBlanks : msL[171]? = some m_X9_skipBlanks := rfl
set_option maxRecDepth 100000 in
theorem ix_X9_cutOne : msL[172]? = some m_X9_cutOne := rfl
set_option maxRecDepth 100000 in
theorem ix_X9_cutWord : msL[173]? = some m_X9_cutWord := rfl
set_option maxRecDepth 100000 in
theorem ix_X9_cutNumber : msL[174]? = some m_X9_cutNumber := rfl
set_option maxRecDepth 100000 in
theorem ix_X9_cutSign : msL[175]? = some m_X9_cutSign := rfl
set_option maxRecDepth 100000 in
theorem ix_X10_init : msL[176]? = some m_X10_init := rfl
set_option maxRecDepth 100000 in
theorem ix_X10_tryAll : msL[177]? = some m_X10_tryAll := rfl
set_option maxRecDepth 100000 in
theorem ix_X10_lookAround : msL[178]? = some m_X10_lookAround := rfl
set_option maxRecDepth 100000 in
theorem ix_X10_quietStep : msL[179]? = some m_X10_quietStep := rfl
set_option maxRecDepth 100000 in
theorem ix_X10_tryStep : msL[180]? = some m_X10_tryStep := rfl
set_option maxRecDepth 100000 in
theorem ix_X10_isWhile : msL[181]? = some m_X10_isWhile := rfl
set_option maxRecDepth 100000 in
theorem ix_X10_noteEnd : msL[182]? = some m_X10_noteEnd := rfl
set_option maxRecDepth 100000 in
theorem ix_X10_hasOutcome : msL[184]? = some m_X10_hasOutcome := rfl
set_option maxRecDepth 100000 in
theorem ix_X10_stateOfOutcome : msL[185]? = some m_X10_stateOfOutcome := rfl
set_option maxRecDepth 100000 in
theorem ix_X10_slotOfOutcome : msL[186]? = some m_X10_slotOfOutcome := rfl
set_option maxRecDepth 100000 in
theorem ix_X10_stateOf : msL[187]? = some m_X10_stateOf := rfl
set_option maxRecDepth 100000 in
theorem ix_X10_threadOf : msL[188]? = some m_X10_threadOf := rfl
set_option maxRecDepth 100000 in
theorem ix_X10_fewestSwitches : msL[192]? = some m_X10_fewestSwitches := rfl
set_option maxRecDepth 100000 in
theorem ix_X10_countSwitches : msL[193]? = some m_X10_countSwitches := rfl
set_option maxRecDepth 100000 in
theorem ix_X10_leaveFrom : msL[194]? = some m_X10_leaveFrom := rfl
set_option maxRecDepth 100000 in
theorem ix_X10_reach : msL[195]? = some m_X10_reach := rfl
set_option maxRecDepth 100000 in
theorem ix_X10_countChances : msL[196]? = some m_X10_countChances := rfl
set_option maxRecDepth 100000 in
theorem ix_X10_drawnOutcome : msL[197]? = some m_X10_drawnOutcome := rfl
set_option maxRecDepth 100000 in
theorem ix_X10_arrange : msL[198]? = some m_X10_arrange := rfl
set_option maxRecDepth 100000 in
theorem ix_X10_firstReady : msL[199]? = some m_X10_firstReady := rfl
set_option maxRecDepth 100000 in
theorem ix_X10_lower : msL[200]? = some m_X10_lower := rfl
set_option maxRecDepth 100000 in
theorem ix_X11_init : msL[201]? = some m_X11_init := rfl
set_option maxRecDepth 100000 in
theorem ix_X11_feed : msL[202]? = some m_X11_feed := rfl
set_option maxRecDepth 100000 in
theorem ix_X11_end : msL[203]? = some m_X11_end := rfl
set_option maxRecDepth 100000 in
theorem ix_X11_program : msL[204]? = some m_X11_program := rfl
set_option maxRecDepth 100000 in
theorem ix_X11_count : msL[205]? = some m_X11_count := rfl
set_option maxRecDepth 100000 in
theorem ix_X11_begin : msL[207]? = some m_X11_begin := rfl
set_option maxRecDepth 100000 in
theorem ix_X11_ready : msL[208]? = some m_X11_ready := rfl
set_option maxRecDepth 100000 in
theorem ix_X11_turn : msL[209]? = some m_X11_turn := rfl
set_option maxRecDepth 100000 in
theorem ix_X11_thread : msL[210]? = some m_X11_thread := rfl
set_option maxRecDepth 100000 in
theorem ix_X11_local : msL[211]? = some m_X11_local := rfl
set_option maxRecDepth 100000 in
theorem ix_X11_cell : msL[212]? = some m_X11_cell := rfl
set_option maxRecDepth 100000 in
theorem ix_X11_explore : msL[220]? = some m_X11_explore := rfl
set_option maxRecDepth 100000 in
theorem ix_X11_explored : msL[221]? = some m_X11_explored := rfl
set_option maxRecDepth 100000 in
theorem ix_X11_outcome : msL[222]? = some m_X11_outcome := rfl
set_option maxRecDepth 100000 in
theorem ix_X11_outcomeCell : msL[223]? = some m_X11_outcomeCell := rfl
set_option maxRecDepth 100000 in
theorem ix_X11_outcomeLocal : msL[224]? = some m_X11_outcomeLocal := rfl
set_option maxRecDepth 100000 in
theorem ix_X11_chances : msL[227]? = some m_X11_chances := rfl
set_option maxRecDepth 100000 in
theorem ix_X11_rewrite : msL[234]? = some m_X11_rewrite := rfl
set_option maxRecDepth 100000 in
theorem ix_X11_drop : msL[235]? = some m_X11_drop := rfl
set_option maxRecDepth 100000 in
theorem ix_X11_sound : msL[236]? = some m_X11_sound := rfl
set_option maxRecDepth 100000 in
theorem ix_X11_gained : msL[237]? = some m_X11_gained := rfl
set_option maxRecDepth 100000 in
theorem ix_X11_isWay : msL[238]? = some m_X11_isWay := rfl
set_option maxRecDepth 100000 in
theorem ix_X11_forgetRewritten : msL[239]? = some m_X11_forgetRewritten := rfl
set_option maxRecDepth 100000 in
theorem ix_J11_isValidCodePoint_9a6ad : msL[408]? = some m_J11_isValidCodePoint_9a6ad := rfl
set_option maxRecDepth 100000 in
theorem ix_J11_highSurrogate_5068e : msL[409]? = some m_J11_highSurrogate_5068e := rfl
set_option maxRecDepth 100000 in
theorem ix_J11_lowSurrogate_5068e : msL[410]? = some m_J11_lowSurrogate_5068e := rfl
set_option maxRecDepth 100000 in
theorem ix_J9_max_7cf53 : msL[411]? = some m_J9_max_7cf53 := rfl
set_option maxRecDepth 100000 in
theorem ix_J9_min_7cf53 : msL[412]? = some m_J9_min_7cf53 := rfl
set_option maxRecDepth 100000 in
theorem ix_J0_length_8abf5 : msL[413]? = some m_J0_length_8abf5 := rfl
set_option maxRecDepth 100000 in
theorem ix_J0_charAt_5068e : msL[414]? = some m_J0_charAt_5068e := rfl
set_option maxRecDepth 100000 in
theorem ix_J0_indexOf_0f7a4 : msL[415]? = some m_J0_indexOf_0f7a4 := rfl
set_option maxRecDepth 100000 in
theorem ix_J0_indexOf_7cf53 : msL[416]? = some m_J0_indexOf_7cf53 := rfl
set_option maxRecDepth 100000 in
theorem ix_J0_coder_7d493 : msL[417]? = some m_J0_coder_7d493 := rfl
set_option maxRecDepth 100000 in
theorem ix_J0_isLatin1_aae02 : msL[418]? = some m_J0_isLatin1_aae02 := rfl
set_option maxRecDepth 100000 in
theorem ix_J0_checkIndex_df160 : msL[419]? = some m_J0_checkIndex_df160 := rfl
set_option maxRecDepth 100000 in
theorem ix_J0_checkBoundsBeginEnd_23922 : msL[420]? = some m_J0_checkBoundsBeginEnd_23922 := rfl
set_option maxRecDepth 100000 in
theorem ix_J1_charAt_3b067 : msL[421]? = some m_J1_charAt_3b067 := rfl
set_option maxRecDepth 100000 in
theorem ix_J1_canEncode_9a6ad : msL[422]? = some m_J1_canEncode_9a6ad := rfl
set_option maxRecDepth 100000 in
theorem ix_J1_indexOf_4cfef : msL[423]? = some m_J1_indexOf_4cfef := rfl
set_option maxRecDepth 100000 in
theorem ix_J1_indexOfChar_4cfef : msL[424]? = some m_J1_indexOfChar_4cfef := rfl
set_option maxRecDepth 100000 in
theorem ix_J2_getChar_3b067 : msL[425]? = some m_J2_getChar_3b067 := rfl
set_option maxRecDepth 100000 in
theorem ix_J2_length_9d52b : msL[426]? = some m_J2_length_9d52b := rfl
set_option maxRecDepth 100000 in
theorem ix_J2_indexOf_4cfef : msL[427]? = some m_J2_indexOf_4cfef := rfl
set_option maxRecDepth 100000 in
theorem ix_J2_indexOfChar_4cfef : msL[428]? = some m_J2_indexOfChar_4cfef := rfl
set_option maxRecDepth 100000 in
theorem ix_J2_indexOfCharUnsafe_4cfef : msL[429]? = some m_J2_indexOfCharUnsafe_4cfef := rfl
set_option maxRecDepth 100000 in
theorem ix_J2_indexOfSupplementary_4cfef : msL[430]? = some m_J2_indexOfSupplementary_4cfef := rfl
set_option maxRecDepth 100000 in
theorem ix_J2_charAt_3b067 : msL[431]? = some m_J2_charAt_3b067 := rfl
set_option maxRecDepth 100000 in
theorem ix_J2_checkIndex_2214a : msL[432]? = some m_J2_checkIndex_2214a := rfl
set_option maxRecDepth 100000 in
theorem ix_J2_checkBoundsBeginEnd_d044e : msL[433]? = some m_J2_checkBoundsBeginEnd_d044e := rfl
set_option maxRecDepth 100000 in
theorem ix_J7_fill_d0a16 : msL[434]? = some m_J7_fill_d0a16 := rfl
set_option maxRecDepth 100000 in
theorem ix_J7_fill_53178 : msL[435]? = some m_J7_fill_53178 := rfl
set_option maxRecDepth 100000 in
theorem ix_J3_checkIndex_8e157 : msL[436]? = some m_J3_checkIndex_8e157 := rfl
set_option maxRecDepth 100000 in
theorem ix_J3_checkFromToIndex_8c36e : msL[437]? = some m_J3_checkFromToIndex_8c36e := rfl
set_option maxRecDepth 100000 in
theorem ix_L_cell : msL[438]? = some m_L_cell := rfl
set_option maxRecDepth 100000 in
theorem ix_L_say : msL[439]? = some m_L_say := rfl
set_option maxRecDepth 100000 in
theorem ix_L_statement : msL[440]? = some m_L_statement := rfl
set_option maxRecDepth 100000 in
theorem ix_L_tell : msL[441]? = some m_L_tell := rfl
set_option maxRecDepth 100000 in
theorem ix_L_isIn : msL[442]? = some m_L_isIn := rfl
set_option maxRecDepth 100000 in
theorem ix_L_sum : msL[443]? = some m_L_sum := rfl
end
