-- ===== PART A: goes FIRST, ahead of the names: the tables' words, and 'selects' of the private methods out of them =====
/-- a private method of a class that the tables say can be made, by its rows of tables_1 -/
def lw_okq (q : MethodName × Nat) : Prop := (q.1.cls ≠ "java/lang/invoke/MethodHandle" ∧ q.1.cls ≠ "java/lang/invoke/VarHandle") ∧ Cond.instantiable q.1.cls q.2 ∈ tables_1 ∧ Cond.privateMethod q.1 ∈ tables_1 ∧ Cond.instanceMethod q.1 ∈ tables_1
theorem lw_p0 : lw_okq (⟨"TurnHouse$Machine", "go", "(II)V"⟩, 13) := ⟨⟨by decide +kernel, by decide +kernel⟩, List.mem_of_getElem? (i := 301) (by decide +kernel), List.mem_of_getElem? (i := 675) (by decide +kernel), List.mem_of_getElem? (i := 676) (by decide +kernel)⟩
theorem lw_p1 : lw_okq (⟨"TurnHouse$Machine", "needsEmptyQueue", "(II)Z"⟩, 13) := ⟨⟨by decide +kernel, by decide +kernel⟩, List.mem_of_getElem? (i := 301) (by decide +kernel), List.mem_of_getElem? (i := 687) (by decide +kernel), List.mem_of_getElem? (i := 688) (by decide +kernel)⟩
theorem lw_p2 : lw_okq (⟨"TurnHouse$Machine", "viewed", "(II)I"⟩, 13) := ⟨⟨by decide +kernel, by decide +kernel⟩, List.mem_of_getElem? (i := 301) (by decide +kernel), List.mem_of_getElem? (i := 695) (by decide +kernel), List.mem_of_getElem? (i := 696) (by decide +kernel)⟩
theorem lw_p3 : lw_okq (⟨"TurnHouse$Machine", "hasRoom", "(III)Z"⟩, 13) := ⟨⟨by decide +kernel, by decide +kernel⟩, List.mem_of_getElem? (i := 301) (by decide +kernel), List.mem_of_getElem? (i := 699) (by decide +kernel), List.mem_of_getElem? (i := 700) (by decide +kernel)⟩
theorem lw_p4 : lw_okq (⟨"TurnHouse$Nodes", "apply", "(III[I)I"⟩, 5) := ⟨⟨by decide +kernel, by decide +kernel⟩, List.mem_of_getElem? (i := 132) (by decide +kernel), List.mem_of_getElem? (i := 707) (by decide +kernel), List.mem_of_getElem? (i := 708) (by decide +kernel)⟩
theorem lw_p5 : lw_okq (⟨"TurnHouse$Machine", "waiters", "(I)I"⟩, 13) := ⟨⟨by decide +kernel, by decide +kernel⟩, List.mem_of_getElem? (i := 301) (by decide +kernel), List.mem_of_getElem? (i := 711) (by decide +kernel), List.mem_of_getElem? (i := 712) (by decide +kernel)⟩
theorem lw_p6 : lw_okq (⟨"TurnHouse$Machine", "waitsFor", "(II)Z"⟩, 13) := ⟨⟨by decide +kernel, by decide +kernel⟩, List.mem_of_getElem? (i := 301) (by decide +kernel), List.mem_of_getElem? (i := 715) (by decide +kernel), List.mem_of_getElem? (i := 716) (by decide +kernel)⟩
theorem lw_p7 : lw_okq (⟨"TurnHouse$Machine", "flush", "(I)V"⟩, 13) := ⟨⟨by decide +kernel, by decide +kernel⟩, List.mem_of_getElem? (i := 301) (by decide +kernel), List.mem_of_getElem? (i := 742) (by decide +kernel), List.mem_of_getElem? (i := 743) (by decide +kernel)⟩
theorem lw_p8 : lw_okq (⟨"TurnHouse$Machine", "takeBack", "(II)V"⟩, 13) := ⟨⟨by decide +kernel, by decide +kernel⟩, List.mem_of_getElem? (i := 301) (by decide +kernel), List.mem_of_getElem? (i := 746) (by decide +kernel), List.mem_of_getElem? (i := 747) (by decide +kernel)⟩
theorem lw_p9 : lw_okq (⟨"TurnHouse$Machine", "learn", "(II)V"⟩, 13) := ⟨⟨by decide +kernel, by decide +kernel⟩, List.mem_of_getElem? (i := 301) (by decide +kernel), List.mem_of_getElem? (i := 750) (by decide +kernel), List.mem_of_getElem? (i := 751) (by decide +kernel)⟩
theorem lw_p10 : lw_okq (⟨"TurnHouse$Machine", "touch", "(III)I"⟩, 13) := ⟨⟨by decide +kernel, by decide +kernel⟩, List.mem_of_getElem? (i := 301) (by decide +kernel), List.mem_of_getElem? (i := 754) (by decide +kernel), List.mem_of_getElem? (i := 755) (by decide +kernel)⟩
theorem lw_p11 : lw_okq (⟨"TurnHouse$Machine", "setLocal", "(II)V"⟩, 13) := ⟨⟨by decide +kernel, by decide +kernel⟩, List.mem_of_getElem? (i := 301) (by decide +kernel), List.mem_of_getElem? (i := 762) (by decide +kernel), List.mem_of_getElem? (i := 763) (by decide +kernel)⟩
theorem lw_p12 : lw_okq (⟨"TurnHouse$Machine", "look", "(III)V"⟩, 13) := ⟨⟨by decide +kernel, by decide +kernel⟩, List.mem_of_getElem? (i := 301) (by decide +kernel), List.mem_of_getElem? (i := 769) (by decide +kernel), List.mem_of_getElem? (i := 770) (by decide +kernel)⟩
theorem lw_p13 : lw_okq (⟨"TurnHouse$Machine", "view", "(III)V"⟩, 13) := ⟨⟨by decide +kernel, by decide +kernel⟩, List.mem_of_getElem? (i := 301) (by decide +kernel), List.mem_of_getElem? (i := 773) (by decide +kernel), List.mem_of_getElem? (i := 774) (by decide +kernel)⟩
theorem lw_p14 : lw_okq (⟨"TurnHouse$Machine", "workOut", "(I)I"⟩, 13) := ⟨⟨by decide +kernel, by decide +kernel⟩, List.mem_of_getElem? (i := 301) (by decide +kernel), List.mem_of_getElem? (i := 777) (by decide +kernel), List.mem_of_getElem? (i := 778) (by decide +kernel)⟩
theorem lw_p15 : lw_okq (⟨"TurnHouse$Machine", "store", "(III)V"⟩, 13) := ⟨⟨by decide +kernel, by decide +kernel⟩, List.mem_of_getElem? (i := 301) (by decide +kernel), List.mem_of_getElem? (i := 781) (by decide +kernel), List.mem_of_getElem? (i := 782) (by decide +kernel)⟩
def lw_privs_1 : List (MethodName × Nat) := [(⟨"TurnHouse$Machine", "go", "(II)V"⟩, 13), (⟨"TurnHouse$Machine", "needsEmptyQueue", "(II)Z"⟩, 13), (⟨"TurnHouse$Machine", "viewed", "(II)I"⟩, 13), (⟨"TurnHouse$Machine", "hasRoom", "(III)Z"⟩, 13), (⟨"TurnHouse$Nodes", "apply", "(III[I)I"⟩, 5), (⟨"TurnHouse$Machine", "waiters", "(I)I"⟩, 13), (⟨"TurnHouse$Machine", "waitsFor", "(II)Z"⟩, 13), (⟨"TurnHouse$Machine", "flush", "(I)V"⟩, 13), (⟨"TurnHouse$Machine", "takeBack", "(II)V"⟩, 13), (⟨"TurnHouse$Machine", "learn", "(II)V"⟩, 13), (⟨"TurnHouse$Machine", "touch", "(III)I"⟩, 13), (⟨"TurnHouse$Machine", "setLocal", "(II)V"⟩, 13), (⟨"TurnHouse$Machine", "look", "(III)V"⟩, 13), (⟨"TurnHouse$Machine", "view", "(III)V"⟩, 13), (⟨"TurnHouse$Machine", "workOut", "(I)I"⟩, 13), (⟨"TurnHouse$Machine", "store", "(III)V"⟩, 13)]
theorem lw_r1 : ∀ q ∈ lw_privs_1, lw_okq q := List.forall_mem_cons.mpr ⟨lw_p0, List.forall_mem_cons.mpr ⟨lw_p1, List.forall_mem_cons.mpr ⟨lw_p2, List.forall_mem_cons.mpr ⟨lw_p3, List.forall_mem_cons.mpr ⟨lw_p4, List.forall_mem_cons.mpr ⟨lw_p5, List.forall_mem_cons.mpr ⟨lw_p6, List.forall_mem_cons.mpr ⟨lw_p7, List.forall_mem_cons.mpr ⟨lw_p8, List.forall_mem_cons.mpr ⟨lw_p9, List.forall_mem_cons.mpr ⟨lw_p10, List.forall_mem_cons.mpr ⟨lw_p11, List.forall_mem_cons.mpr ⟨lw_p12, List.forall_mem_cons.mpr ⟨lw_p13, List.forall_mem_cons.mpr ⟨lw_p14, List.forall_mem_cons.mpr ⟨lw_p15, fun _ h => absurd h List.not_mem_nil⟩⟩⟩⟩⟩⟩⟩⟩⟩⟩⟩⟩⟩⟩⟩⟩
theorem lw_p16 : lw_okq (⟨"TurnHouse$Machine", "write", "(IIIZ)V"⟩, 13) := ⟨⟨by decide +kernel, by decide +kernel⟩, List.mem_of_getElem? (i := 301) (by decide +kernel), List.mem_of_getElem? (i := 785) (by decide +kernel), List.mem_of_getElem? (i := 786) (by decide +kernel)⟩
theorem lw_p17 : lw_okq (⟨"TurnHouse$Machine", "swapIf", "(IIII)V"⟩, 13) := ⟨⟨by decide +kernel, by decide +kernel⟩, List.mem_of_getElem? (i := 301) (by decide +kernel), List.mem_of_getElem? (i := 789) (by decide +kernel), List.mem_of_getElem? (i := 790) (by decide +kernel)⟩
theorem lw_p18 : lw_okq (⟨"TurnHouse$Machine", "lookAtLast", "(II)V"⟩, 13) := ⟨⟨by decide +kernel, by decide +kernel⟩, List.mem_of_getElem? (i := 301) (by decide +kernel), List.mem_of_getElem? (i := 793) (by decide +kernel), List.mem_of_getElem? (i := 794) (by decide +kernel)⟩
theorem lw_p19 : lw_okq (⟨"TurnHouse$Machine", "addTo", "(III)I"⟩, 13) := ⟨⟨by decide +kernel, by decide +kernel⟩, List.mem_of_getElem? (i := 301) (by decide +kernel), List.mem_of_getElem? (i := 797) (by decide +kernel), List.mem_of_getElem? (i := 798) (by decide +kernel)⟩
theorem lw_p20 : lw_okq (⟨"TurnHouse$Machine", "useLock", "(III)I"⟩, 13) := ⟨⟨by decide +kernel, by decide +kernel⟩, List.mem_of_getElem? (i := 301) (by decide +kernel), List.mem_of_getElem? (i := 801) (by decide +kernel), List.mem_of_getElem? (i := 802) (by decide +kernel)⟩
theorem lw_p21 : lw_okq (⟨"TurnHouse$Machine", "leave", "(II)V"⟩, 13) := ⟨⟨by decide +kernel, by decide +kernel⟩, List.mem_of_getElem? (i := 301) (by decide +kernel), List.mem_of_getElem? (i := 805) (by decide +kernel), List.mem_of_getElem? (i := 806) (by decide +kernel)⟩
theorem lw_p22 : lw_okq (⟨"TurnHouse$Machine", "wake", "(II)V"⟩, 13) := ⟨⟨by decide +kernel, by decide +kernel⟩, List.mem_of_getElem? (i := 301) (by decide +kernel), List.mem_of_getElem? (i := 809) (by decide +kernel), List.mem_of_getElem? (i := 810) (by decide +kernel)⟩
theorem lw_p23 : lw_okq (⟨"TurnHouse$Machine", "meet", "(II)I"⟩, 13) := ⟨⟨by decide +kernel, by decide +kernel⟩, List.mem_of_getElem? (i := 301) (by decide +kernel), List.mem_of_getElem? (i := 813) (by decide +kernel), List.mem_of_getElem? (i := 814) (by decide +kernel)⟩
theorem lw_p24 : lw_okq (⟨"TurnHouse$Machine", "begins", "(II)I"⟩, 13) := ⟨⟨by decide +kernel, by decide +kernel⟩, List.mem_of_getElem? (i := 301) (by decide +kernel), List.mem_of_getElem? (i := 817) (by decide +kernel), List.mem_of_getElem? (i := 818) (by decide +kernel)⟩
theorem lw_p25 : lw_okq (⟨"TurnHouse$Machine", "tell", "()I"⟩, 13) := ⟨⟨by decide +kernel, by decide +kernel⟩, List.mem_of_getElem? (i := 301) (by decide +kernel), List.mem_of_getElem? (i := 821) (by decide +kernel), List.mem_of_getElem? (i := 822) (by decide +kernel)⟩
theorem lw_p26 : lw_okq (⟨"TurnHouse$Run", "leadsTo", "(II)Z"⟩, 5) := ⟨⟨by decide +kernel, by decide +kernel⟩, List.mem_of_getElem? (i := 543) (by decide +kernel), List.mem_of_getElem? (i := 825) (by decide +kernel), List.mem_of_getElem? (i := 826) (by decide +kernel)⟩
theorem lw_p27 : lw_okq (⟨"TurnHouse$Run", "tells", "(I)Z"⟩, 5) := ⟨⟨by decide +kernel, by decide +kernel⟩, List.mem_of_getElem? (i := 543) (by decide +kernel), List.mem_of_getElem? (i := 829) (by decide +kernel), List.mem_of_getElem? (i := 830) (by decide +kernel)⟩
theorem lw_p28 : lw_okq (⟨"TurnHouse$Run", "hears", "(I)Z"⟩, 5) := ⟨⟨by decide +kernel, by decide +kernel⟩, List.mem_of_getElem? (i := 543) (by decide +kernel), List.mem_of_getElem? (i := 834) (by decide +kernel), List.mem_of_getElem? (i := 835) (by decide +kernel)⟩
theorem lw_p29 : lw_okq (⟨"TurnHouse$Run", "putAhead", "(II)V"⟩, 5) := ⟨⟨by decide +kernel, by decide +kernel⟩, List.mem_of_getElem? (i := 543) (by decide +kernel), List.mem_of_getElem? (i := 838) (by decide +kernel), List.mem_of_getElem? (i := 839) (by decide +kernel)⟩
theorem lw_p30 : lw_okq (⟨"TurnHouse$Machine", "pick", "(II)V"⟩, 13) := ⟨⟨by decide +kernel, by decide +kernel⟩, List.mem_of_getElem? (i := 301) (by decide +kernel), List.mem_of_getElem? (i := 880) (by decide +kernel), List.mem_of_getElem? (i := 881) (by decide +kernel)⟩
theorem lw_p31 : lw_okq (⟨"TurnHouse$Machine", "makeEven", "()V"⟩, 13) := ⟨⟨by decide +kernel, by decide +kernel⟩, List.mem_of_getElem? (i := 301) (by decide +kernel), List.mem_of_getElem? (i := 884) (by decide +kernel), List.mem_of_getElem? (i := 885) (by decide +kernel)⟩
def lw_privs_2 : List (MethodName × Nat) := [(⟨"TurnHouse$Machine", "write", "(IIIZ)V"⟩, 13), (⟨"TurnHouse$Machine", "swapIf", "(IIII)V"⟩, 13), (⟨"TurnHouse$Machine", "lookAtLast", "(II)V"⟩, 13), (⟨"TurnHouse$Machine", "addTo", "(III)I"⟩, 13), (⟨"TurnHouse$Machine", "useLock", "(III)I"⟩, 13), (⟨"TurnHouse$Machine", "leave", "(II)V"⟩, 13), (⟨"TurnHouse$Machine", "wake", "(II)V"⟩, 13), (⟨"TurnHouse$Machine", "meet", "(II)I"⟩, 13), (⟨"TurnHouse$Machine", "begins", "(II)I"⟩, 13), (⟨"TurnHouse$Machine", "tell", "()I"⟩, 13), (⟨"TurnHouse$Run", "leadsTo", "(II)Z"⟩, 5), (⟨"TurnHouse$Run", "tells", "(I)Z"⟩, 5), (⟨"TurnHouse$Run", "hears", "(I)Z"⟩, 5), (⟨"TurnHouse$Run", "putAhead", "(II)V"⟩, 5), (⟨"TurnHouse$Machine", "pick", "(II)V"⟩, 13), (⟨"TurnHouse$Machine", "makeEven", "()V"⟩, 13)]
theorem lw_r2 : ∀ q ∈ lw_privs_2, lw_okq q := List.forall_mem_cons.mpr ⟨lw_p16, List.forall_mem_cons.mpr ⟨lw_p17, List.forall_mem_cons.mpr ⟨lw_p18, List.forall_mem_cons.mpr ⟨lw_p19, List.forall_mem_cons.mpr ⟨lw_p20, List.forall_mem_cons.mpr ⟨lw_p21, List.forall_mem_cons.mpr ⟨lw_p22, List.forall_mem_cons.mpr ⟨lw_p23, List.forall_mem_cons.mpr ⟨lw_p24, List.forall_mem_cons.mpr ⟨lw_p25, List.forall_mem_cons.mpr ⟨lw_p26, List.forall_mem_cons.mpr ⟨lw_p27, List.forall_mem_cons.mpr ⟨lw_p28, List.forall_mem_cons.mpr ⟨lw_p29, List.forall_mem_cons.mpr ⟨lw_p30, List.forall_mem_cons.mpr ⟨lw_p31, fun _ h => absurd h List.not_mem_nil⟩⟩⟩⟩⟩⟩⟩⟩⟩⟩⟩⟩⟩⟩⟩⟩
theorem lw_p32 : lw_okq (⟨"TurnHouse$Rows", "placeOf", "([JI)I"⟩, 6) := ⟨⟨by decide +kernel, by decide +kernel⟩, List.mem_of_getElem? (i := 391) (by decide +kernel), List.mem_of_getElem? (i := 911) (by decide +kernel), List.mem_of_getElem? (i := 912) (by decide +kernel)⟩
theorem lw_p33 : lw_okq (⟨"TurnHouse$Rows", "isSame", "([JII)Z"⟩, 6) := ⟨⟨by decide +kernel, by decide +kernel⟩, List.mem_of_getElem? (i := 391) (by decide +kernel), List.mem_of_getElem? (i := 916) (by decide +kernel), List.mem_of_getElem? (i := 917) (by decide +kernel)⟩
theorem lw_p34 : lw_okq (⟨"TurnHouse$Rows", "name", "(II)V"⟩, 6) := ⟨⟨by decide +kernel, by decide +kernel⟩, List.mem_of_getElem? (i := 391) (by decide +kernel), List.mem_of_getElem? (i := 923) (by decide +kernel), List.mem_of_getElem? (i := 924) (by decide +kernel)⟩
theorem lw_p35 : lw_okq (⟨"TurnHouse$Turns", "lookAround", "(I)I"⟩, 20) := ⟨⟨by decide +kernel, by decide +kernel⟩, List.mem_of_getElem? (i := 295) (by decide +kernel), List.mem_of_getElem? (i := 927) (by decide +kernel), List.mem_of_getElem? (i := 928) (by decide +kernel)⟩
theorem lw_p36 : lw_okq (⟨"TurnHouse$Findings", "noteRace", "(III)V"⟩, 7) := ⟨⟨by decide +kernel, by decide +kernel⟩, List.mem_of_getElem? (i := 363) (by decide +kernel), List.mem_of_getElem? (i := 963) (by decide +kernel), List.mem_of_getElem? (i := 964) (by decide +kernel)⟩
theorem lw_p37 : lw_okq (⟨"TurnHouse$Turns", "noteEnd", "(I)V"⟩, 20) := ⟨⟨by decide +kernel, by decide +kernel⟩, List.mem_of_getElem? (i := 295) (by decide +kernel), List.mem_of_getElem? (i := 967) (by decide +kernel), List.mem_of_getElem? (i := 968) (by decide +kernel)⟩
theorem lw_p38 : lw_okq (⟨"TurnHouse$Findings", "leastInRing", "(LTurnHouse$Machine;)I"⟩, 7) := ⟨⟨by decide +kernel, by decide +kernel⟩, List.mem_of_getElem? (i := 363) (by decide +kernel), List.mem_of_getElem? (i := 975) (by decide +kernel), List.mem_of_getElem? (i := 976) (by decide +kernel)⟩
theorem lw_p39 : lw_okq (⟨"TurnHouse$Findings", "noteStuck", "(III)V"⟩, 7) := ⟨⟨by decide +kernel, by decide +kernel⟩, List.mem_of_getElem? (i := 363) (by decide +kernel), List.mem_of_getElem? (i := 983) (by decide +kernel), List.mem_of_getElem? (i := 984) (by decide +kernel)⟩
theorem lw_p40 : lw_okq (⟨"TurnHouse$Turns", "quietStep", "()I"⟩, 20) := ⟨⟨by decide +kernel, by decide +kernel⟩, List.mem_of_getElem? (i := 295) (by decide +kernel), List.mem_of_getElem? (i := 991) (by decide +kernel), List.mem_of_getElem? (i := 992) (by decide +kernel)⟩
theorem lw_p41 : lw_okq (⟨"TurnHouse$Turns", "tryStep", "(II)Z"⟩, 20) := ⟨⟨by decide +kernel, by decide +kernel⟩, List.mem_of_getElem? (i := 295) (by decide +kernel), List.mem_of_getElem? (i := 995) (by decide +kernel), List.mem_of_getElem? (i := 996) (by decide +kernel)⟩
theorem lw_p42 : lw_okq (⟨"TurnHouse$Turns", "isWhile", "(I)Z"⟩, 20) := ⟨⟨by decide +kernel, by decide +kernel⟩, List.mem_of_getElem? (i := 295) (by decide +kernel), List.mem_of_getElem? (i := 1008) (by decide +kernel), List.mem_of_getElem? (i := 1009) (by decide +kernel)⟩
theorem lw_p43 : lw_okq (⟨"TurnHouse$Turns", "drawnOutcome", "(III)I"⟩, 20) := ⟨⟨by decide +kernel, by decide +kernel⟩, List.mem_of_getElem? (i := 295) (by decide +kernel), List.mem_of_getElem? (i := 1028) (by decide +kernel), List.mem_of_getElem? (i := 1029) (by decide +kernel)⟩
theorem lw_p44 : lw_okq (⟨"TurnHouse$Turns", "arrange", "(I)V"⟩, 20) := ⟨⟨by decide +kernel, by decide +kernel⟩, List.mem_of_getElem? (i := 295) (by decide +kernel), List.mem_of_getElem? (i := 1032) (by decide +kernel), List.mem_of_getElem? (i := 1033) (by decide +kernel)⟩
theorem lw_p45 : lw_okq (⟨"TurnHouse$Turns", "firstReady", "()I"⟩, 20) := ⟨⟨by decide +kernel, by decide +kernel⟩, List.mem_of_getElem? (i := 295) (by decide +kernel), List.mem_of_getElem? (i := 1037) (by decide +kernel), List.mem_of_getElem? (i := 1038) (by decide +kernel)⟩
theorem lw_p46 : lw_okq (⟨"TurnHouse$Turns", "lower", "(I)V"⟩, 20) := ⟨⟨by decide +kernel, by decide +kernel⟩, List.mem_of_getElem? (i := 295) (by decide +kernel), List.mem_of_getElem? (i := 1046) (by decide +kernel), List.mem_of_getElem? (i := 1047) (by decide +kernel)⟩
theorem lw_p47 : lw_okq (⟨"TurnHouse$Program", "swap", "(I)Z"⟩, 14) := ⟨⟨by decide +kernel, by decide +kernel⟩, List.mem_of_getElem? (i := 157) (by decide +kernel), List.mem_of_getElem? (i := 1063) (by decide +kernel), List.mem_of_getElem? (i := 1064) (by decide +kernel)⟩
def lw_privs_3 : List (MethodName × Nat) := [(⟨"TurnHouse$Rows", "placeOf", "([JI)I"⟩, 6), (⟨"TurnHouse$Rows", "isSame", "([JII)Z"⟩, 6), (⟨"TurnHouse$Rows", "name", "(II)V"⟩, 6), (⟨"TurnHouse$Turns", "lookAround", "(I)I"⟩, 20), (⟨"TurnHouse$Findings", "noteRace", "(III)V"⟩, 7), (⟨"TurnHouse$Turns", "noteEnd", "(I)V"⟩, 20), (⟨"TurnHouse$Findings", "leastInRing", "(LTurnHouse$Machine;)I"⟩, 7), (⟨"TurnHouse$Findings", "noteStuck", "(III)V"⟩, 7), (⟨"TurnHouse$Turns", "quietStep", "()I"⟩, 20), (⟨"TurnHouse$Turns", "tryStep", "(II)Z"⟩, 20), (⟨"TurnHouse$Turns", "isWhile", "(I)Z"⟩, 20), (⟨"TurnHouse$Turns", "drawnOutcome", "(III)I"⟩, 20), (⟨"TurnHouse$Turns", "arrange", "(I)V"⟩, 20), (⟨"TurnHouse$Turns", "firstReady", "()I"⟩, 20), (⟨"TurnHouse$Turns", "lower", "(I)V"⟩, 20), (⟨"TurnHouse$Program", "swap", "(I)Z"⟩, 14)]
theorem lw_r3 : ∀ q ∈ lw_privs_3, lw_okq q := List.forall_mem_cons.mpr ⟨lw_p32, List.forall_mem_cons.mpr ⟨lw_p33, List.forall_mem_cons.mpr ⟨lw_p34, List.forall_mem_cons.mpr ⟨lw_p35, List.forall_mem_cons.mpr ⟨lw_p36, List.forall_mem_cons.mpr ⟨lw_p37, List.forall_mem_cons.mpr ⟨lw_p38, List.forall_mem_cons.mpr ⟨lw_p39, List.forall_mem_cons.mpr ⟨lw_p40, List.forall_mem_cons.mpr ⟨lw_p41, List.forall_mem_cons.mpr ⟨lw_p42, List.forall_mem_cons.mpr ⟨lw_p43, List.forall_mem_cons.mpr ⟨lw_p44, List.forall_mem_cons.mpr ⟨lw_p45, List.forall_mem_cons.mpr ⟨lw_p46, List.forall_mem_cons.mpr ⟨lw_p47, fun _ h => absurd h List.not_mem_nil⟩⟩⟩⟩⟩⟩⟩⟩⟩⟩⟩⟩⟩⟩⟩⟩
theorem lw_p48 : lw_okq (⟨"TurnHouse$Program", "ahead", "(I)I"⟩, 14) := ⟨⟨by decide +kernel, by decide +kernel⟩, List.mem_of_getElem? (i := 157) (by decide +kernel), List.mem_of_getElem? (i := 1067) (by decide +kernel), List.mem_of_getElem? (i := 1068) (by decide +kernel)⟩
theorem lw_p49 : lw_okq (⟨"TurnHouse$Program", "leaveOut", "(I)Z"⟩, 14) := ⟨⟨by decide +kernel, by decide +kernel⟩, List.mem_of_getElem? (i := 157) (by decide +kernel), List.mem_of_getElem? (i := 1075) (by decide +kernel), List.mem_of_getElem? (i := 1076) (by decide +kernel)⟩
theorem lw_p50 : lw_okq (⟨"TurnHouse$Program", "unlink", "(III)V"⟩, 14) := ⟨⟨by decide +kernel, by decide +kernel⟩, List.mem_of_getElem? (i := 157) (by decide +kernel), List.mem_of_getElem? (i := 1079) (by decide +kernel), List.mem_of_getElem? (i := 1080) (by decide +kernel)⟩
theorem lw_p51 : lw_okq (⟨"TurnHouse$Program", "empty", "(I)V"⟩, 14) := ⟨⟨by decide +kernel, by decide +kernel⟩, List.mem_of_getElem? (i := 157) (by decide +kernel), List.mem_of_getElem? (i := 1083) (by decide +kernel), List.mem_of_getElem? (i := 1084) (by decide +kernel)⟩
theorem lw_p52 : lw_okq (⟨"TurnHouse$Program", "reuse", "(I)Z"⟩, 14) := ⟨⟨by decide +kernel, by decide +kernel⟩, List.mem_of_getElem? (i := 157) (by decide +kernel), List.mem_of_getElem? (i := 1087) (by decide +kernel), List.mem_of_getElem? (i := 1088) (by decide +kernel)⟩
theorem lw_p53 : lw_okq (⟨"TurnHouse$Program", "behind", "(I)I"⟩, 14) := ⟨⟨by decide +kernel, by decide +kernel⟩, List.mem_of_getElem? (i := 157) (by decide +kernel), List.mem_of_getElem? (i := 1100) (by decide +kernel), List.mem_of_getElem? (i := 1101) (by decide +kernel)⟩
theorem lw_p54 : lw_okq (⟨"TurnHouse", "forgetRewritten", "()V"⟩, 15) := ⟨⟨by decide +kernel, by decide +kernel⟩, List.mem_of_getElem? (i := 22) (by decide +kernel), List.mem_of_getElem? (i := 1104) (by decide +kernel), List.mem_of_getElem? (i := 1105) (by decide +kernel)⟩
theorem lw_p55 : lw_okq (⟨"TurnHouse$Reader", "open", "(LTurnHouse$Nodes;Z)V"⟩, 15) := ⟨⟨by decide +kernel, by decide +kernel⟩, List.mem_of_getElem? (i := 241) (by decide +kernel), List.mem_of_getElem? (i := 1204) (by decide +kernel), List.mem_of_getElem? (i := 1205) (by decide +kernel)⟩
theorem lw_p56 : lw_okq (⟨"TurnHouse$Tokens", "skipBlanks", "()V"⟩, 12) := ⟨⟨by decide +kernel, by decide +kernel⟩, List.mem_of_getElem? (i := 30) (by decide +kernel), List.mem_of_getElem? (i := 1212) (by decide +kernel), List.mem_of_getElem? (i := 1213) (by decide +kernel)⟩
theorem lw_p57 : lw_okq (⟨"TurnHouse$Tokens", "cutOne", "()V"⟩, 12) := ⟨⟨by decide +kernel, by decide +kernel⟩, List.mem_of_getElem? (i := 30) (by decide +kernel), List.mem_of_getElem? (i := 1216) (by decide +kernel), List.mem_of_getElem? (i := 1217) (by decide +kernel)⟩
theorem lw_p58 : lw_okq (⟨"TurnHouse$Tokens", "byteAt", "(I)I"⟩, 12) := ⟨⟨by decide +kernel, by decide +kernel⟩, List.mem_of_getElem? (i := 30) (by decide +kernel), List.mem_of_getElem? (i := 1220) (by decide +kernel), List.mem_of_getElem? (i := 1221) (by decide +kernel)⟩
theorem lw_p59 : lw_okq (⟨"TurnHouse$Tokens", "cutWord", "()V"⟩, 12) := ⟨⟨by decide +kernel, by decide +kernel⟩, List.mem_of_getElem? (i := 30) (by decide +kernel), List.mem_of_getElem? (i := 1227) (by decide +kernel), List.mem_of_getElem? (i := 1228) (by decide +kernel)⟩
theorem lw_p60 : lw_okq (⟨"TurnHouse$Tokens", "cutNumber", "()V"⟩, 12) := ⟨⟨by decide +kernel, by decide +kernel⟩, List.mem_of_getElem? (i := 30) (by decide +kernel), List.mem_of_getElem? (i := 1234) (by decide +kernel), List.mem_of_getElem? (i := 1235) (by decide +kernel)⟩
theorem lw_p61 : lw_okq (⟨"TurnHouse$Tokens", "cutSign", "(I)V"⟩, 12) := ⟨⟨by decide +kernel, by decide +kernel⟩, List.mem_of_getElem? (i := 30) (by decide +kernel), List.mem_of_getElem? (i := 1240) (by decide +kernel), List.mem_of_getElem? (i := 1241) (by decide +kernel)⟩
theorem lw_p62 : lw_okq (⟨"TurnHouse$Reader", "skip", "(I)Z"⟩, 15) := ⟨⟨by decide +kernel, by decide +kernel⟩, List.mem_of_getElem? (i := 241) (by decide +kernel), List.mem_of_getElem? (i := 1304) (by decide +kernel), List.mem_of_getElem? (i := 1305) (by decide +kernel)⟩
theorem lw_p63 : lw_okq (⟨"TurnHouse$Reader", "readCell", "()V"⟩, 15) := ⟨⟨by decide +kernel, by decide +kernel⟩, List.mem_of_getElem? (i := 241) (by decide +kernel), List.mem_of_getElem? (i := 1309) (by decide +kernel), List.mem_of_getElem? (i := 1310) (by decide +kernel)⟩
def lw_privs_4 : List (MethodName × Nat) := [(⟨"TurnHouse$Program", "ahead", "(I)I"⟩, 14), (⟨"TurnHouse$Program", "leaveOut", "(I)Z"⟩, 14), (⟨"TurnHouse$Program", "unlink", "(III)V"⟩, 14), (⟨"TurnHouse$Program", "empty", "(I)V"⟩, 14), (⟨"TurnHouse$Program", "reuse", "(I)Z"⟩, 14), (⟨"TurnHouse$Program", "behind", "(I)I"⟩, 14), (⟨"TurnHouse", "forgetRewritten", "()V"⟩, 15), (⟨"TurnHouse$Reader", "open", "(LTurnHouse$Nodes;Z)V"⟩, 15), (⟨"TurnHouse$Tokens", "skipBlanks", "()V"⟩, 12), (⟨"TurnHouse$Tokens", "cutOne", "()V"⟩, 12), (⟨"TurnHouse$Tokens", "byteAt", "(I)I"⟩, 12), (⟨"TurnHouse$Tokens", "cutWord", "()V"⟩, 12), (⟨"TurnHouse$Tokens", "cutNumber", "()V"⟩, 12), (⟨"TurnHouse$Tokens", "cutSign", "(I)V"⟩, 12), (⟨"TurnHouse$Reader", "skip", "(I)Z"⟩, 15), (⟨"TurnHouse$Reader", "readCell", "()V"⟩, 15)]
theorem lw_r4 : ∀ q ∈ lw_privs_4, lw_okq q := List.forall_mem_cons.mpr ⟨lw_p48, List.forall_mem_cons.mpr ⟨lw_p49, List.forall_mem_cons.mpr ⟨lw_p50, List.forall_mem_cons.mpr ⟨lw_p51, List.forall_mem_cons.mpr ⟨lw_p52, List.forall_mem_cons.mpr ⟨lw_p53, List.forall_mem_cons.mpr ⟨lw_p54, List.forall_mem_cons.mpr ⟨lw_p55, List.forall_mem_cons.mpr ⟨lw_p56, List.forall_mem_cons.mpr ⟨lw_p57, List.forall_mem_cons.mpr ⟨lw_p58, List.forall_mem_cons.mpr ⟨lw_p59, List.forall_mem_cons.mpr ⟨lw_p60, List.forall_mem_cons.mpr ⟨lw_p61, List.forall_mem_cons.mpr ⟨lw_p62, List.forall_mem_cons.mpr ⟨lw_p63, fun _ h => absurd h List.not_mem_nil⟩⟩⟩⟩⟩⟩⟩⟩⟩⟩⟩⟩⟩⟩⟩⟩
theorem lw_p64 : lw_okq (⟨"TurnHouse$Reader", "isNewName", "(II)Z"⟩, 15) := ⟨⟨by decide +kernel, by decide +kernel⟩, List.mem_of_getElem? (i := 241) (by decide +kernel), List.mem_of_getElem? (i := 1313) (by decide +kernel), List.mem_of_getElem? (i := 1314) (by decide +kernel)⟩
theorem lw_p65 : lw_okq (⟨"TurnHouse$Reader", "blame", "(I)V"⟩, 15) := ⟨⟨by decide +kernel, by decide +kernel⟩, List.mem_of_getElem? (i := 241) (by decide +kernel), List.mem_of_getElem? (i := 1317) (by decide +kernel), List.mem_of_getElem? (i := 1318) (by decide +kernel)⟩
theorem lw_p66 : lw_okq (⟨"TurnHouse$Reader", "need", "(I)V"⟩, 15) := ⟨⟨by decide +kernel, by decide +kernel⟩, List.mem_of_getElem? (i := 241) (by decide +kernel), List.mem_of_getElem? (i := 1340) (by decide +kernel), List.mem_of_getElem? (i := 1341) (by decide +kernel)⟩
theorem lw_p67 : lw_okq (⟨"TurnHouse$Reader", "readLock", "()V"⟩, 15) := ⟨⟨by decide +kernel, by decide +kernel⟩, List.mem_of_getElem? (i := 241) (by decide +kernel), List.mem_of_getElem? (i := 1344) (by decide +kernel), List.mem_of_getElem? (i := 1345) (by decide +kernel)⟩
theorem lw_p68 : lw_okq (⟨"TurnHouse$Reader", "readThread", "()V"⟩, 15) := ⟨⟨by decide +kernel, by decide +kernel⟩, List.mem_of_getElem? (i := 241) (by decide +kernel), List.mem_of_getElem? (i := 1352) (by decide +kernel), List.mem_of_getElem? (i := 1353) (by decide +kernel)⟩
theorem lw_p69 : lw_okq (⟨"TurnHouse$Reader", "readBlock", "(III)V"⟩, 15) := ⟨⟨by decide +kernel, by decide +kernel⟩, List.mem_of_getElem? (i := 241) (by decide +kernel), List.mem_of_getElem? (i := 1360) (by decide +kernel), List.mem_of_getElem? (i := 1361) (by decide +kernel)⟩
theorem lw_p70 : lw_okq (⟨"TurnHouse$Reader", "mayBegin", "()Z"⟩, 15) := ⟨⟨by decide +kernel, by decide +kernel⟩, List.mem_of_getElem? (i := 241) (by decide +kernel), List.mem_of_getElem? (i := 1364) (by decide +kernel), List.mem_of_getElem? (i := 1365) (by decide +kernel)⟩
theorem lw_p71 : lw_okq (⟨"TurnHouse$Reader", "readStatement", "(II)V"⟩, 15) := ⟨⟨by decide +kernel, by decide +kernel⟩, List.mem_of_getElem? (i := 241) (by decide +kernel), List.mem_of_getElem? (i := 1380) (by decide +kernel), List.mem_of_getElem? (i := 1381) (by decide +kernel)⟩
theorem lw_p72 : lw_okq (⟨"TurnHouse$Reader", "readTarget", "(I)I"⟩, 15) := ⟨⟨by decide +kernel, by decide +kernel⟩, List.mem_of_getElem? (i := 241) (by decide +kernel), List.mem_of_getElem? (i := 1384) (by decide +kernel), List.mem_of_getElem? (i := 1385) (by decide +kernel)⟩
theorem lw_p73 : lw_okq (⟨"TurnHouse$Reader", "readLocal", "(I)V"⟩, 15) := ⟨⟨by decide +kernel, by decide +kernel⟩, List.mem_of_getElem? (i := 241) (by decide +kernel), List.mem_of_getElem? (i := 1391) (by decide +kernel), List.mem_of_getElem? (i := 1392) (by decide +kernel)⟩
theorem lw_p74 : lw_okq (⟨"TurnHouse$Reader", "localHere", "()I"⟩, 15) := ⟨⟨by decide +kernel, by decide +kernel⟩, List.mem_of_getElem? (i := 241) (by decide +kernel), List.mem_of_getElem? (i := 1395) (by decide +kernel), List.mem_of_getElem? (i := 1396) (by decide +kernel)⟩
theorem lw_p75 : lw_okq (⟨"TurnHouse$Reader", "readObject", "(II)V"⟩, 15) := ⟨⟨by decide +kernel, by decide +kernel⟩, List.mem_of_getElem? (i := 241) (by decide +kernel), List.mem_of_getElem? (i := 1404) (by decide +kernel), List.mem_of_getElem? (i := 1405) (by decide +kernel)⟩
theorem lw_p76 : lw_okq (⟨"TurnHouse$Reader", "needName", "(IZI)V"⟩, 15) := ⟨⟨by decide +kernel, by decide +kernel⟩, List.mem_of_getElem? (i := 241) (by decide +kernel), List.mem_of_getElem? (i := 1408) (by decide +kernel), List.mem_of_getElem? (i := 1409) (by decide +kernel)⟩
theorem lw_p77 : lw_okq (⟨"TurnHouse$Reader", "hasExp", "(I)Z"⟩, 15) := ⟨⟨by decide +kernel, by decide +kernel⟩, List.mem_of_getElem? (i := 241) (by decide +kernel), List.mem_of_getElem? (i := 1412) (by decide +kernel), List.mem_of_getElem? (i := 1413) (by decide +kernel)⟩
theorem lw_p78 : lw_okq (⟨"TurnHouse$Reader", "readLevel", "(II)V"⟩, 15) := ⟨⟨by decide +kernel, by decide +kernel⟩, List.mem_of_getElem? (i := 241) (by decide +kernel), List.mem_of_getElem? (i := 1416) (by decide +kernel), List.mem_of_getElem? (i := 1417) (by decide +kernel)⟩
theorem lw_p79 : lw_okq (⟨"TurnHouse$Reader", "readSide", "(II)V"⟩, 15) := ⟨⟨by decide +kernel, by decide +kernel⟩, List.mem_of_getElem? (i := 241) (by decide +kernel), List.mem_of_getElem? (i := 1420) (by decide +kernel), List.mem_of_getElem? (i := 1421) (by decide +kernel)⟩
def lw_privs_5 : List (MethodName × Nat) := [(⟨"TurnHouse$Reader", "isNewName", "(II)Z"⟩, 15), (⟨"TurnHouse$Reader", "blame", "(I)V"⟩, 15), (⟨"TurnHouse$Reader", "need", "(I)V"⟩, 15), (⟨"TurnHouse$Reader", "readLock", "()V"⟩, 15), (⟨"TurnHouse$Reader", "readThread", "()V"⟩, 15), (⟨"TurnHouse$Reader", "readBlock", "(III)V"⟩, 15), (⟨"TurnHouse$Reader", "mayBegin", "()Z"⟩, 15), (⟨"TurnHouse$Reader", "readStatement", "(II)V"⟩, 15), (⟨"TurnHouse$Reader", "readTarget", "(I)I"⟩, 15), (⟨"TurnHouse$Reader", "readLocal", "(I)V"⟩, 15), (⟨"TurnHouse$Reader", "localHere", "()I"⟩, 15), (⟨"TurnHouse$Reader", "readObject", "(II)V"⟩, 15), (⟨"TurnHouse$Reader", "needName", "(IZI)V"⟩, 15), (⟨"TurnHouse$Reader", "hasExp", "(I)Z"⟩, 15), (⟨"TurnHouse$Reader", "readLevel", "(II)V"⟩, 15), (⟨"TurnHouse$Reader", "readSide", "(II)V"⟩, 15)]
theorem lw_r5 : ∀ q ∈ lw_privs_5, lw_okq q := List.forall_mem_cons.mpr ⟨lw_p64, List.forall_mem_cons.mpr ⟨lw_p65, List.forall_mem_cons.mpr ⟨lw_p66, List.forall_mem_cons.mpr ⟨lw_p67, List.forall_mem_cons.mpr ⟨lw_p68, List.forall_mem_cons.mpr ⟨lw_p69, List.forall_mem_cons.mpr ⟨lw_p70, List.forall_mem_cons.mpr ⟨lw_p71, List.forall_mem_cons.mpr ⟨lw_p72, List.forall_mem_cons.mpr ⟨lw_p73, List.forall_mem_cons.mpr ⟨lw_p74, List.forall_mem_cons.mpr ⟨lw_p75, List.forall_mem_cons.mpr ⟨lw_p76, List.forall_mem_cons.mpr ⟨lw_p77, List.forall_mem_cons.mpr ⟨lw_p78, List.forall_mem_cons.mpr ⟨lw_p79, fun _ h => absurd h List.not_mem_nil⟩⟩⟩⟩⟩⟩⟩⟩⟩⟩⟩⟩⟩⟩⟩⟩
theorem lw_p80 : lw_okq (⟨"TurnHouse$Reader", "readOne", "(I)V"⟩, 15) := ⟨⟨by decide +kernel, by decide +kernel⟩, List.mem_of_getElem? (i := 241) (by decide +kernel), List.mem_of_getElem? (i := 1424) (by decide +kernel), List.mem_of_getElem? (i := 1425) (by decide +kernel)⟩
theorem lw_p81 : lw_okq (⟨"TurnHouse$Reader", "beginsOne", "(I)Z"⟩, 15) := ⟨⟨by decide +kernel, by decide +kernel⟩, List.mem_of_getElem? (i := 241) (by decide +kernel), List.mem_of_getElem? (i := 1428) (by decide +kernel), List.mem_of_getElem? (i := 1429) (by decide +kernel)⟩
theorem lw_p82 : lw_okq (⟨"TurnHouse$Reader", "isStray", "()Z"⟩, 15) := ⟨⟨by decide +kernel, by decide +kernel⟩, List.mem_of_getElem? (i := 241) (by decide +kernel), List.mem_of_getElem? (i := 1432) (by decide +kernel), List.mem_of_getElem? (i := 1433) (by decide +kernel)⟩
theorem lw_p83 : lw_okq (⟨"TurnHouse$Reader", "countNode", "()Z"⟩, 15) := ⟨⟨by decide +kernel, by decide +kernel⟩, List.mem_of_getElem? (i := 241) (by decide +kernel), List.mem_of_getElem? (i := 1436) (by decide +kernel), List.mem_of_getElem? (i := 1437) (by decide +kernel)⟩
theorem lw_p84 : lw_okq (⟨"TurnHouse$Reader", "readNode", "(II)V"⟩, 15) := ⟨⟨by decide +kernel, by decide +kernel⟩, List.mem_of_getElem? (i := 241) (by decide +kernel), List.mem_of_getElem? (i := 1440) (by decide +kernel), List.mem_of_getElem? (i := 1441) (by decide +kernel)⟩
theorem lw_p85 : lw_okq (⟨"TurnHouse$Reader", "readCellOrLocal", "()V"⟩, 15) := ⟨⟨by decide +kernel, by decide +kernel⟩, List.mem_of_getElem? (i := 241) (by decide +kernel), List.mem_of_getElem? (i := 1449) (by decide +kernel), List.mem_of_getElem? (i := 1450) (by decide +kernel)⟩
theorem lw_p86 : lw_okq (⟨"TurnHouse$Reader", "readAsked", "(I)V"⟩, 15) := ⟨⟨by decide +kernel, by decide +kernel⟩, List.mem_of_getElem? (i := 241) (by decide +kernel), List.mem_of_getElem? (i := 1455) (by decide +kernel), List.mem_of_getElem? (i := 1456) (by decide +kernel)⟩
theorem lw_p87 : lw_okq (⟨"TurnHouse$Reader", "readInto", "(I)V"⟩, 15) := ⟨⟨by decide +kernel, by decide +kernel⟩, List.mem_of_getElem? (i := 241) (by decide +kernel), List.mem_of_getElem? (i := 1462) (by decide +kernel), List.mem_of_getElem? (i := 1463) (by decide +kernel)⟩
theorem lw_p88 : lw_okq (⟨"TurnHouse$Reader", "aimThreads", "()V"⟩, 15) := ⟨⟨by decide +kernel, by decide +kernel⟩, List.mem_of_getElem? (i := 241) (by decide +kernel), List.mem_of_getElem? (i := 1466) (by decide +kernel), List.mem_of_getElem? (i := 1467) (by decide +kernel)⟩
theorem lw_p89 : lw_okq (⟨"TurnHouse$Turns", "countSwitches", "()V"⟩, 20) := ⟨⟨by decide +kernel, by decide +kernel⟩, List.mem_of_getElem? (i := 295) (by decide +kernel), List.mem_of_getElem? (i := 1493) (by decide +kernel), List.mem_of_getElem? (i := 1494) (by decide +kernel)⟩
theorem lw_p90 : lw_okq (⟨"TurnHouse$Turns", "reach", "(III)V"⟩, 20) := ⟨⟨by decide +kernel, by decide +kernel⟩, List.mem_of_getElem? (i := 295) (by decide +kernel), List.mem_of_getElem? (i := 1504) (by decide +kernel), List.mem_of_getElem? (i := 1505) (by decide +kernel)⟩
theorem lw_p91 : lw_okq (⟨"TurnHouse$Turns", "leaveFrom", "(II)V"⟩, 20) := ⟨⟨by decide +kernel, by decide +kernel⟩, List.mem_of_getElem? (i := 295) (by decide +kernel), List.mem_of_getElem? (i := 1508) (by decide +kernel), List.mem_of_getElem? (i := 1509) (by decide +kernel)⟩
def lw_privs_6 : List (MethodName × Nat) := [(⟨"TurnHouse$Reader", "readOne", "(I)V"⟩, 15), (⟨"TurnHouse$Reader", "beginsOne", "(I)Z"⟩, 15), (⟨"TurnHouse$Reader", "isStray", "()Z"⟩, 15), (⟨"TurnHouse$Reader", "countNode", "()Z"⟩, 15), (⟨"TurnHouse$Reader", "readNode", "(II)V"⟩, 15), (⟨"TurnHouse$Reader", "readCellOrLocal", "()V"⟩, 15), (⟨"TurnHouse$Reader", "readAsked", "(I)V"⟩, 15), (⟨"TurnHouse$Reader", "readInto", "(I)V"⟩, 15), (⟨"TurnHouse$Reader", "aimThreads", "()V"⟩, 15), (⟨"TurnHouse$Turns", "countSwitches", "()V"⟩, 20), (⟨"TurnHouse$Turns", "reach", "(III)V"⟩, 20), (⟨"TurnHouse$Turns", "leaveFrom", "(II)V"⟩, 20)]
theorem lw_r6 : ∀ q ∈ lw_privs_6, lw_okq q := List.forall_mem_cons.mpr ⟨lw_p80, List.forall_mem_cons.mpr ⟨lw_p81, List.forall_mem_cons.mpr ⟨lw_p82, List.forall_mem_cons.mpr ⟨lw_p83, List.forall_mem_cons.mpr ⟨lw_p84, List.forall_mem_cons.mpr ⟨lw_p85, List.forall_mem_cons.mpr ⟨lw_p86, List.forall_mem_cons.mpr ⟨lw_p87, List.forall_mem_cons.mpr ⟨lw_p88, List.forall_mem_cons.mpr ⟨lw_p89, List.forall_mem_cons.mpr ⟨lw_p90, List.forall_mem_cons.mpr ⟨lw_p91, fun _ h => absurd h List.not_mem_nil⟩⟩⟩⟩⟩⟩⟩⟩⟩⟩⟩⟩
def lw_privs : List (MethodName × Nat) := lw_privs_1 ++ (lw_privs_2 ++ (lw_privs_3 ++ (lw_privs_4 ++ (lw_privs_5 ++ (lw_privs_6)))))
def lw_tbl : List Cond := k2_sels lw_privs ++ tables_1
theorem lw_privs_ok : ∀ q ∈ lw_privs, lw_okq q := by
  show ∀ q ∈ lw_privs_1 ++ (lw_privs_2 ++ (lw_privs_3 ++ (lw_privs_4 ++ (lw_privs_5 ++ (lw_privs_6))))), lw_okq q
  exact List.forall_mem_append.mpr ⟨lw_r1, List.forall_mem_append.mpr ⟨lw_r2, List.forall_mem_append.mpr ⟨lw_r3, List.forall_mem_append.mpr ⟨lw_r4, List.forall_mem_append.mpr ⟨lw_r5, lw_r6⟩⟩⟩⟩⟩
-- ===== end of PART A; names out of the printed list =====
def RX0 : String := "TurnHouse$Findings"
def TX0 : u_T := fun k => match k with
  | 0 => ("TurnHouse$Findings", "raceState", "[I", true)
  | 1 => ("TurnHouse$Findings", "guards", "[I", true)
  | 2 => ("TurnHouse$Findings", "orders", "[I", true)
  | 3 => ("TurnHouse$Findings", "ringing", "[I", true)
  | 4 => ("TurnHouse$Findings", "touching", "[I", true)
  | 5 => ("TurnHouse$Findings", "reached", "[I", true)
  | _ => ("TurnHouse$Findings", "raceCount", "I", false)
def tyX0 : Nat → FieldType := fun k => match k with
  | 0 => .array .int
  | 1 => .array .int
  | 2 => .array .int
  | 3 => .array .int
  | 4 => .array .int
  | 5 => .array .int
  | _ => .int
abbrev wsX00 : List Cond := u_ws RX0 TX0 7
theorem nmX0 : ∀ a, a < 7 → ∀ b, b < 7 → a ≠ b → (TX0 a).2.1 ≠ (TX0 b).2.1 := by decide +kernel
theorem tyX0_ok : ∀ k, k < 7 → parseFieldDescriptor (TX0 k).2.2.1 = some (tyX0 k) := by decide +kernel
abbrev cX0_init : ByteArray := prog_2_method_1_code
def yX0_init : MethodName := ⟨RX0, "<init>", "()V"⟩
abbrev cX0_clear : ByteArray := prog_2_method_2_code
def yX0_clear : MethodName := ⟨RX0, "clear", "(LTurnHouse$Program;)V"⟩
abbrev cX0_see : ByteArray := prog_2_method_3_code
def yX0_see : MethodName := ⟨RX0, "see", "(LTurnHouse$Machine;I)V"⟩
abbrev cX0_noteRace : ByteArray := prog_2_method_4_code
def yX0_noteRace : MethodName := ⟨RX0, "noteRace", "(III)V"⟩
abbrev cX0_noteTaking : ByteArray := prog_2_method_6_code
def yX0_noteTaking : MethodName := ⟨RX0, "noteTaking", "(LTurnHouse$Machine;I)V"⟩
abbrev cX0_seeStuck : ByteArray := prog_2_method_8_code
def yX0_seeStuck : MethodName := ⟨RX0, "seeStuck", "(LTurnHouse$Machine;I)V"⟩
abbrev cX0_noteStuck : ByteArray := prog_2_method_9_code
def yX0_noteStuck : MethodName := ⟨RX0, "noteStuck", "(III)V"⟩
abbrev cX0_leastInRing : ByteArray := prog_2_method_10_code
def yX0_leastInRing : MethodName := ⟨RX0, "leastInRing", "(LTurnHouse$Machine;)I"⟩
def RX1 : String := "TurnHouse$History"
def TX1 : u_T := fun k => match k with
  | 0 => ("TurnHouse$History", "calls", "[[I", true)
  | 1 => ("TurnHouse$History", "content", "[[I", true)
  | 2 => ("TurnHouse$History", "contentSize", "[I", true)
  | 3 => ("TurnHouse$History", "open", "[I", true)
  | 4 => ("TurnHouse$History", "chosen", "[I", true)
  | 5 => ("TurnHouse$History", "told", "[I", true)
  | 6 => ("TurnHouse$History", "toldLength", "I", false)
  | 7 => ("TurnHouse$History", "length", "I", false)
  | 8 => ("TurnHouse$History", "callCount", "I", false)
  | 9 => ("TurnHouse$History", "repliedCalls", "I", false)
  | _ => ("TurnHouse$History", "structure", "I", false)
def tyX1 : Nat → FieldType := fun k => match k with
  | 0 => .array (.array .int)
  | 1 => .array (.array .int)
  | 2 => .array .int
  | 3 => .array .int
  | 4 => .array .int
  | 5 => .array .int
  | 6 => .int
  | 7 => .int
  | 8 => .int
  | 9 => .int
  | _ => .int
abbrev wsX10 : List Cond := u_ws RX1 TX1 11
theorem nmX1 : ∀ a, a < 11 → ∀ b, b < 11 → a ≠ b → (TX1 a).2.1 ≠ (TX1 b).2.1 := by decide +kernel
theorem tyX1_ok : ∀ k, k < 11 → parseFieldDescriptor (TX1 k).2.2.1 = some (tyX1 k) := by decide +kernel
abbrev cX1_init : ByteArray := prog_3_method_1_code
def yX1_init : MethodName := ⟨RX1, "<init>", "()V"⟩
def RX2 : String := "TurnHouse$Judge"
def TX2 : u_T := fun k => match k with
  | 0 => ("TurnHouse$Judge", "turns", "LTurnHouse$Turns;", true)
  | 1 => ("TurnHouse$Judge", "nodes", "LTurnHouse$Nodes;", true)
  | 2 => ("TurnHouse$Judge", "flags", "[I", true)
  | 3 => ("TurnHouse$Judge", "number", "[I", true)
  | 4 => ("TurnHouse$Judge", "low", "[I", true)
  | 5 => ("TurnHouse$Judge", "group", "[I", true)
  | 6 => ("TurnHouse$Judge", "open", "[I", true)
  | 7 => ("TurnHouse$Judge", "trail", "[I", true)
  | 8 => ("TurnHouse$Judge", "next", "[I", true)
  | 9 => ("TurnHouse$Judge", "numbered", "I", false)
  | 10 => ("TurnHouse$Judge", "openCount", "I", false)
  | 11 => ("TurnHouse$Judge", "trailLength", "I", false)
  | 12 => ("TurnHouse$Judge", "groups", "I", false)
  | _ => ("TurnHouse$Judge", "shown", "I", false)
def tyX2 : Nat → FieldType := fun k => match k with
  | 0 => .object "TurnHouse$Turns"
  | 1 => .object "TurnHouse$Nodes"
  | 2 => .array .int
  | 3 => .array .int
  | 4 => .array .int
  | 5 => .array .int
  | 6 => .array .int
  | 7 => .array .int
  | 8 => .array .int
  | 9 => .int
  | 10 => .int
  | 11 => .int
  | 12 => .int
  | _ => .int
abbrev wsX20 : List Cond := u_ws RX2 TX2 14
theorem nmX2 : ∀ a, a < 14 → ∀ b, b < 14 → a ≠ b → (TX2 a).2.1 ≠ (TX2 b).2.1 := by decide +kernel
theorem tyX2_ok : ∀ k, k < 14 → parseFieldDescriptor (TX2 k).2.2.1 = some (tyX2 k) := by decide +kernel
abbrev cX2_init : ByteArray := prog_4_method_1_code
def yX2_init : MethodName := ⟨RX2, "<init>", "(LTurnHouse$Turns;LTurnHouse$Nodes;)V"⟩
def RX3 : String := "TurnHouse$Machine"
def TX3 : u_T := fun k => match k with
  | 0 => ("TurnHouse$Machine", "now", "[I", true)
  | 1 => ("TurnHouse$Machine", "kept", "[I", true)
  | 2 => ("TurnHouse$Machine", "ready", "[I", true)
  | 3 => ("TurnHouse$Machine", "readyCount", "I", false)
  | 4 => ("TurnHouse$Machine", "slots", "[I", true)
  | 5 => ("TurnHouse$Machine", "slotCount", "I", false)
  | 6 => ("TurnHouse$Machine", "outcomeSlotCount", "I", false)
  | 7 => ("TurnHouse$Machine", "program", "LTurnHouse$Program;", false)
  | 8 => ("TurnHouse$Machine", "way", "I", false)
  | 9 => ("TurnHouse$Machine", "line", "I", false)
  | 10 => ("TurnHouse$Machine", "act", "I", false)
  | 11 => ("TurnHouse$Machine", "told", "I", false)
  | _ => ("TurnHouse$Machine", "target", "I", false)
def tyX3 : Nat → FieldType := fun k => match k with
  | 0 => .array .int
  | 1 => .array .int
  | 2 => .array .int
  | 3 => .int
  | 4 => .array .int
  | 5 => .int
  | 6 => .int
  | 7 => .object "TurnHouse$Program"
  | 8 => .int
  | 9 => .int
  | 10 => .int
  | 11 => .int
  | _ => .int
abbrev wsX30 : List Cond := u_ws RX3 TX3 13
theorem nmX3 : ∀ a, a < 13 → ∀ b, b < 13 → a ≠ b → (TX3 a).2.1 ≠ (TX3 b).2.1 := by decide +kernel
theorem tyX3_ok : ∀ k, k < 13 → parseFieldDescriptor (TX3 k).2.2.1 = some (tyX3 k) := by decide +kernel
abbrev cX3_init : ByteArray := prog_5_method_1_code
def yX3_init : MethodName := ⟨RX3, "<init>", "()V"⟩
abbrev cX3_localSlot : ByteArray := prog_5_method_2_code
def yX3_localSlot : MethodName := ⟨RX3, "localSlot", "(II)I"⟩
abbrev cX3_enterFirst : ByteArray := prog_5_method_3_code
def yX3_enterFirst : MethodName := ⟨RX3, "enterFirst", "(LTurnHouse$Program;I)V"⟩
abbrev cX3_go : ByteArray := prog_5_method_4_code
def yX3_go : MethodName := ⟨RX3, "go", "(II)V"⟩
abbrev cX3_pickSlots : ByteArray := prog_5_method_5_code
def yX3_pickSlots : MethodName := ⟨RX3, "pickSlots", "()V"⟩
abbrev cX3_pick : ByteArray := prog_5_method_6_code
def yX3_pick : MethodName := ⟨RX3, "pick", "(II)V"⟩
abbrev cX3_makeEven : ByteArray := prog_5_method_7_code
def yX3_makeEven : MethodName := ⟨RX3, "makeEven", "()V"⟩
abbrev cX3_pack : ByteArray := prog_5_method_8_code
def yX3_pack : MethodName := ⟨RX3, "pack", "([J)V"⟩
abbrev cX3_unpack : ByteArray := prog_5_method_9_code
def yX3_unpack : MethodName := ⟨RX3, "unpack", "([JI)V"⟩
abbrev cX3_keep : ByteArray := prog_5_method_10_code
def yX3_keep : MethodName := ⟨RX3, "keep", "()V"⟩
abbrev cX3_comeBack : ByteArray := prog_5_method_11_code
def yX3_comeBack : MethodName := ⟨RX3, "comeBack", "()V"⟩
abbrev cX3_listReady : ByteArray := prog_5_method_12_code
def yX3_listReady : MethodName := ⟨RX3, "listReady", "()I"⟩
abbrev cX3_isReady : ByteArray := prog_5_method_13_code
def yX3_isReady : MethodName := ⟨RX3, "isReady", "(II)Z"⟩
abbrev cX3_choices : ByteArray := prog_5_method_14_code
def yX3_choices : MethodName := ⟨RX3, "choices", "(I)I"⟩
abbrev cX3_needsEmptyQueue : ByteArray := prog_5_method_15_code
def yX3_needsEmptyQueue : MethodName := ⟨RX3, "needsEmptyQueue", "(II)Z"⟩
abbrev cX3_hasRoom : ByteArray := prog_5_method_16_code
def yX3_hasRoom : MethodName := ⟨RX3, "hasRoom", "(III)Z"⟩
abbrev cX3_waitsFor : ByteArray := prog_5_method_17_code
def yX3_waitsFor : MethodName := ⟨RX3, "waitsFor", "(II)Z"⟩
abbrev cX3_waiters : ByteArray := prog_5_method_18_code
def yX3_waiters : MethodName := ⟨RX3, "waiters", "(I)I"⟩
abbrev cX3_sort : ByteArray := prog_5_method_19_code
def yX3_sort : MethodName := ⟨RX3, "sort", "()I"⟩
abbrev cX3_locksOf : ByteArray := prog_5_method_20_code
def yX3_locksOf : MethodName := ⟨RX3, "locksOf", "(I)I"⟩
abbrev cX3_lockAhead : ByteArray := prog_5_method_21_code
def yX3_lockAhead : MethodName := ⟨RX3, "lockAhead", "(I)I"⟩
abbrev cX3_take : ByteArray := prog_5_method_22_code
def yX3_take : MethodName := ⟨RX3, "take", "(II)V"⟩
abbrev cX3_workOut : ByteArray := prog_5_method_23_code
def yX3_workOut : MethodName := ⟨RX3, "workOut", "(I)I"⟩
abbrev cX3_setLocal : ByteArray := prog_5_method_24_code
def yX3_setLocal : MethodName := ⟨RX3, "setLocal", "(II)V"⟩
abbrev cX3_touch : ByteArray := prog_5_method_25_code
def yX3_touch : MethodName := ⟨RX3, "touch", "(III)I"⟩
abbrev cX3_swapIf : ByteArray := prog_5_method_26_code
def yX3_swapIf : MethodName := ⟨RX3, "swapIf", "(IIII)V"⟩
abbrev cX3_addTo : ByteArray := prog_5_method_27_code
def yX3_addTo : MethodName := ⟨RX3, "addTo", "(III)I"⟩
abbrev cX3_useLock : ByteArray := prog_5_method_28_code
def yX3_useLock : MethodName := ⟨RX3, "useLock", "(III)I"⟩
abbrev cX3_leave : ByteArray := prog_5_method_29_code
def yX3_leave : MethodName := ⟨RX3, "leave", "(II)V"⟩
abbrev cX3_wake : ByteArray := prog_5_method_30_code
def yX3_wake : MethodName := ⟨RX3, "wake", "(II)V"⟩
abbrev cX3_takeBack : ByteArray := prog_5_method_31_code
def yX3_takeBack : MethodName := ⟨RX3, "takeBack", "(II)V"⟩
abbrev cX3_meet : ByteArray := prog_5_method_32_code
def yX3_meet : MethodName := ⟨RX3, "meet", "(II)I"⟩
abbrev cX3_begins : ByteArray := prog_5_method_33_code
def yX3_begins : MethodName := ⟨RX3, "begins", "(II)I"⟩
abbrev cX3_tell : ByteArray := prog_5_method_34_code
def yX3_tell : MethodName := ⟨RX3, "tell", "()I"⟩
abbrev cX3_loadable : ByteArray := prog_5_method_36_code
def yX3_loadable : MethodName := ⟨RX3, "loadable", "(II)I"⟩
abbrev cX3_store : ByteArray := prog_5_method_37_code
def yX3_store : MethodName := ⟨RX3, "store", "(III)V"⟩
abbrev cX3_flush : ByteArray := prog_5_method_38_code
def yX3_flush : MethodName := ⟨RX3, "flush", "(I)V"⟩
abbrev cX3_write : ByteArray := prog_5_method_39_code
def yX3_write : MethodName := ⟨RX3, "write", "(IIIZ)V"⟩
abbrev cX3_viewed : ByteArray := prog_5_method_40_code
def yX3_viewed : MethodName := ⟨RX3, "viewed", "(II)I"⟩
abbrev cX3_view : ByteArray := prog_5_method_41_code
def yX3_view : MethodName := ⟨RX3, "view", "(III)V"⟩
abbrev cX3_look : ByteArray := prog_5_method_42_code
def yX3_look : MethodName := ⟨RX3, "look", "(III)V"⟩
abbrev cX3_lookAtLast : ByteArray := prog_5_method_43_code
def yX3_lookAtLast : MethodName := ⟨RX3, "lookAtLast", "(II)V"⟩
abbrev cX3_learn : ByteArray := prog_5_method_44_code
def yX3_learn : MethodName := ⟨RX3, "learn", "(II)V"⟩
def RX4 : String := "TurnHouse$Nodes"
def TX4 : u_T := fun k => match k with
  | 0 => ("TurnHouse$Nodes", "operator", "[I", true)
  | 1 => ("TurnHouse$Nodes", "operand", "[I", true)
  | 2 => ("TurnHouse$Nodes", "stack", "[I", true)
  | 3 => ("TurnHouse$Nodes", "size", "I", false)
  | _ => ("TurnHouse$Nodes", "beyond", "Z", false)
def tyX4 : Nat → FieldType := fun k => match k with
  | 0 => .array .int
  | 1 => .array .int
  | 2 => .array .int
  | 3 => .int
  | _ => .boolean
abbrev wsX40 : List Cond := u_ws RX4 TX4 5
theorem nmX4 : ∀ a, a < 5 → ∀ b, b < 5 → a ≠ b → (TX4 a).2.1 ≠ (TX4 b).2.1 := by decide +kernel
theorem tyX4_ok : ∀ k, k < 5 → parseFieldDescriptor (TX4 k).2.2.1 = some (tyX4 k) := by decide +kernel
abbrev cX4_init : ByteArray := prog_6_method_1_code
def yX4_init : MethodName := ⟨RX4, "<init>", "(I)V"⟩
abbrev cX4_put : ByteArray := prog_6_method_2_code
def yX4_put : MethodName := ⟨RX4, "put", "(II)V"⟩
abbrev cX4_set : ByteArray := prog_6_method_3_code
def yX4_set : MethodName := ⟨RX4, "set", "(III)V"⟩
abbrev cX4_workOut : ByteArray := prog_6_method_4_code
def yX4_workOut : MethodName := ⟨RX4, "workOut", "(II[I)I"⟩
abbrev cX4_apply : ByteArray := prog_6_method_5_code
def yX4_apply : MethodName := ⟨RX4, "apply", "(III[I)I"⟩
def RX5 : String := "TurnHouse$Program"
def TX5 : u_T := fun k => match k with
  | 0 => ("TurnHouse$Program", "nodes", "LTurnHouse$Nodes;", true)
  | 1 => ("TurnHouse$Program", "names", "[J", true)
  | 2 => ("TurnHouse$Program", "locals", "[J", true)
  | 3 => ("TurnHouse$Program", "localCount", "[I", true)
  | 4 => ("TurnHouse$Program", "firstValue", "[I", true)
  | 5 => ("TurnHouse$Program", "head", "[I", true)
  | 6 => ("TurnHouse$Program", "at", "[[I", true)
  | 7 => ("TurnHouse$Program", "volatileCells", "I", false)
  | 8 => ("TurnHouse$Program", "laterThreads", "I", false)
  | 9 => ("TurnHouse$Program", "cellCount", "I", false)
  | 10 => ("TurnHouse$Program", "lockCount", "I", false)
  | 11 => ("TurnHouse$Program", "threadCount", "I", false)
  | 12 => ("TurnHouse$Program", "lineCount", "I", false)
  | _ => ("TurnHouse$Program", "nodeCount", "I", false)
def tyX5 : Nat → FieldType := fun k => match k with
  | 0 => .object "TurnHouse$Nodes"
  | 1 => .array .long
  | 2 => .array .long
  | 3 => .array .int
  | 4 => .array .int
  | 5 => .array .int
  | 6 => .array (.array .int)
  | 7 => .int
  | 8 => .int
  | 9 => .int
  | 10 => .int
  | 11 => .int
  | 12 => .int
  | _ => .int
abbrev wsX50 : List Cond := u_ws RX5 TX5 14
theorem nmX5 : ∀ a, a < 14 → ∀ b, b < 14 → a ≠ b → (TX5 a).2.1 ≠ (TX5 b).2.1 := by decide +kernel
theorem tyX5_ok : ∀ k, k < 14 → parseFieldDescriptor (TX5 k).2.2.1 = some (tyX5 k) := by decide +kernel
abbrev cX5_init : ByteArray := prog_7_method_1_code
def yX5_init : MethodName := ⟨RX5, "<init>", "(LTurnHouse$Nodes;)V"⟩
abbrev cX5_clear : ByteArray := prog_7_method_2_code
def yX5_clear : MethodName := ⟨RX5, "clear", "()V"⟩
abbrev cX5_copy : ByteArray := prog_7_method_3_code
def yX5_copy : MethodName := ⟨RX5, "copy", "(LTurnHouse$Program;)V"⟩
abbrev cX5_find : ByteArray := prog_7_method_4_code
def yX5_find : MethodName := ⟨RX5, "find", "([JIIJ)I"⟩
abbrev cX5_named : ByteArray := prog_7_method_5_code
def yX5_named : MethodName := ⟨RX5, "named", "(J)I"⟩
abbrev cX5_isCell : ByteArray := prog_7_method_6_code
def yX5_isCell : MethodName := ⟨RX5, "isCell", "(I)Z"⟩
abbrev cX5_isLock : ByteArray := prog_7_method_7_code
def yX5_isLock : MethodName := ⟨RX5, "isLock", "(I)Z"⟩
abbrev cX5_isThread : ByteArray := prog_7_method_8_code
def yX5_isThread : MethodName := ⟨RX5, "isThread", "(I)Z"⟩
abbrev cX5_localOf : ByteArray := prog_7_method_9_code
def yX5_localOf : MethodName := ⟨RX5, "localOf", "(IJ)I"⟩
abbrev cX5_isTold : ByteArray := prog_7_method_10_code
def yX5_isTold : MethodName := ⟨RX5, "isTold", "(J)Z"⟩
abbrev cX5_hasCell : ByteArray := prog_7_method_11_code
def yX5_hasCell : MethodName := ⟨RX5, "hasCell", "(I)Z"⟩
abbrev cX5_hasThread : ByteArray := prog_7_method_13_code
def yX5_hasThread : MethodName := ⟨RX5, "hasThread", "(I)Z"⟩
abbrev cX5_hasLocal : ByteArray := prog_7_method_14_code
def yX5_hasLocal : MethodName := ⟨RX5, "hasLocal", "(II)Z"⟩
abbrev cX5_isVolatile : ByteArray := prog_7_method_15_code
def yX5_isVolatile : MethodName := ⟨RX5, "isVolatile", "(I)Z"⟩
abbrev cX5_addCell : ByteArray := prog_7_method_16_code
def yX5_addCell : MethodName := ⟨RX5, "addCell", "(J)I"⟩
abbrev cX5_addLock : ByteArray := prog_7_method_17_code
def yX5_addLock : MethodName := ⟨RX5, "addLock", "(J)V"⟩
abbrev cX5_addThread : ByteArray := prog_7_method_18_code
def yX5_addThread : MethodName := ⟨RX5, "addThread", "(J)I"⟩
abbrev cX5_addLocal : ByteArray := prog_7_method_19_code
def yX5_addLocal : MethodName := ⟨RX5, "addLocal", "(IJ)I"⟩
abbrev cX5_addLine : ByteArray := prog_7_method_20_code
def yX5_addLine : MethodName := ⟨RX5, "addLine", "(IIII)I"⟩
abbrev cX5_link : ByteArray := prog_7_method_21_code
def yX5_link : MethodName := ⟨RX5, "link", "(II)V"⟩
abbrev cX5_layWays : ByteArray := prog_7_method_22_code
def yX5_layWays : MethodName := ⟨RX5, "layWays", "()V"⟩
abbrev cX5_behind : ByteArray := prog_7_method_23_code
def yX5_behind : MethodName := ⟨RX5, "behind", "(I)I"⟩
abbrev cX5_touches : ByteArray := prog_7_method_24_code
def yX5_touches : MethodName := ⟨RX5, "touches", "(I)Z"⟩
abbrev cX5_clash : ByteArray := prog_7_method_25_code
def yX5_clash : MethodName := ⟨RX5, "clash", "(II)Z"⟩
abbrev cX5_change : ByteArray := prog_7_method_26_code
def yX5_change : MethodName := ⟨RX5, "change", "(II)Z"⟩
abbrev cX5_ahead : ByteArray := prog_7_method_27_code
def yX5_ahead : MethodName := ⟨RX5, "ahead", "(I)I"⟩
abbrev cX5_swap : ByteArray := prog_7_method_28_code
def yX5_swap : MethodName := ⟨RX5, "swap", "(I)Z"⟩
abbrev cX5_leaveOut : ByteArray := prog_7_method_29_code
def yX5_leaveOut : MethodName := ⟨RX5, "leaveOut", "(I)Z"⟩
abbrev cX5_unlink : ByteArray := prog_7_method_30_code
def yX5_unlink : MethodName := ⟨RX5, "unlink", "(III)V"⟩
abbrev cX5_empty : ByteArray := prog_7_method_31_code
def yX5_empty : MethodName := ⟨RX5, "empty", "(I)V"⟩
abbrev cX5_reuse : ByteArray := prog_7_method_32_code
def yX5_reuse : MethodName := ⟨RX5, "reuse", "(I)Z"⟩
def RX6 : String := "TurnHouse$Reader"
def TX6 : u_T := fun k => match k with
  | 0 => ("TurnHouse$Reader", "tokens", "LTurnHouse$Tokens;", true)
  | 1 => ("TurnHouse$Reader", "program", "LTurnHouse$Program;", true)
  | 2 => ("TurnHouse$Reader", "lawNodes", "LTurnHouse$Nodes;", true)
  | 3 => ("TurnHouse$Reader", "callWords", "[J", true)
  | 4 => ("TurnHouse$Reader", "aimed", "[J", true)
  | 5 => ("TurnHouse$Reader", "aimedAt", "[I", true)
  | 6 => ("TurnHouse$Reader", "cuts", "[I", true)
  | 7 => ("TurnHouse$Reader", "nodes", "LTurnHouse$Nodes;", false)
  | 8 => ("TurnHouse$Reader", "ofLaw", "Z", false)
  | 9 => ("TurnHouse$Reader", "fair", "Z", false)
  | 10 => ("TurnHouse$Reader", "law", "I", false)
  | 11 => ("TurnHouse$Reader", "fault", "I", false)
  | 12 => ("TurnHouse$Reader", "place", "I", false)
  | 13 => ("TurnHouse$Reader", "counted", "I", false)
  | _ => ("TurnHouse$Reader", "thread", "I", false)
def tyX6 : Nat → FieldType := fun k => match k with
  | 0 => .object "TurnHouse$Tokens"
  | 1 => .object "TurnHouse$Program"
  | 2 => .object "TurnHouse$Nodes"
  | 3 => .array .long
  | 4 => .array .long
  | 5 => .array .int
  | 6 => .array .int
  | 7 => .object "TurnHouse$Nodes"
  | 8 => .boolean
  | 9 => .boolean
  | 10 => .int
  | 11 => .int
  | 12 => .int
  | 13 => .int
  | _ => .int
abbrev wsX60 : List Cond := u_ws RX6 TX6 15
theorem nmX6 : ∀ a, a < 15 → ∀ b, b < 15 → a ≠ b → (TX6 a).2.1 ≠ (TX6 b).2.1 := by decide +kernel
theorem tyX6_ok : ∀ k, k < 15 → parseFieldDescriptor (TX6 k).2.2.1 = some (tyX6 k) := by decide +kernel
abbrev cX6_init : ByteArray := prog_8_method_1_code
def yX6_init : MethodName := ⟨RX6, "<init>", "(LTurnHouse$Tokens;LTurnHouse$Program;LTurnHouse$Nodes;)V"⟩
abbrev cX6_open : ByteArray := prog_8_method_2_code
def yX6_open : MethodName := ⟨RX6, "open", "(LTurnHouse$Nodes;Z)V"⟩
abbrev cX6_blame : ByteArray := prog_8_method_3_code
def yX6_blame : MethodName := ⟨RX6, "blame", "(I)V"⟩
abbrev cX6_need : ByteArray := prog_8_method_4_code
def yX6_need : MethodName := ⟨RX6, "need", "(I)V"⟩
abbrev cX6_skip : ByteArray := prog_8_method_5_code
def yX6_skip : MethodName := ⟨RX6, "skip", "(I)Z"⟩
abbrev cX6_readProgram : ByteArray := prog_8_method_6_code
def yX6_readProgram : MethodName := ⟨RX6, "readProgram", "()V"⟩
abbrev cX6_isNewName : ByteArray := prog_8_method_7_code
def yX6_isNewName : MethodName := ⟨RX6, "isNewName", "(II)Z"⟩
abbrev cX6_readCell : ByteArray := prog_8_method_8_code
def yX6_readCell : MethodName := ⟨RX6, "readCell", "()V"⟩
abbrev cX6_readLock : ByteArray := prog_8_method_9_code
def yX6_readLock : MethodName := ⟨RX6, "readLock", "()V"⟩
abbrev cX6_readThread : ByteArray := prog_8_method_10_code
def yX6_readThread : MethodName := ⟨RX6, "readThread", "()V"⟩
abbrev cX6_readBlock : ByteArray := prog_8_method_11_code
def yX6_readBlock : MethodName := ⟨RX6, "readBlock", "(III)V"⟩
abbrev cX6_mayBegin : ByteArray := prog_8_method_12_code
def yX6_mayBegin : MethodName := ⟨RX6, "mayBegin", "()Z"⟩
abbrev cX6_readStatement : ByteArray := prog_8_method_13_code
def yX6_readStatement : MethodName := ⟨RX6, "readStatement", "(II)V"⟩
abbrev cX6_hasExp : ByteArray := prog_8_method_14_code
def yX6_hasExp : MethodName := ⟨RX6, "hasExp", "(I)Z"⟩
abbrev cX6_readTarget : ByteArray := prog_8_method_15_code
def yX6_readTarget : MethodName := ⟨RX6, "readTarget", "(I)I"⟩
abbrev cX6_readLocal : ByteArray := prog_8_method_16_code
def yX6_readLocal : MethodName := ⟨RX6, "readLocal", "(I)V"⟩
abbrev cX6_localHere : ByteArray := prog_8_method_17_code
def yX6_localHere : MethodName := ⟨RX6, "localHere", "()I"⟩
abbrev cX6_readObject : ByteArray := prog_8_method_18_code
def yX6_readObject : MethodName := ⟨RX6, "readObject", "(II)V"⟩
abbrev cX6_needName : ByteArray := prog_8_method_19_code
def yX6_needName : MethodName := ⟨RX6, "needName", "(IZI)V"⟩
abbrev cX6_readInto : ByteArray := prog_8_method_20_code
def yX6_readInto : MethodName := ⟨RX6, "readInto", "(I)V"⟩
abbrev cX6_aimThreads : ByteArray := prog_8_method_21_code
def yX6_aimThreads : MethodName := ⟨RX6, "aimThreads", "()V"⟩
abbrev cX6_levelOf : ByteArray := prog_8_method_22_code
def yX6_levelOf : MethodName := ⟨RX6, "levelOf", "(I)I"⟩
abbrev cX6_readLevel : ByteArray := prog_8_method_23_code
def yX6_readLevel : MethodName := ⟨RX6, "readLevel", "(II)V"⟩
abbrev cX6_readSide : ByteArray := prog_8_method_24_code
def yX6_readSide : MethodName := ⟨RX6, "readSide", "(II)V"⟩
abbrev cX6_countNode : ByteArray := prog_8_method_25_code
def yX6_countNode : MethodName := ⟨RX6, "countNode", "()Z"⟩
abbrev cX6_beginsOne : ByteArray := prog_8_method_26_code
def yX6_beginsOne : MethodName := ⟨RX6, "beginsOne", "(I)Z"⟩
abbrev cX6_isStray : ByteArray := prog_8_method_27_code
def yX6_isStray : MethodName := ⟨RX6, "isStray", "()Z"⟩
abbrev cX6_readOne : ByteArray := prog_8_method_28_code
def yX6_readOne : MethodName := ⟨RX6, "readOne", "(I)V"⟩
abbrev cX6_readNode : ByteArray := prog_8_method_29_code
def yX6_readNode : MethodName := ⟨RX6, "readNode", "(II)V"⟩
abbrev cX6_readAsked : ByteArray := prog_8_method_32_code
def yX6_readAsked : MethodName := ⟨RX6, "readAsked", "(I)V"⟩
abbrev cX6_readCellOrLocal : ByteArray := prog_8_method_33_code
def yX6_readCellOrLocal : MethodName := ⟨RX6, "readCellOrLocal", "()V"⟩
def RX7 : String := "TurnHouse$Rows"
def TX7 : u_T := fun k => match k with
  | 0 => ("TurnHouse$Rows", "data", "[J", true)
  | 1 => ("TurnHouse$Rows", "start", "[I", true)
  | 2 => ("TurnHouse$Rows", "table", "[I", true)
  | 3 => ("TurnHouse$Rows", "size", "I", false)
  | 4 => ("TurnHouse$Rows", "width", "I", false)
  | _ => ("TurnHouse$Rows", "limit", "I", false)
def tyX7 : Nat → FieldType := fun k => match k with
  | 0 => .array .long
  | 1 => .array .int
  | 2 => .array .int
  | 3 => .int
  | 4 => .int
  | _ => .int
abbrev wsX70 : List Cond := u_ws RX7 TX7 6
theorem nmX7 : ∀ a, a < 6 → ∀ b, b < 6 → a ≠ b → (TX7 a).2.1 ≠ (TX7 b).2.1 := by decide +kernel
theorem tyX7_ok : ∀ k, k < 6 → parseFieldDescriptor (TX7 k).2.2.1 = some (tyX7 k) := by decide +kernel
abbrev cX7_init : ByteArray := prog_9_method_1_code
def yX7_init : MethodName := ⟨RX7, "<init>", "([JII)V"⟩
abbrev cX7_clear : ByteArray := prog_9_method_2_code
def yX7_clear : MethodName := ⟨RX7, "clear", "(II)V"⟩
abbrev cX7_placeOf : ByteArray := prog_9_method_3_code
def yX7_placeOf : MethodName := ⟨RX7, "placeOf", "([JI)I"⟩
abbrev cX7_isSame : ByteArray := prog_9_method_4_code
def yX7_isSame : MethodName := ⟨RX7, "isSame", "([JII)Z"⟩
abbrev cX7_numberOf : ByteArray := prog_9_method_5_code
def yX7_numberOf : MethodName := ⟨RX7, "numberOf", "([JI)I"⟩
abbrev cX7_put : ByteArray := prog_9_method_6_code
def yX7_put : MethodName := ⟨RX7, "put", "([JI)I"⟩
abbrev cX7_refer : ByteArray := prog_9_method_7_code
def yX7_refer : MethodName := ⟨RX7, "refer", "(I)I"⟩
abbrev cX7_name : ByteArray := prog_9_method_8_code
def yX7_name : MethodName := ⟨RX7, "name", "(II)V"⟩
def RX8 : String := "TurnHouse$Run"
def TX8 : u_T := fun k => match k with
  | 0 => ("TurnHouse$Run", "machine", "LTurnHouse$Machine;", true)
  | 1 => ("TurnHouse$Run", "at", "[[I", true)
  | 2 => ("TurnHouse$Run", "ahead", "[J", true)
  | 3 => ("TurnHouse$Run", "length", "I", false)
  | _ => ("TurnHouse$Run", "live", "Z", false)
def tyX8 : Nat → FieldType := fun k => match k with
  | 0 => .object "TurnHouse$Machine"
  | 1 => .array (.array .int)
  | 2 => .array .long
  | 3 => .int
  | _ => .boolean
abbrev wsX80 : List Cond := u_ws RX8 TX8 5
theorem nmX8 : ∀ a, a < 5 → ∀ b, b < 5 → a ≠ b → (TX8 a).2.1 ≠ (TX8 b).2.1 := by decide +kernel
theorem tyX8_ok : ∀ k, k < 5 → parseFieldDescriptor (TX8 k).2.2.1 = some (tyX8 k) := by decide +kernel
abbrev cX8_init : ByteArray := prog_10_method_1_code
def yX8_init : MethodName := ⟨RX8, "<init>", "()V"⟩
abbrev cX8_start : ByteArray := prog_10_method_2_code
def yX8_start : MethodName := ⟨RX8, "start", "(LTurnHouse$Program;I)V"⟩
abbrev cX8_take : ByteArray := prog_10_method_3_code
def yX8_take : MethodName := ⟨RX8, "take", "(II)V"⟩
abbrev cX8_putAhead : ByteArray := prog_10_method_4_code
def yX8_putAhead : MethodName := ⟨RX8, "putAhead", "(II)V"⟩
abbrev cX8_leadsTo : ByteArray := prog_10_method_6_code
def yX8_leadsTo : MethodName := ⟨RX8, "leadsTo", "(II)Z"⟩
abbrev cX8_tells : ByteArray := prog_10_method_7_code
def yX8_tells : MethodName := ⟨RX8, "tells", "(I)Z"⟩
abbrev cX8_hears : ByteArray := prog_10_method_8_code
def yX8_hears : MethodName := ⟨RX8, "hears", "(I)Z"⟩
def RX9 : String := "TurnHouse$Tokens"
def TX9 : u_T := fun k => match k with
  | 0 => ("TurnHouse$Tokens", "text", "[B", true)
  | 1 => ("TurnHouse$Tokens", "keys", "[J", true)
  | 2 => ("TurnHouse$Tokens", "kinds", "[I", true)
  | 3 => ("TurnHouse$Tokens", "starts", "[I", true)
  | 4 => ("TurnHouse$Tokens", "meanings", "[J", true)
  | 5 => ("TurnHouse$Tokens", "length", "I", false)
  | 6 => ("TurnHouse$Tokens", "tokenCount", "I", false)
  | 7 => ("TurnHouse$Tokens", "behind", "I", false)
  | 8 => ("TurnHouse$Tokens", "at", "I", false)
  | 9 => ("TurnHouse$Tokens", "kind", "I", false)
  | 10 => ("TurnHouse$Tokens", "start", "I", false)
  | _ => ("TurnHouse$Tokens", "meaning", "J", false)
def tyX9 : Nat → FieldType := fun k => match k with
  | 0 => .array .byte
  | 1 => .array .long
  | 2 => .array .int
  | 3 => .array .int
  | 4 => .array .long
  | 5 => .int
  | 6 => .int
  | 7 => .int
  | 8 => .int
  | 9 => .int
  | 10 => .int
  | _ => .long
abbrev wsX90 : List Cond := u_ws RX9 TX9 12
theorem nmX9 : ∀ a, a < 12 → ∀ b, b < 12 → a ≠ b → (TX9 a).2.1 ≠ (TX9 b).2.1 := by decide +kernel
theorem tyX9_ok : ∀ k, k < 12 → parseFieldDescriptor (TX9 k).2.2.1 = some (tyX9 k) := by decide +kernel
abbrev cX9_init : ByteArray := prog_11_method_1_code
def yX9_init : MethodName := ⟨RX9, "<init>", "()V"⟩
abbrev cX9_codes : ByteArray := prog_11_method_2_code
def yX9_codes : MethodName := ⟨RX9, "codes", "(Ljava/lang/String;I)[J"⟩
abbrev cX9_append : ByteArray := prog_11_method_3_code
def yX9_append : MethodName := ⟨RX9, "append", "(I)V"⟩
abbrev cX9_cut : ByteArray := prog_11_method_4_code
def yX9_cut : MethodName := ⟨RX9, "cut", "()V"⟩
abbrev cX9_advance : ByteArray := prog_11_method_5_code
def yX9_advance : MethodName := ⟨RX9, "advance", "()V"⟩
abbrev cX9_byteAt : ByteArray := prog_11_method_6_code
def yX9_byteAt : MethodName := ⟨RX9, "byteAt", "(I)I"⟩
abbrev cX9_isLetter : ByteArray := prog_11_method_7_code
def yX9_isLetter : MethodName := ⟨RX9, "isLetter", "(I)Z"⟩
abbrev cX9_isDigit : ByteArray := prog_11_method_8_code
def yX9_isDigit : MethodName := ⟨RX9, "isDigit", "(I)Z"⟩
abbrev cX9_skipBlanks : ByteArray := prog_11_method_9_code
def yX9_skipBlanks : MethodName := ⟨RX9, "skipBlanks", "()V"⟩
abbrev cX9_cutOne : ByteArray := prog_11_method_10_code
def yX9_cutOne : MethodName := ⟨RX9, "cutOne", "()V"⟩
abbrev cX9_cutWord : ByteArray := prog_11_method_11_code
def yX9_cutWord : MethodName := ⟨RX9, "cutWord", "()V"⟩
abbrev cX9_cutNumber : ByteArray := prog_11_method_12_code
def yX9_cutNumber : MethodName := ⟨RX9, "cutNumber", "()V"⟩
abbrev cX9_cutSign : ByteArray := prog_11_method_13_code
def yX9_cutSign : MethodName := ⟨RX9, "cutSign", "(I)V"⟩
def RX10 : String := "TurnHouse$Turns"
def TX10 : u_T := fun k => match k with
  | 0 => ("TurnHouse$Turns", "machine", "LTurnHouse$Machine;", true)
  | 1 => ("TurnHouse$Turns", "findings", "LTurnHouse$Findings;", true)
  | 2 => ("TurnHouse$Turns", "states", "LTurnHouse$Rows;", true)
  | 3 => ("TurnHouse$Turns", "outcomes", "LTurnHouse$Rows;", true)
  | 4 => ("TurnHouse$Turns", "edges", "[I", true)
  | 5 => ("TurnHouse$Turns", "found", "[I", true)
  | 6 => ("TurnHouse$Turns", "edgeStart", "[I", true)
  | 7 => ("TurnHouse$Turns", "mark", "[I", true)
  | 8 => ("TurnHouse$Turns", "row", "[J", true)
  | 9 => ("TurnHouse$Turns", "priority", "[I", true)
  | 10 => ("TurnHouse$Turns", "switches", "[I", true)
  | 11 => ("TurnHouse$Turns", "layer", "[I", true)
  | 12 => ("TurnHouse$Turns", "nextLayer", "[I", true)
  | 13 => ("TurnHouse$Turns", "edgeCount", "I", false)
  | 14 => ("TurnHouse$Turns", "endCount", "I", false)
  | 15 => ("TurnHouse$Turns", "layerSize", "I", false)
  | 16 => ("TurnHouse$Turns", "nextSize", "I", false)
  | 17 => ("TurnHouse$Turns", "done", "Z", false)
  | 18 => ("TurnHouse$Turns", "fewer", "Z", false)
  | _ => ("TurnHouse$Turns", "switchesCounted", "Z", false)
def tyX10 : Nat → FieldType := fun k => match k with
  | 0 => .object "TurnHouse$Machine"
  | 1 => .object "TurnHouse$Findings"
  | 2 => .object "TurnHouse$Rows"
  | 3 => .object "TurnHouse$Rows"
  | 4 => .array .int
  | 5 => .array .int
  | 6 => .array .int
  | 7 => .array .int
  | 8 => .array .long
  | 9 => .array .int
  | 10 => .array .int
  | 11 => .array .int
  | 12 => .array .int
  | 13 => .int
  | 14 => .int
  | 15 => .int
  | 16 => .int
  | 17 => .boolean
  | 18 => .boolean
  | _ => .boolean
abbrev wsX100 : List Cond := u_ws RX10 TX10 20
theorem nmX10 : ∀ a, a < 20 → ∀ b, b < 20 → a ≠ b → (TX10 a).2.1 ≠ (TX10 b).2.1 := by decide +kernel
theorem tyX10_ok : ∀ k, k < 20 → parseFieldDescriptor (TX10 k).2.2.1 = some (tyX10 k) := by decide +kernel
abbrev cX10_init : ByteArray := prog_12_method_1_code
def yX10_init : MethodName := ⟨RX10, "<init>", "()V"⟩
abbrev cX10_tryAll : ByteArray := prog_12_method_2_code
def yX10_tryAll : MethodName := ⟨RX10, "tryAll", "(LTurnHouse$Program;IZ)I"⟩
abbrev cX10_lookAround : ByteArray := prog_12_method_3_code
def yX10_lookAround : MethodName := ⟨RX10, "lookAround", "(I)I"⟩
abbrev cX10_quietStep : ByteArray := prog_12_method_4_code
def yX10_quietStep : MethodName := ⟨RX10, "quietStep", "()I"⟩
abbrev cX10_tryStep : ByteArray := prog_12_method_5_code
def yX10_tryStep : MethodName := ⟨RX10, "tryStep", "(II)Z"⟩
abbrev cX10_isWhile : ByteArray := prog_12_method_6_code
def yX10_isWhile : MethodName := ⟨RX10, "isWhile", "(I)Z"⟩
abbrev cX10_noteEnd : ByteArray := prog_12_method_7_code
def yX10_noteEnd : MethodName := ⟨RX10, "noteEnd", "(I)V"⟩
abbrev cX10_hasOutcome : ByteArray := prog_12_method_9_code
def yX10_hasOutcome : MethodName := ⟨RX10, "hasOutcome", "(I)Z"⟩
abbrev cX10_stateOfOutcome : ByteArray := prog_12_method_10_code
def yX10_stateOfOutcome : MethodName := ⟨RX10, "stateOfOutcome", "(I)I"⟩
abbrev cX10_slotOfOutcome : ByteArray := prog_12_method_11_code
def yX10_slotOfOutcome : MethodName := ⟨RX10, "slotOfOutcome", "(II)I"⟩
abbrev cX10_stateOf : ByteArray := prog_12_method_12_code
def yX10_stateOf : MethodName := ⟨RX10, "stateOf", "(I)I"⟩
abbrev cX10_threadOf : ByteArray := prog_12_method_13_code
def yX10_threadOf : MethodName := ⟨RX10, "threadOf", "(I)I"⟩
abbrev cX10_fewestSwitches : ByteArray := prog_12_method_17_code
def yX10_fewestSwitches : MethodName := ⟨RX10, "fewestSwitches", "(I)I"⟩
abbrev cX10_countSwitches : ByteArray := prog_12_method_18_code
def yX10_countSwitches : MethodName := ⟨RX10, "countSwitches", "()V"⟩
abbrev cX10_leaveFrom : ByteArray := prog_12_method_19_code
def yX10_leaveFrom : MethodName := ⟨RX10, "leaveFrom", "(II)V"⟩
abbrev cX10_reach : ByteArray := prog_12_method_20_code
def yX10_reach : MethodName := ⟨RX10, "reach", "(III)V"⟩
abbrev cX10_countChances : ByteArray := prog_12_method_21_code
def yX10_countChances : MethodName := ⟨RX10, "countChances", "(III)I"⟩
abbrev cX10_drawnOutcome : ByteArray := prog_12_method_22_code
def yX10_drawnOutcome : MethodName := ⟨RX10, "drawnOutcome", "(III)I"⟩
abbrev cX10_arrange : ByteArray := prog_12_method_23_code
def yX10_arrange : MethodName := ⟨RX10, "arrange", "(I)V"⟩
abbrev cX10_firstReady : ByteArray := prog_12_method_24_code
def yX10_firstReady : MethodName := ⟨RX10, "firstReady", "()I"⟩
abbrev cX10_lower : ByteArray := prog_12_method_25_code
def yX10_lower : MethodName := ⟨RX10, "lower", "(I)V"⟩
def RX11 : String := "TurnHouse"
def TX11 : u_T := fun k => match k with
  | 0 => ("TurnHouse", "tokens", "LTurnHouse$Tokens;", true)
  | 1 => ("TurnHouse", "first", "LTurnHouse$Program;", true)
  | 2 => ("TurnHouse", "rewritten", "LTurnHouse$Program;", true)
  | 3 => ("TurnHouse", "reader", "LTurnHouse$Reader;", true)
  | 4 => ("TurnHouse", "turns", "LTurnHouse$Turns;", true)
  | 5 => ("TurnHouse", "kept", "LTurnHouse$Rows;", true)
  | 6 => ("TurnHouse", "judge", "LTurnHouse$Judge;", true)
  | 7 => ("TurnHouse", "run", "LTurnHouse$Run;", true)
  | 8 => ("TurnHouse", "history", "LTurnHouse$History;", true)
  | 9 => ("TurnHouse", "hasProgram", "Z", false)
  | 10 => ("TurnHouse", "hasRewritten", "Z", false)
  | 11 => ("TurnHouse", "triedRewritten", "Z", false)
  | 12 => ("TurnHouse", "runsRewritten", "Z", false)
  | 13 => ("TurnHouse", "where", "I", false)
  | _ => ("TurnHouse", "gained", "I", false)
def tyX11 : Nat → FieldType := fun k => match k with
  | 0 => .object "TurnHouse$Tokens"
  | 1 => .object "TurnHouse$Program"
  | 2 => .object "TurnHouse$Program"
  | 3 => .object "TurnHouse$Reader"
  | 4 => .object "TurnHouse$Turns"
  | 5 => .object "TurnHouse$Rows"
  | 6 => .object "TurnHouse$Judge"
  | 7 => .object "TurnHouse$Run"
  | 8 => .object "TurnHouse$History"
  | 9 => .boolean
  | 10 => .boolean
  | 11 => .boolean
  | 12 => .boolean
  | 13 => .int
  | _ => .int
abbrev wsX110 : List Cond := u_ws RX11 TX11 15
theorem nmX11 : ∀ a, a < 15 → ∀ b, b < 15 → a ≠ b → (TX11 a).2.1 ≠ (TX11 b).2.1 := by decide +kernel
theorem tyX11_ok : ∀ k, k < 15 → parseFieldDescriptor (TX11 k).2.2.1 = some (tyX11 k) := by decide +kernel
abbrev cX11_init : ByteArray := prog_1_method_1_code
def yX11_init : MethodName := ⟨RX11, "<init>", "()V"⟩
abbrev cX11_feed : ByteArray := prog_1_method_2_code
def yX11_feed : MethodName := ⟨RX11, "feed", "(IIIII)I"⟩
abbrev cX11_end : ByteArray := prog_1_method_3_code
def yX11_end : MethodName := ⟨RX11, "end", "(I)I"⟩
abbrev cX11_program : ByteArray := prog_1_method_4_code
def yX11_program : MethodName := ⟨RX11, "program", "()I"⟩
abbrev cX11_count : ByteArray := prog_1_method_5_code
def yX11_count : MethodName := ⟨RX11, "count", "(I)I"⟩
abbrev cX11_begin : ByteArray := prog_1_method_7_code
def yX11_begin : MethodName := ⟨RX11, "begin", "(I)I"⟩
abbrev cX11_ready : ByteArray := prog_1_method_8_code
def yX11_ready : MethodName := ⟨RX11, "ready", "(I)I"⟩
abbrev cX11_turn : ByteArray := prog_1_method_9_code
def yX11_turn : MethodName := ⟨RX11, "turn", "(II)I"⟩
abbrev cX11_thread : ByteArray := prog_1_method_10_code
def yX11_thread : MethodName := ⟨RX11, "thread", "(II)I"⟩
abbrev cX11_local : ByteArray := prog_1_method_11_code
def yX11_local : MethodName := ⟨RX11, "local", "(II)I"⟩
abbrev cX11_cell : ByteArray := prog_1_method_12_code
def yX11_cell : MethodName := ⟨RX11, "cell", "(I)I"⟩
abbrev cX11_explore : ByteArray := prog_1_method_20_code
def yX11_explore : MethodName := ⟨RX11, "explore", "(IZ)I"⟩
abbrev cX11_explored : ByteArray := prog_1_method_21_code
def yX11_explored : MethodName := ⟨RX11, "explored", "(I)I"⟩
abbrev cX11_outcome : ByteArray := prog_1_method_22_code
def yX11_outcome : MethodName := ⟨RX11, "outcome", "(II)I"⟩
abbrev cX11_outcomeCell : ByteArray := prog_1_method_23_code
def yX11_outcomeCell : MethodName := ⟨RX11, "outcomeCell", "(II)I"⟩
abbrev cX11_outcomeLocal : ByteArray := prog_1_method_24_code
def yX11_outcomeLocal : MethodName := ⟨RX11, "outcomeLocal", "(III)I"⟩
abbrev cX11_chances : ByteArray := prog_1_method_27_code
def yX11_chances : MethodName := ⟨RX11, "chances", "(III)I"⟩
abbrev cX11_rewrite : ByteArray := prog_1_method_34_code
def yX11_rewrite : MethodName := ⟨RX11, "rewrite", "(II)I"⟩
abbrev cX11_drop : ByteArray := prog_1_method_35_code
def yX11_drop : MethodName := ⟨RX11, "drop", "()I"⟩
abbrev cX11_sound : ByteArray := prog_1_method_36_code
def yX11_sound : MethodName := ⟨RX11, "sound", "(I)I"⟩
abbrev cX11_gained : ByteArray := prog_1_method_37_code
def yX11_gained : MethodName := ⟨RX11, "gained", "()I"⟩
abbrev cX11_isWay : ByteArray := prog_1_method_38_code
def yX11_isWay : MethodName := ⟨RX11, "isWay", "(I)Z"⟩
abbrev cX11_forgetRewritten : ByteArray := prog_1_method_39_code
def yX11_forgetRewritten : MethodName := ⟨RX11, "forgetRewritten", "()V"⟩
def RJx145de : String := "java/io/Serializable"
def RJx9f9b0 : String := "java/lang/CharSequence"
def RJ11 : String := "java/lang/Character"
abbrev cJ11_isValidCodePoint_9a6ad : ByteArray := prog_15_method_11_code
def yJ11_isValidCodePoint_9a6ad : MethodName := ⟨RJ11, "isValidCodePoint", "(I)Z"⟩
abbrev cJ11_highSurrogate_5068e : ByteArray := prog_15_method_28_code
def yJ11_highSurrogate_5068e : MethodName := ⟨RJ11, "highSurrogate", "(I)C"⟩
abbrev cJ11_lowSurrogate_5068e : ByteArray := prog_15_method_29_code
def yJ11_lowSurrogate_5068e : MethodName := ⟨RJ11, "lowSurrogate", "(I)C"⟩
def RJxb160c : String := "java/lang/Comparable"
def RJ9 : String := "java/lang/Math"
abbrev cJ9_max_7cf53 : ByteArray := prog_16_method_65_code
def yJ9_max_7cf53 : MethodName := ⟨RJ9, "max", "(II)I"⟩
abbrev cJ9_min_7cf53 : ByteArray := prog_16_method_69_code
def yJ9_min_7cf53 : MethodName := ⟨RJ9, "min", "(II)I"⟩
def RJ0 : String := "java/lang/String"
abbrev cJ0_length_8abf5 : ByteArray := prog_17_method_54_code
def yJ0_length_8abf5 : MethodName := ⟨RJ0, "length", "()I"⟩
abbrev cJ0_charAt_5068e : ByteArray := prog_17_method_56_code
def yJ0_charAt_5068e : MethodName := ⟨RJ0, "charAt", "(I)C"⟩
abbrev cJ0_indexOf_0f7a4 : ByteArray := prog_17_method_79_code
def yJ0_indexOf_0f7a4 : MethodName := ⟨RJ0, "indexOf", "(I)I"⟩
abbrev cJ0_indexOf_7cf53 : ByteArray := prog_17_method_80_code
def yJ0_indexOf_7cf53 : MethodName := ⟨RJ0, "indexOf", "(II)I"⟩
abbrev cJ0_coder_7d493 : ByteArray := prog_17_method_152_code
def yJ0_coder_7d493 : MethodName := ⟨RJ0, "coder", "()B"⟩
abbrev cJ0_isLatin1_aae02 : ByteArray := prog_17_method_154_code
def yJ0_isLatin1_aae02 : MethodName := ⟨RJ0, "isLatin1", "()Z"⟩
abbrev cJ0_checkIndex_df160 : ByteArray := prog_17_method_155_code
def yJ0_checkIndex_df160 : MethodName := ⟨RJ0, "checkIndex", "(II)V"⟩
abbrev cJ0_checkBoundsBeginEnd_23922 : ByteArray := prog_17_method_158_code
def yJ0_checkBoundsBeginEnd_23922 : MethodName := ⟨RJ0, "checkBoundsBeginEnd", "(III)V"⟩
def RJ1 : String := "java/lang/StringLatin1"
abbrev cJ1_charAt_3b067 : ByteArray := prog_18_method_2_code
def yJ1_charAt_3b067 : MethodName := ⟨RJ1, "charAt", "([BI)C"⟩
abbrev cJ1_canEncode_9a6ad : ByteArray := prog_18_method_4_code
def yJ1_canEncode_9a6ad : MethodName := ⟨RJ1, "canEncode", "(I)Z"⟩
abbrev cJ1_indexOf_4cfef : ByteArray := prog_18_method_22_code
def yJ1_indexOf_4cfef : MethodName := ⟨RJ1, "indexOf", "([BIII)I"⟩
abbrev cJ1_indexOfChar_4cfef : ByteArray := prog_18_method_23_code
def yJ1_indexOfChar_4cfef : MethodName := ⟨RJ1, "indexOfChar", "([BIII)I"⟩
def RJ2 : String := "java/lang/StringUTF16"
abbrev cJ2_getChar_3b067 : ByteArray := prog_19_method_5_code
def yJ2_getChar_3b067 : MethodName := ⟨RJ2, "getChar", "([BI)C"⟩
abbrev cJ2_length_9d52b : ByteArray := prog_19_method_6_code
def yJ2_length_9d52b : MethodName := ⟨RJ2, "length", "([B)I"⟩
abbrev cJ2_indexOf_4cfef : ByteArray := prog_19_method_40_code
def yJ2_indexOf_4cfef : MethodName := ⟨RJ2, "indexOf", "([BIII)I"⟩
abbrev cJ2_indexOfChar_4cfef : ByteArray := prog_19_method_47_code
def yJ2_indexOfChar_4cfef : MethodName := ⟨RJ2, "indexOfChar", "([BIII)I"⟩
abbrev cJ2_indexOfCharUnsafe_4cfef : ByteArray := prog_19_method_48_code
def yJ2_indexOfCharUnsafe_4cfef : MethodName := ⟨RJ2, "indexOfCharUnsafe", "([BIII)I"⟩
abbrev cJ2_indexOfSupplementary_4cfef : ByteArray := prog_19_method_49_code
def yJ2_indexOfSupplementary_4cfef : MethodName := ⟨RJ2, "indexOfSupplementary", "([BIII)I"⟩
abbrev cJ2_charAt_3b067 : ByteArray := prog_19_method_83_code
def yJ2_charAt_3b067 : MethodName := ⟨RJ2, "charAt", "([BI)C"⟩
abbrev cJ2_checkIndex_2214a : ByteArray := prog_19_method_91_code
def yJ2_checkIndex_2214a : MethodName := ⟨RJ2, "checkIndex", "(I[B)V"⟩
abbrev cJ2_checkBoundsBeginEnd_d044e : ByteArray := prog_19_method_93_code
def yJ2_checkBoundsBeginEnd_d044e : MethodName := ⟨RJ2, "checkBoundsBeginEnd", "(II[B)V"⟩
def RJ10 : String := "java/lang/System"
def RJxfd54e : String := "java/lang/constant/Constable"
def RJx3cf43 : String := "java/lang/constant/ConstantDesc"
def RJ7 : String := "java/util/Arrays"
abbrev cJ7_fill_d0a16 : ByteArray := prog_21_method_101_code
def yJ7_fill_d0a16 : MethodName := ⟨RJ7, "fill", "([JJ)V"⟩
abbrev cJ7_fill_53178 : ByteArray := prog_21_method_103_code
def yJ7_fill_53178 : MethodName := ⟨RJ7, "fill", "([II)V"⟩
def RJ3 : String := "jdk/internal/util/Preconditions"
abbrev cJ3_checkIndex_8e157 : ByteArray := prog_22_method_11_code
def yJ3_checkIndex_8e157 : MethodName := ⟨RJ3, "checkIndex", "(IILjava/util/function/BiFunction;)I"⟩
abbrev cJ3_checkFromToIndex_8c36e : ByteArray := prog_22_method_12_code
def yJ3_checkFromToIndex_8c36e : MethodName := ⟨RJ3, "checkFromToIndex", "(IIILjava/util/function/BiFunction;)I"⟩
def RL : String := "TurnHouseLaw"
abbrev cL_cell : ByteArray := method_2_code
def yL_cell : MethodName := ⟨RL, "cell", "([II)I"⟩
abbrev cL_say : ByteArray := method_3_code
def yL_say : MethodName := ⟨RL, "say", "(LTurnHouse;JJI)I"⟩
abbrev cL_statement : ByteArray := method_5_code
def yL_statement : MethodName := ⟨RL, "statement", "(LTurnHouse;I)I"⟩
abbrev cL_tell : ByteArray := method_6_code
def yL_tell : MethodName := ⟨RL, "tell", "(LTurnHouse;[III)I"⟩
abbrev cL_law : ByteArray := code
def yL_law : MethodName := ⟨RL, "law", "([I)Z"⟩
abbrev cL_isIn : ByteArray := method_8_code
def yL_isIn : MethodName := ⟨RL, "isIn", "([III)Z"⟩
abbrev cL_sum : ByteArray := method_9_code
def yL_sum : MethodName := ⟨RL, "sum", "(LTurnHouse;I)I"⟩
abbrev vwCl : List vw_C := [(RX0, TX0, 7), (RX1, TX1, 11), (RX2, TX2, 14), (RX3, TX3, 13), (RX4, TX4, 5), (RX5, TX5, 14), (RX6, TX6, 15), (RX7, TX7, 6), (RX8, TX8, 5), (RX9, TX9, 12), (RX10, TX10, 20), (RX11, TX11, 15)]
theorem mem_places {big ws : List Cond} (ps : List Nat) (hp : ws.map some = ps.map (fun i => big[i]?)) : ∀ w ∈ ws, w ∈ big := by
  intro w hw
  have h1 : some w ∈ ws.map some := List.mem_map.mpr ⟨w, hw, rfl⟩
  rw [hp] at h1
  obtain ⟨i, -, hi⟩ := List.mem_map.mp h1
  exact List.mem_of_getElem? hi
set_option maxRecDepth 100000 in
theorem inX0 : ∀ w ∈ wsX00, w ∈ lw_tbl := mem_places [467, 469, 471, 473, 475, 477, 479] (by decide +kernel)
set_option maxRecDepth 100000 in
theorem inX1 : ∀ w ∈ wsX10, w ∈ lw_tbl := mem_places [675, 677, 679, 681, 683, 685, 687, 689, 691, 693, 695] (by decide +kernel)
set_option maxRecDepth 100000 in
theorem inX2 : ∀ w ∈ wsX20, w ∈ lw_tbl := mem_places [605, 607, 609, 611, 613, 615, 617, 619, 621, 623, 625, 627, 629, 631] (by decide +kernel)
set_option maxRecDepth 100000 in
theorem inX3 : ∀ w ∈ wsX30, w ∈ lw_tbl := mem_places [427, 429, 431, 433, 435, 437, 439, 441, 443, 445, 447, 449, 451] (by decide +kernel)
set_option maxRecDepth 100000 in
theorem inX4 : ∀ w ∈ wsX40, w ∈ lw_tbl := mem_places [237, 239, 241, 243, 245] (by decide +kernel)
set_option maxRecDepth 100000 in
theorem inX5 : ∀ w ∈ wsX50, w ∈ lw_tbl := mem_places [303, 305, 307, 309, 311, 313, 315, 317, 319, 321, 323, 325, 327, 329] (by decide +kernel)
set_option maxRecDepth 100000 in
theorem inX6 : ∀ w ∈ wsX60, w ∈ lw_tbl := mem_places [355, 357, 359, 361, 363, 365, 367, 369, 371, 373, 375, 377, 379, 381, 383] (by decide +kernel)
set_option maxRecDepth 100000 in
theorem inX7 : ∀ w ∈ wsX70, w ∈ lw_tbl := mem_places [504, 506, 508, 510, 512, 514] (by decide +kernel)
set_option maxRecDepth 100000 in
theorem inX8 : ∀ w ∈ wsX80, w ∈ lw_tbl := mem_places [651, 653, 655, 657, 659] (by decide +kernel)
set_option maxRecDepth 100000 in
theorem inX9 : ∀ w ∈ wsX90, w ∈ lw_tbl := mem_places [195, 197, 199, 201, 203, 205, 207, 209, 211, 213, 215, 217] (by decide +kernel)
set_option maxRecDepth 100000 in
theorem inX10 : ∀ w ∈ wsX100, w ∈ lw_tbl := mem_places [546, 548, 550, 552, 554, 556, 558, 560, 562, 564, 566, 568, 570, 572, 574, 576, 578, 580, 582, 584] (by decide +kernel)
set_option maxRecDepth 100000 in
theorem inX11 : ∀ w ∈ wsX110, w ∈ lw_tbl := mem_places [713, 715, 717, 719, 721, 723, 725, 727, 729, 731, 733, 735, 737, 739, 741] (by decide +kernel)
