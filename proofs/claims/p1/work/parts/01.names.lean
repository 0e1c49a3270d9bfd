-- ===== PART A: goes FIRST, ahead of the names: the tables' words, and 'selects' of the private methods out of them =====
/-- a private method of a class that the tables say can be made, by its rows of tables_1 -/
def lw_okq (q : MethodName × Nat) : Prop := (q.1.cls ≠ "java/lang/invoke/MethodHandle" ∧ q.1.cls ≠ "java/lang/invoke/VarHandle") ∧ Cond.instantiable q.1.cls q.2 ∈ tables_1 ∧ Cond.privateMethod q.1 ∈ tables_1 ∧ Cond.instanceMethod q.1 ∈ tables_1
theorem lw_p0 : lw_okq (⟨"TurnHouse$Reader", "open", "(LTurnHouse$Nodes;Z)V"⟩, 15) := ⟨⟨by decide +kernel, by decide +kernel⟩, List.mem_of_getElem? (i := 244) (by decide +kernel), List.mem_of_getElem? (i := 723) (by decide +kernel), List.mem_of_getElem? (i := 724) (by decide +kernel)⟩
theorem lw_p1 : lw_okq (⟨"TurnHouse$Tokens", "skipBlanks", "()V"⟩, 12) := ⟨⟨by decide +kernel, by decide +kernel⟩, List.mem_of_getElem? (i := 31) (by decide +kernel), List.mem_of_getElem? (i := 731) (by decide +kernel), List.mem_of_getElem? (i := 732) (by decide +kernel)⟩
theorem lw_p2 : lw_okq (⟨"TurnHouse$Tokens", "cutOne", "()V"⟩, 12) := ⟨⟨by decide +kernel, by decide +kernel⟩, List.mem_of_getElem? (i := 31) (by decide +kernel), List.mem_of_getElem? (i := 735) (by decide +kernel), List.mem_of_getElem? (i := 736) (by decide +kernel)⟩
theorem lw_p3 : lw_okq (⟨"TurnHouse$Tokens", "byteAt", "(I)I"⟩, 12) := ⟨⟨by decide +kernel, by decide +kernel⟩, List.mem_of_getElem? (i := 31) (by decide +kernel), List.mem_of_getElem? (i := 739) (by decide +kernel), List.mem_of_getElem? (i := 740) (by decide +kernel)⟩
theorem lw_p4 : lw_okq (⟨"TurnHouse$Tokens", "cutWord", "()V"⟩, 12) := ⟨⟨by decide +kernel, by decide +kernel⟩, List.mem_of_getElem? (i := 31) (by decide +kernel), List.mem_of_getElem? (i := 746) (by decide +kernel), List.mem_of_getElem? (i := 747) (by decide +kernel)⟩
theorem lw_p5 : lw_okq (⟨"TurnHouse$Tokens", "cutNumber", "()V"⟩, 12) := ⟨⟨by decide +kernel, by decide +kernel⟩, List.mem_of_getElem? (i := 31) (by decide +kernel), List.mem_of_getElem? (i := 753) (by decide +kernel), List.mem_of_getElem? (i := 754) (by decide +kernel)⟩
theorem lw_p6 : lw_okq (⟨"TurnHouse$Tokens", "cutSign", "(I)V"⟩, 12) := ⟨⟨by decide +kernel, by decide +kernel⟩, List.mem_of_getElem? (i := 31) (by decide +kernel), List.mem_of_getElem? (i := 759) (by decide +kernel), List.mem_of_getElem? (i := 760) (by decide +kernel)⟩
theorem lw_p7 : lw_okq (⟨"TurnHouse$Reader", "skip", "(I)Z"⟩, 15) := ⟨⟨by decide +kernel, by decide +kernel⟩, List.mem_of_getElem? (i := 244) (by decide +kernel), List.mem_of_getElem? (i := 827) (by decide +kernel), List.mem_of_getElem? (i := 828) (by decide +kernel)⟩
theorem lw_p8 : lw_okq (⟨"TurnHouse$Reader", "readCell", "()V"⟩, 15) := ⟨⟨by decide +kernel, by decide +kernel⟩, List.mem_of_getElem? (i := 244) (by decide +kernel), List.mem_of_getElem? (i := 832) (by decide +kernel), List.mem_of_getElem? (i := 833) (by decide +kernel)⟩
theorem lw_p9 : lw_okq (⟨"TurnHouse$Reader", "isNewName", "(II)Z"⟩, 15) := ⟨⟨by decide +kernel, by decide +kernel⟩, List.mem_of_getElem? (i := 244) (by decide +kernel), List.mem_of_getElem? (i := 836) (by decide +kernel), List.mem_of_getElem? (i := 837) (by decide +kernel)⟩
theorem lw_p10 : lw_okq (⟨"TurnHouse$Reader", "blame", "(I)V"⟩, 15) := ⟨⟨by decide +kernel, by decide +kernel⟩, List.mem_of_getElem? (i := 244) (by decide +kernel), List.mem_of_getElem? (i := 840) (by decide +kernel), List.mem_of_getElem? (i := 841) (by decide +kernel)⟩
theorem lw_p11 : lw_okq (⟨"TurnHouse$Reader", "need", "(I)V"⟩, 15) := ⟨⟨by decide +kernel, by decide +kernel⟩, List.mem_of_getElem? (i := 244) (by decide +kernel), List.mem_of_getElem? (i := 863) (by decide +kernel), List.mem_of_getElem? (i := 864) (by decide +kernel)⟩
theorem lw_p12 : lw_okq (⟨"TurnHouse$Reader", "readLock", "()V"⟩, 15) := ⟨⟨by decide +kernel, by decide +kernel⟩, List.mem_of_getElem? (i := 244) (by decide +kernel), List.mem_of_getElem? (i := 867) (by decide +kernel), List.mem_of_getElem? (i := 868) (by decide +kernel)⟩
theorem lw_p13 : lw_okq (⟨"TurnHouse$Reader", "readThread", "()V"⟩, 15) := ⟨⟨by decide +kernel, by decide +kernel⟩, List.mem_of_getElem? (i := 244) (by decide +kernel), List.mem_of_getElem? (i := 875) (by decide +kernel), List.mem_of_getElem? (i := 876) (by decide +kernel)⟩
theorem lw_p14 : lw_okq (⟨"TurnHouse$Reader", "readBlock", "(III)V"⟩, 15) := ⟨⟨by decide +kernel, by decide +kernel⟩, List.mem_of_getElem? (i := 244) (by decide +kernel), List.mem_of_getElem? (i := 883) (by decide +kernel), List.mem_of_getElem? (i := 884) (by decide +kernel)⟩
theorem lw_p15 : lw_okq (⟨"TurnHouse$Reader", "mayBegin", "()Z"⟩, 15) := ⟨⟨by decide +kernel, by decide +kernel⟩, List.mem_of_getElem? (i := 244) (by decide +kernel), List.mem_of_getElem? (i := 887) (by decide +kernel), List.mem_of_getElem? (i := 888) (by decide +kernel)⟩
def lw_privs_1 : List (MethodName × Nat) := [(⟨"TurnHouse$Reader", "open", "(LTurnHouse$Nodes;Z)V"⟩, 15), (⟨"TurnHouse$Tokens", "skipBlanks", "()V"⟩, 12), (⟨"TurnHouse$Tokens", "cutOne", "()V"⟩, 12), (⟨"TurnHouse$Tokens", "byteAt", "(I)I"⟩, 12), (⟨"TurnHouse$Tokens", "cutWord", "()V"⟩, 12), (⟨"TurnHouse$Tokens", "cutNumber", "()V"⟩, 12), (⟨"TurnHouse$Tokens", "cutSign", "(I)V"⟩, 12), (⟨"TurnHouse$Reader", "skip", "(I)Z"⟩, 15), (⟨"TurnHouse$Reader", "readCell", "()V"⟩, 15), (⟨"TurnHouse$Reader", "isNewName", "(II)Z"⟩, 15), (⟨"TurnHouse$Reader", "blame", "(I)V"⟩, 15), (⟨"TurnHouse$Reader", "need", "(I)V"⟩, 15), (⟨"TurnHouse$Reader", "readLock", "()V"⟩, 15), (⟨"TurnHouse$Reader", "readThread", "()V"⟩, 15), (⟨"TurnHouse$Reader", "readBlock", "(III)V"⟩, 15), (⟨"TurnHouse$Reader", "mayBegin", "()Z"⟩, 15)]
theorem lw_r1 : ∀ q ∈ lw_privs_1, lw_okq q := List.forall_mem_cons.mpr ⟨lw_p0, List.forall_mem_cons.mpr ⟨lw_p1, List.forall_mem_cons.mpr ⟨lw_p2, List.forall_mem_cons.mpr ⟨lw_p3, List.forall_mem_cons.mpr ⟨lw_p4, List.forall_mem_cons.mpr ⟨lw_p5, List.forall_mem_cons.mpr ⟨lw_p6, List.forall_mem_cons.mpr ⟨lw_p7, List.forall_mem_cons.mpr ⟨lw_p8, List.forall_mem_cons.mpr ⟨lw_p9, List.forall_mem_cons.mpr ⟨lw_p10, List.forall_mem_cons.mpr ⟨lw_p11, List.forall_mem_cons.mpr ⟨lw_p12, List.forall_mem_cons.mpr ⟨lw_p13, List.forall_mem_cons.mpr ⟨lw_p14, List.forall_mem_cons.mpr ⟨lw_p15, fun _ h => absurd h List.not_mem_nil⟩⟩⟩⟩⟩⟩⟩⟩⟩⟩⟩⟩⟩⟩⟩⟩
theorem lw_p16 : lw_okq (⟨"TurnHouse$Reader", "readStatement", "(II)V"⟩, 15) := ⟨⟨by decide +kernel, by decide +kernel⟩, List.mem_of_getElem? (i := 244) (by decide +kernel), List.mem_of_getElem? (i := 906) (by decide +kernel), List.mem_of_getElem? (i := 907) (by decide +kernel)⟩
theorem lw_p17 : lw_okq (⟨"TurnHouse$Reader", "readTarget", "(I)I"⟩, 15) := ⟨⟨by decide +kernel, by decide +kernel⟩, List.mem_of_getElem? (i := 244) (by decide +kernel), List.mem_of_getElem? (i := 910) (by decide +kernel), List.mem_of_getElem? (i := 911) (by decide +kernel)⟩
theorem lw_p18 : lw_okq (⟨"TurnHouse$Reader", "readLocal", "(I)V"⟩, 15) := ⟨⟨by decide +kernel, by decide +kernel⟩, List.mem_of_getElem? (i := 244) (by decide +kernel), List.mem_of_getElem? (i := 917) (by decide +kernel), List.mem_of_getElem? (i := 918) (by decide +kernel)⟩
theorem lw_p19 : lw_okq (⟨"TurnHouse$Reader", "localHere", "()I"⟩, 15) := ⟨⟨by decide +kernel, by decide +kernel⟩, List.mem_of_getElem? (i := 244) (by decide +kernel), List.mem_of_getElem? (i := 921) (by decide +kernel), List.mem_of_getElem? (i := 922) (by decide +kernel)⟩
theorem lw_p20 : lw_okq (⟨"TurnHouse$Reader", "readObject", "(II)V"⟩, 15) := ⟨⟨by decide +kernel, by decide +kernel⟩, List.mem_of_getElem? (i := 244) (by decide +kernel), List.mem_of_getElem? (i := 930) (by decide +kernel), List.mem_of_getElem? (i := 931) (by decide +kernel)⟩
theorem lw_p21 : lw_okq (⟨"TurnHouse$Reader", "needName", "(IZI)V"⟩, 15) := ⟨⟨by decide +kernel, by decide +kernel⟩, List.mem_of_getElem? (i := 244) (by decide +kernel), List.mem_of_getElem? (i := 934) (by decide +kernel), List.mem_of_getElem? (i := 935) (by decide +kernel)⟩
theorem lw_p22 : lw_okq (⟨"TurnHouse$Reader", "hasExp", "(I)Z"⟩, 15) := ⟨⟨by decide +kernel, by decide +kernel⟩, List.mem_of_getElem? (i := 244) (by decide +kernel), List.mem_of_getElem? (i := 938) (by decide +kernel), List.mem_of_getElem? (i := 939) (by decide +kernel)⟩
theorem lw_p23 : lw_okq (⟨"TurnHouse$Reader", "readLevel", "(II)V"⟩, 15) := ⟨⟨by decide +kernel, by decide +kernel⟩, List.mem_of_getElem? (i := 244) (by decide +kernel), List.mem_of_getElem? (i := 942) (by decide +kernel), List.mem_of_getElem? (i := 943) (by decide +kernel)⟩
theorem lw_p24 : lw_okq (⟨"TurnHouse$Reader", "readSide", "(II)V"⟩, 15) := ⟨⟨by decide +kernel, by decide +kernel⟩, List.mem_of_getElem? (i := 244) (by decide +kernel), List.mem_of_getElem? (i := 946) (by decide +kernel), List.mem_of_getElem? (i := 947) (by decide +kernel)⟩
theorem lw_p25 : lw_okq (⟨"TurnHouse$Reader", "readOne", "(I)V"⟩, 15) := ⟨⟨by decide +kernel, by decide +kernel⟩, List.mem_of_getElem? (i := 244) (by decide +kernel), List.mem_of_getElem? (i := 950) (by decide +kernel), List.mem_of_getElem? (i := 951) (by decide +kernel)⟩
theorem lw_p26 : lw_okq (⟨"TurnHouse$Reader", "beginsOne", "(I)Z"⟩, 15) := ⟨⟨by decide +kernel, by decide +kernel⟩, List.mem_of_getElem? (i := 244) (by decide +kernel), List.mem_of_getElem? (i := 954) (by decide +kernel), List.mem_of_getElem? (i := 955) (by decide +kernel)⟩
theorem lw_p27 : lw_okq (⟨"TurnHouse$Reader", "isStray", "()Z"⟩, 15) := ⟨⟨by decide +kernel, by decide +kernel⟩, List.mem_of_getElem? (i := 244) (by decide +kernel), List.mem_of_getElem? (i := 958) (by decide +kernel), List.mem_of_getElem? (i := 959) (by decide +kernel)⟩
theorem lw_p28 : lw_okq (⟨"TurnHouse$Reader", "countNode", "()Z"⟩, 15) := ⟨⟨by decide +kernel, by decide +kernel⟩, List.mem_of_getElem? (i := 244) (by decide +kernel), List.mem_of_getElem? (i := 962) (by decide +kernel), List.mem_of_getElem? (i := 963) (by decide +kernel)⟩
theorem lw_p29 : lw_okq (⟨"TurnHouse$Reader", "readNode", "(II)V"⟩, 15) := ⟨⟨by decide +kernel, by decide +kernel⟩, List.mem_of_getElem? (i := 244) (by decide +kernel), List.mem_of_getElem? (i := 966) (by decide +kernel), List.mem_of_getElem? (i := 967) (by decide +kernel)⟩
theorem lw_p30 : lw_okq (⟨"TurnHouse$Reader", "readCellOrLocal", "()V"⟩, 15) := ⟨⟨by decide +kernel, by decide +kernel⟩, List.mem_of_getElem? (i := 244) (by decide +kernel), List.mem_of_getElem? (i := 978) (by decide +kernel), List.mem_of_getElem? (i := 979) (by decide +kernel)⟩
theorem lw_p31 : lw_okq (⟨"TurnHouse$Reader", "readAsked", "(I)V"⟩, 15) := ⟨⟨by decide +kernel, by decide +kernel⟩, List.mem_of_getElem? (i := 244) (by decide +kernel), List.mem_of_getElem? (i := 986) (by decide +kernel), List.mem_of_getElem? (i := 987) (by decide +kernel)⟩
def lw_privs_2 : List (MethodName × Nat) := [(⟨"TurnHouse$Reader", "readStatement", "(II)V"⟩, 15), (⟨"TurnHouse$Reader", "readTarget", "(I)I"⟩, 15), (⟨"TurnHouse$Reader", "readLocal", "(I)V"⟩, 15), (⟨"TurnHouse$Reader", "localHere", "()I"⟩, 15), (⟨"TurnHouse$Reader", "readObject", "(II)V"⟩, 15), (⟨"TurnHouse$Reader", "needName", "(IZI)V"⟩, 15), (⟨"TurnHouse$Reader", "hasExp", "(I)Z"⟩, 15), (⟨"TurnHouse$Reader", "readLevel", "(II)V"⟩, 15), (⟨"TurnHouse$Reader", "readSide", "(II)V"⟩, 15), (⟨"TurnHouse$Reader", "readOne", "(I)V"⟩, 15), (⟨"TurnHouse$Reader", "beginsOne", "(I)Z"⟩, 15), (⟨"TurnHouse$Reader", "isStray", "()Z"⟩, 15), (⟨"TurnHouse$Reader", "countNode", "()Z"⟩, 15), (⟨"TurnHouse$Reader", "readNode", "(II)V"⟩, 15), (⟨"TurnHouse$Reader", "readCellOrLocal", "()V"⟩, 15), (⟨"TurnHouse$Reader", "readAsked", "(I)V"⟩, 15)]
theorem lw_r2 : ∀ q ∈ lw_privs_2, lw_okq q := List.forall_mem_cons.mpr ⟨lw_p16, List.forall_mem_cons.mpr ⟨lw_p17, List.forall_mem_cons.mpr ⟨lw_p18, List.forall_mem_cons.mpr ⟨lw_p19, List.forall_mem_cons.mpr ⟨lw_p20, List.forall_mem_cons.mpr ⟨lw_p21, List.forall_mem_cons.mpr ⟨lw_p22, List.forall_mem_cons.mpr ⟨lw_p23, List.forall_mem_cons.mpr ⟨lw_p24, List.forall_mem_cons.mpr ⟨lw_p25, List.forall_mem_cons.mpr ⟨lw_p26, List.forall_mem_cons.mpr ⟨lw_p27, List.forall_mem_cons.mpr ⟨lw_p28, List.forall_mem_cons.mpr ⟨lw_p29, List.forall_mem_cons.mpr ⟨lw_p30, List.forall_mem_cons.mpr ⟨lw_p31, fun _ h => absurd h List.not_mem_nil⟩⟩⟩⟩⟩⟩⟩⟩⟩⟩⟩⟩⟩⟩⟩⟩
theorem lw_p32 : lw_okq (⟨"TurnHouse$Reader", "readInto", "(I)V"⟩, 15) := ⟨⟨by decide +kernel, by decide +kernel⟩, List.mem_of_getElem? (i := 244) (by decide +kernel), List.mem_of_getElem? (i := 993) (by decide +kernel), List.mem_of_getElem? (i := 994) (by decide +kernel)⟩
theorem lw_p33 : lw_okq (⟨"TurnHouse$Reader", "aimThreads", "()V"⟩, 15) := ⟨⟨by decide +kernel, by decide +kernel⟩, List.mem_of_getElem? (i := 244) (by decide +kernel), List.mem_of_getElem? (i := 997) (by decide +kernel), List.mem_of_getElem? (i := 998) (by decide +kernel)⟩
theorem lw_p34 : lw_okq (⟨"TurnHouse$Program", "behind", "(I)I"⟩, 14) := ⟨⟨by decide +kernel, by decide +kernel⟩, List.mem_of_getElem? (i := 159) (by decide +kernel), List.mem_of_getElem? (i := 1005) (by decide +kernel), List.mem_of_getElem? (i := 1006) (by decide +kernel)⟩
theorem lw_p35 : lw_okq (⟨"TurnHouse$Machine", "go", "(II)V"⟩, 13) := ⟨⟨by decide +kernel, by decide +kernel⟩, List.mem_of_getElem? (i := 309) (by decide +kernel), List.mem_of_getElem? (i := 1033) (by decide +kernel), List.mem_of_getElem? (i := 1034) (by decide +kernel)⟩
theorem lw_p36 : lw_okq (⟨"TurnHouse$Machine", "needsEmptyQueue", "(II)Z"⟩, 13) := ⟨⟨by decide +kernel, by decide +kernel⟩, List.mem_of_getElem? (i := 309) (by decide +kernel), List.mem_of_getElem? (i := 1045) (by decide +kernel), List.mem_of_getElem? (i := 1046) (by decide +kernel)⟩
theorem lw_p37 : lw_okq (⟨"TurnHouse$Machine", "viewed", "(II)I"⟩, 13) := ⟨⟨by decide +kernel, by decide +kernel⟩, List.mem_of_getElem? (i := 309) (by decide +kernel), List.mem_of_getElem? (i := 1053) (by decide +kernel), List.mem_of_getElem? (i := 1054) (by decide +kernel)⟩
theorem lw_p38 : lw_okq (⟨"TurnHouse$Machine", "hasRoom", "(III)Z"⟩, 13) := ⟨⟨by decide +kernel, by decide +kernel⟩, List.mem_of_getElem? (i := 309) (by decide +kernel), List.mem_of_getElem? (i := 1057) (by decide +kernel), List.mem_of_getElem? (i := 1058) (by decide +kernel)⟩
theorem lw_p39 : lw_okq (⟨"TurnHouse$Nodes", "apply", "(III[I)I"⟩, 5) := ⟨⟨by decide +kernel, by decide +kernel⟩, List.mem_of_getElem? (i := 133) (by decide +kernel), List.mem_of_getElem? (i := 1065) (by decide +kernel), List.mem_of_getElem? (i := 1066) (by decide +kernel)⟩
theorem lw_p40 : lw_okq (⟨"TurnHouse$Machine", "waiters", "(I)I"⟩, 13) := ⟨⟨by decide +kernel, by decide +kernel⟩, List.mem_of_getElem? (i := 309) (by decide +kernel), List.mem_of_getElem? (i := 1069) (by decide +kernel), List.mem_of_getElem? (i := 1070) (by decide +kernel)⟩
theorem lw_p41 : lw_okq (⟨"TurnHouse$Machine", "waitsFor", "(II)Z"⟩, 13) := ⟨⟨by decide +kernel, by decide +kernel⟩, List.mem_of_getElem? (i := 309) (by decide +kernel), List.mem_of_getElem? (i := 1073) (by decide +kernel), List.mem_of_getElem? (i := 1074) (by decide +kernel)⟩
theorem lw_p42 : lw_okq (⟨"TurnHouse$Machine", "flush", "(I)V"⟩, 13) := ⟨⟨by decide +kernel, by decide +kernel⟩, List.mem_of_getElem? (i := 309) (by decide +kernel), List.mem_of_getElem? (i := 1098) (by decide +kernel), List.mem_of_getElem? (i := 1099) (by decide +kernel)⟩
theorem lw_p43 : lw_okq (⟨"TurnHouse$Machine", "takeBack", "(II)V"⟩, 13) := ⟨⟨by decide +kernel, by decide +kernel⟩, List.mem_of_getElem? (i := 309) (by decide +kernel), List.mem_of_getElem? (i := 1102) (by decide +kernel), List.mem_of_getElem? (i := 1103) (by decide +kernel)⟩
theorem lw_p44 : lw_okq (⟨"TurnHouse$Machine", "learn", "(II)V"⟩, 13) := ⟨⟨by decide +kernel, by decide +kernel⟩, List.mem_of_getElem? (i := 309) (by decide +kernel), List.mem_of_getElem? (i := 1106) (by decide +kernel), List.mem_of_getElem? (i := 1107) (by decide +kernel)⟩
theorem lw_p45 : lw_okq (⟨"TurnHouse$Machine", "touch", "(III)I"⟩, 13) := ⟨⟨by decide +kernel, by decide +kernel⟩, List.mem_of_getElem? (i := 309) (by decide +kernel), List.mem_of_getElem? (i := 1110) (by decide +kernel), List.mem_of_getElem? (i := 1111) (by decide +kernel)⟩
theorem lw_p46 : lw_okq (⟨"TurnHouse$Machine", "setLocal", "(II)V"⟩, 13) := ⟨⟨by decide +kernel, by decide +kernel⟩, List.mem_of_getElem? (i := 309) (by decide +kernel), List.mem_of_getElem? (i := 1118) (by decide +kernel), List.mem_of_getElem? (i := 1119) (by decide +kernel)⟩
theorem lw_p47 : lw_okq (⟨"TurnHouse$Machine", "look", "(III)V"⟩, 13) := ⟨⟨by decide +kernel, by decide +kernel⟩, List.mem_of_getElem? (i := 309) (by decide +kernel), List.mem_of_getElem? (i := 1123) (by decide +kernel), List.mem_of_getElem? (i := 1124) (by decide +kernel)⟩
def lw_privs_3 : List (MethodName × Nat) := [(⟨"TurnHouse$Reader", "readInto", "(I)V"⟩, 15), (⟨"TurnHouse$Reader", "aimThreads", "()V"⟩, 15), (⟨"TurnHouse$Program", "behind", "(I)I"⟩, 14), (⟨"TurnHouse$Machine", "go", "(II)V"⟩, 13), (⟨"TurnHouse$Machine", "needsEmptyQueue", "(II)Z"⟩, 13), (⟨"TurnHouse$Machine", "viewed", "(II)I"⟩, 13), (⟨"TurnHouse$Machine", "hasRoom", "(III)Z"⟩, 13), (⟨"TurnHouse$Nodes", "apply", "(III[I)I"⟩, 5), (⟨"TurnHouse$Machine", "waiters", "(I)I"⟩, 13), (⟨"TurnHouse$Machine", "waitsFor", "(II)Z"⟩, 13), (⟨"TurnHouse$Machine", "flush", "(I)V"⟩, 13), (⟨"TurnHouse$Machine", "takeBack", "(II)V"⟩, 13), (⟨"TurnHouse$Machine", "learn", "(II)V"⟩, 13), (⟨"TurnHouse$Machine", "touch", "(III)I"⟩, 13), (⟨"TurnHouse$Machine", "setLocal", "(II)V"⟩, 13), (⟨"TurnHouse$Machine", "look", "(III)V"⟩, 13)]
theorem lw_r3 : ∀ q ∈ lw_privs_3, lw_okq q := List.forall_mem_cons.mpr ⟨lw_p32, List.forall_mem_cons.mpr ⟨lw_p33, List.forall_mem_cons.mpr ⟨lw_p34, List.forall_mem_cons.mpr ⟨lw_p35, List.forall_mem_cons.mpr ⟨lw_p36, List.forall_mem_cons.mpr ⟨lw_p37, List.forall_mem_cons.mpr ⟨lw_p38, List.forall_mem_cons.mpr ⟨lw_p39, List.forall_mem_cons.mpr ⟨lw_p40, List.forall_mem_cons.mpr ⟨lw_p41, List.forall_mem_cons.mpr ⟨lw_p42, List.forall_mem_cons.mpr ⟨lw_p43, List.forall_mem_cons.mpr ⟨lw_p44, List.forall_mem_cons.mpr ⟨lw_p45, List.forall_mem_cons.mpr ⟨lw_p46, List.forall_mem_cons.mpr ⟨lw_p47, fun _ h => absurd h List.not_mem_nil⟩⟩⟩⟩⟩⟩⟩⟩⟩⟩⟩⟩⟩⟩⟩⟩
theorem lw_p48 : lw_okq (⟨"TurnHouse$Machine", "view", "(III)V"⟩, 13) := ⟨⟨by decide +kernel, by decide +kernel⟩, List.mem_of_getElem? (i := 309) (by decide +kernel), List.mem_of_getElem? (i := 1127) (by decide +kernel), List.mem_of_getElem? (i := 1128) (by decide +kernel)⟩
theorem lw_p49 : lw_okq (⟨"TurnHouse$Machine", "workOut", "(I)I"⟩, 13) := ⟨⟨by decide +kernel, by decide +kernel⟩, List.mem_of_getElem? (i := 309) (by decide +kernel), List.mem_of_getElem? (i := 1131) (by decide +kernel), List.mem_of_getElem? (i := 1132) (by decide +kernel)⟩
theorem lw_p50 : lw_okq (⟨"TurnHouse$Machine", "store", "(III)V"⟩, 13) := ⟨⟨by decide +kernel, by decide +kernel⟩, List.mem_of_getElem? (i := 309) (by decide +kernel), List.mem_of_getElem? (i := 1135) (by decide +kernel), List.mem_of_getElem? (i := 1136) (by decide +kernel)⟩
theorem lw_p51 : lw_okq (⟨"TurnHouse$Machine", "write", "(IIIZ)V"⟩, 13) := ⟨⟨by decide +kernel, by decide +kernel⟩, List.mem_of_getElem? (i := 309) (by decide +kernel), List.mem_of_getElem? (i := 1139) (by decide +kernel), List.mem_of_getElem? (i := 1140) (by decide +kernel)⟩
theorem lw_p52 : lw_okq (⟨"TurnHouse$Machine", "swapIf", "(IIII)V"⟩, 13) := ⟨⟨by decide +kernel, by decide +kernel⟩, List.mem_of_getElem? (i := 309) (by decide +kernel), List.mem_of_getElem? (i := 1143) (by decide +kernel), List.mem_of_getElem? (i := 1144) (by decide +kernel)⟩
theorem lw_p53 : lw_okq (⟨"TurnHouse$Machine", "lookAtLast", "(II)V"⟩, 13) := ⟨⟨by decide +kernel, by decide +kernel⟩, List.mem_of_getElem? (i := 309) (by decide +kernel), List.mem_of_getElem? (i := 1147) (by decide +kernel), List.mem_of_getElem? (i := 1148) (by decide +kernel)⟩
theorem lw_p54 : lw_okq (⟨"TurnHouse$Machine", "addTo", "(III)I"⟩, 13) := ⟨⟨by decide +kernel, by decide +kernel⟩, List.mem_of_getElem? (i := 309) (by decide +kernel), List.mem_of_getElem? (i := 1151) (by decide +kernel), List.mem_of_getElem? (i := 1152) (by decide +kernel)⟩
theorem lw_p55 : lw_okq (⟨"TurnHouse$Machine", "useLock", "(III)I"⟩, 13) := ⟨⟨by decide +kernel, by decide +kernel⟩, List.mem_of_getElem? (i := 309) (by decide +kernel), List.mem_of_getElem? (i := 1155) (by decide +kernel), List.mem_of_getElem? (i := 1156) (by decide +kernel)⟩
theorem lw_p56 : lw_okq (⟨"TurnHouse$Machine", "leave", "(II)V"⟩, 13) := ⟨⟨by decide +kernel, by decide +kernel⟩, List.mem_of_getElem? (i := 309) (by decide +kernel), List.mem_of_getElem? (i := 1159) (by decide +kernel), List.mem_of_getElem? (i := 1160) (by decide +kernel)⟩
theorem lw_p57 : lw_okq (⟨"TurnHouse$Machine", "wake", "(II)V"⟩, 13) := ⟨⟨by decide +kernel, by decide +kernel⟩, List.mem_of_getElem? (i := 309) (by decide +kernel), List.mem_of_getElem? (i := 1163) (by decide +kernel), List.mem_of_getElem? (i := 1164) (by decide +kernel)⟩
theorem lw_p58 : lw_okq (⟨"TurnHouse$Machine", "meet", "(II)I"⟩, 13) := ⟨⟨by decide +kernel, by decide +kernel⟩, List.mem_of_getElem? (i := 309) (by decide +kernel), List.mem_of_getElem? (i := 1167) (by decide +kernel), List.mem_of_getElem? (i := 1168) (by decide +kernel)⟩
theorem lw_p59 : lw_okq (⟨"TurnHouse$Machine", "begins", "(II)I"⟩, 13) := ⟨⟨by decide +kernel, by decide +kernel⟩, List.mem_of_getElem? (i := 309) (by decide +kernel), List.mem_of_getElem? (i := 1171) (by decide +kernel), List.mem_of_getElem? (i := 1172) (by decide +kernel)⟩
theorem lw_p60 : lw_okq (⟨"TurnHouse$Machine", "tell", "()I"⟩, 13) := ⟨⟨by decide +kernel, by decide +kernel⟩, List.mem_of_getElem? (i := 309) (by decide +kernel), List.mem_of_getElem? (i := 1175) (by decide +kernel), List.mem_of_getElem? (i := 1176) (by decide +kernel)⟩
theorem lw_p61 : lw_okq (⟨"TurnHouse$Run", "leadsTo", "(II)Z"⟩, 5) := ⟨⟨by decide +kernel, by decide +kernel⟩, List.mem_of_getElem? (i := 572) (by decide +kernel), List.mem_of_getElem? (i := 1179) (by decide +kernel), List.mem_of_getElem? (i := 1180) (by decide +kernel)⟩
theorem lw_p62 : lw_okq (⟨"TurnHouse$Run", "tells", "(I)Z"⟩, 5) := ⟨⟨by decide +kernel, by decide +kernel⟩, List.mem_of_getElem? (i := 572) (by decide +kernel), List.mem_of_getElem? (i := 1183) (by decide +kernel), List.mem_of_getElem? (i := 1184) (by decide +kernel)⟩
theorem lw_p63 : lw_okq (⟨"TurnHouse$Run", "hears", "(I)Z"⟩, 5) := ⟨⟨by decide +kernel, by decide +kernel⟩, List.mem_of_getElem? (i := 572) (by decide +kernel), List.mem_of_getElem? (i := 1188) (by decide +kernel), List.mem_of_getElem? (i := 1189) (by decide +kernel)⟩
def lw_privs_4 : List (MethodName × Nat) := [(⟨"TurnHouse$Machine", "view", "(III)V"⟩, 13), (⟨"TurnHouse$Machine", "workOut", "(I)I"⟩, 13), (⟨"TurnHouse$Machine", "store", "(III)V"⟩, 13), (⟨"TurnHouse$Machine", "write", "(IIIZ)V"⟩, 13), (⟨"TurnHouse$Machine", "swapIf", "(IIII)V"⟩, 13), (⟨"TurnHouse$Machine", "lookAtLast", "(II)V"⟩, 13), (⟨"TurnHouse$Machine", "addTo", "(III)I"⟩, 13), (⟨"TurnHouse$Machine", "useLock", "(III)I"⟩, 13), (⟨"TurnHouse$Machine", "leave", "(II)V"⟩, 13), (⟨"TurnHouse$Machine", "wake", "(II)V"⟩, 13), (⟨"TurnHouse$Machine", "meet", "(II)I"⟩, 13), (⟨"TurnHouse$Machine", "begins", "(II)I"⟩, 13), (⟨"TurnHouse$Machine", "tell", "()I"⟩, 13), (⟨"TurnHouse$Run", "leadsTo", "(II)Z"⟩, 5), (⟨"TurnHouse$Run", "tells", "(I)Z"⟩, 5), (⟨"TurnHouse$Run", "hears", "(I)Z"⟩, 5)]
theorem lw_r4 : ∀ q ∈ lw_privs_4, lw_okq q := List.forall_mem_cons.mpr ⟨lw_p48, List.forall_mem_cons.mpr ⟨lw_p49, List.forall_mem_cons.mpr ⟨lw_p50, List.forall_mem_cons.mpr ⟨lw_p51, List.forall_mem_cons.mpr ⟨lw_p52, List.forall_mem_cons.mpr ⟨lw_p53, List.forall_mem_cons.mpr ⟨lw_p54, List.forall_mem_cons.mpr ⟨lw_p55, List.forall_mem_cons.mpr ⟨lw_p56, List.forall_mem_cons.mpr ⟨lw_p57, List.forall_mem_cons.mpr ⟨lw_p58, List.forall_mem_cons.mpr ⟨lw_p59, List.forall_mem_cons.mpr ⟨lw_p60, List.forall_mem_cons.mpr ⟨lw_p61, List.forall_mem_cons.mpr ⟨lw_p62, List.forall_mem_cons.mpr ⟨lw_p63, fun _ h => absurd h List.not_mem_nil⟩⟩⟩⟩⟩⟩⟩⟩⟩⟩⟩⟩⟩⟩⟩⟩
theorem lw_p64 : lw_okq (⟨"TurnHouse$Run", "putAhead", "(II)V"⟩, 5) := ⟨⟨by decide +kernel, by decide +kernel⟩, List.mem_of_getElem? (i := 572) (by decide +kernel), List.mem_of_getElem? (i := 1192) (by decide +kernel), List.mem_of_getElem? (i := 1193) (by decide +kernel)⟩
theorem lw_p65 : lw_okq (⟨"TurnHouse$Run", "touches", "(I)Z"⟩, 5) := ⟨⟨by decide +kernel, by decide +kernel⟩, List.mem_of_getElem? (i := 572) (by decide +kernel), List.mem_of_getElem? (i := 1258) (by decide +kernel), List.mem_of_getElem? (i := 1259) (by decide +kernel)⟩
theorem lw_p66 : lw_okq (⟨"TurnHouse$History", "gather", "(LTurnHouse$Run;)Z"⟩, 11) := ⟨⟨by decide +kernel, by decide +kernel⟩, List.mem_of_getElem? (i := 604) (by decide +kernel), List.mem_of_getElem? (i := 1276) (by decide +kernel), List.mem_of_getElem? (i := 1277) (by decide +kernel)⟩
theorem lw_p67 : lw_okq (⟨"TurnHouse$History", "addCall", "(IIII)V"⟩, 11) := ⟨⟨by decide +kernel, by decide +kernel⟩, List.mem_of_getElem? (i := 604) (by decide +kernel), List.mem_of_getElem? (i := 1285) (by decide +kernel), List.mem_of_getElem? (i := 1286) (by decide +kernel)⟩
theorem lw_p68 : lw_okq (⟨"TurnHouse$History", "extend", "(II)Z"⟩, 11) := ⟨⟨by decide +kernel, by decide +kernel⟩, List.mem_of_getElem? (i := 604) (by decide +kernel), List.mem_of_getElem? (i := 1289) (by decide +kernel), List.mem_of_getElem? (i := 1290) (by decide +kernel)⟩
theorem lw_p69 : lw_okq (⟨"TurnHouse$History", "mayBeNext", "(II)Z"⟩, 11) := ⟨⟨by decide +kernel, by decide +kernel⟩, List.mem_of_getElem? (i := 604) (by decide +kernel), List.mem_of_getElem? (i := 1293) (by decide +kernel), List.mem_of_getElem? (i := 1294) (by decide +kernel)⟩
theorem lw_p70 : lw_okq (⟨"TurnHouse$History", "place", "(III)Z"⟩, 11) := ⟨⟨by decide +kernel, by decide +kernel⟩, List.mem_of_getElem? (i := 604) (by decide +kernel), List.mem_of_getElem? (i := 1297) (by decide +kernel), List.mem_of_getElem? (i := 1298) (by decide +kernel)⟩
theorem lw_p71 : lw_okq (⟨"TurnHouse$History", "perform", "(II)I"⟩, 11) := ⟨⟨by decide +kernel, by decide +kernel⟩, List.mem_of_getElem? (i := 604) (by decide +kernel), List.mem_of_getElem? (i := 1301) (by decide +kernel), List.mem_of_getElem? (i := 1302) (by decide +kernel)⟩
theorem lw_p72 : lw_okq (⟨"TurnHouse$Machine", "pick", "(II)V"⟩, 13) := ⟨⟨by decide +kernel, by decide +kernel⟩, List.mem_of_getElem? (i := 309) (by decide +kernel), List.mem_of_getElem? (i := 1325) (by decide +kernel), List.mem_of_getElem? (i := 1326) (by decide +kernel)⟩
theorem lw_p73 : lw_okq (⟨"TurnHouse$Machine", "makeEven", "()V"⟩, 13) := ⟨⟨by decide +kernel, by decide +kernel⟩, List.mem_of_getElem? (i := 309) (by decide +kernel), List.mem_of_getElem? (i := 1329) (by decide +kernel), List.mem_of_getElem? (i := 1330) (by decide +kernel)⟩
theorem lw_p74 : lw_okq (⟨"TurnHouse$Rows", "placeOf", "([JI)I"⟩, 6) := ⟨⟨by decide +kernel, by decide +kernel⟩, List.mem_of_getElem? (i := 405) (by decide +kernel), List.mem_of_getElem? (i := 1356) (by decide +kernel), List.mem_of_getElem? (i := 1357) (by decide +kernel)⟩
theorem lw_p75 : lw_okq (⟨"TurnHouse$Rows", "isSame", "([JII)Z"⟩, 6) := ⟨⟨by decide +kernel, by decide +kernel⟩, List.mem_of_getElem? (i := 405) (by decide +kernel), List.mem_of_getElem? (i := 1361) (by decide +kernel), List.mem_of_getElem? (i := 1362) (by decide +kernel)⟩
theorem lw_p76 : lw_okq (⟨"TurnHouse$Rows", "name", "(II)V"⟩, 6) := ⟨⟨by decide +kernel, by decide +kernel⟩, List.mem_of_getElem? (i := 405) (by decide +kernel), List.mem_of_getElem? (i := 1366) (by decide +kernel), List.mem_of_getElem? (i := 1367) (by decide +kernel)⟩
theorem lw_p77 : lw_okq (⟨"TurnHouse$Turns", "lookAround", "(I)I"⟩, 20) := ⟨⟨by decide +kernel, by decide +kernel⟩, List.mem_of_getElem? (i := 303) (by decide +kernel), List.mem_of_getElem? (i := 1370) (by decide +kernel), List.mem_of_getElem? (i := 1371) (by decide +kernel)⟩
theorem lw_p78 : lw_okq (⟨"TurnHouse$Findings", "noteRace", "(III)V"⟩, 7) := ⟨⟨by decide +kernel, by decide +kernel⟩, List.mem_of_getElem? (i := 374) (by decide +kernel), List.mem_of_getElem? (i := 1400) (by decide +kernel), List.mem_of_getElem? (i := 1401) (by decide +kernel)⟩
theorem lw_p79 : lw_okq (⟨"TurnHouse$Turns", "noteEnd", "(I)V"⟩, 20) := ⟨⟨by decide +kernel, by decide +kernel⟩, List.mem_of_getElem? (i := 303) (by decide +kernel), List.mem_of_getElem? (i := 1404) (by decide +kernel), List.mem_of_getElem? (i := 1405) (by decide +kernel)⟩
def lw_privs_5 : List (MethodName × Nat) := [(⟨"TurnHouse$Run", "putAhead", "(II)V"⟩, 5), (⟨"TurnHouse$Run", "touches", "(I)Z"⟩, 5), (⟨"TurnHouse$History", "gather", "(LTurnHouse$Run;)Z"⟩, 11), (⟨"TurnHouse$History", "addCall", "(IIII)V"⟩, 11), (⟨"TurnHouse$History", "extend", "(II)Z"⟩, 11), (⟨"TurnHouse$History", "mayBeNext", "(II)Z"⟩, 11), (⟨"TurnHouse$History", "place", "(III)Z"⟩, 11), (⟨"TurnHouse$History", "perform", "(II)I"⟩, 11), (⟨"TurnHouse$Machine", "pick", "(II)V"⟩, 13), (⟨"TurnHouse$Machine", "makeEven", "()V"⟩, 13), (⟨"TurnHouse$Rows", "placeOf", "([JI)I"⟩, 6), (⟨"TurnHouse$Rows", "isSame", "([JII)Z"⟩, 6), (⟨"TurnHouse$Rows", "name", "(II)V"⟩, 6), (⟨"TurnHouse$Turns", "lookAround", "(I)I"⟩, 20), (⟨"TurnHouse$Findings", "noteRace", "(III)V"⟩, 7), (⟨"TurnHouse$Turns", "noteEnd", "(I)V"⟩, 20)]
theorem lw_r5 : ∀ q ∈ lw_privs_5, lw_okq q := List.forall_mem_cons.mpr ⟨lw_p64, List.forall_mem_cons.mpr ⟨lw_p65, List.forall_mem_cons.mpr ⟨lw_p66, List.forall_mem_cons.mpr ⟨lw_p67, List.forall_mem_cons.mpr ⟨lw_p68, List.forall_mem_cons.mpr ⟨lw_p69, List.forall_mem_cons.mpr ⟨lw_p70, List.forall_mem_cons.mpr ⟨lw_p71, List.forall_mem_cons.mpr ⟨lw_p72, List.forall_mem_cons.mpr ⟨lw_p73, List.forall_mem_cons.mpr ⟨lw_p74, List.forall_mem_cons.mpr ⟨lw_p75, List.forall_mem_cons.mpr ⟨lw_p76, List.forall_mem_cons.mpr ⟨lw_p77, List.forall_mem_cons.mpr ⟨lw_p78, List.forall_mem_cons.mpr ⟨lw_p79, fun _ h => absurd h List.not_mem_nil⟩⟩⟩⟩⟩⟩⟩⟩⟩⟩⟩⟩⟩⟩⟩⟩
theorem lw_p80 : lw_okq (⟨"TurnHouse$Findings", "leastInRing", "(LTurnHouse$Machine;)I"⟩, 7) := ⟨⟨by decide +kernel, by decide +kernel⟩, List.mem_of_getElem? (i := 374) (by decide +kernel), List.mem_of_getElem? (i := 1412) (by decide +kernel), List.mem_of_getElem? (i := 1413) (by decide +kernel)⟩
theorem lw_p81 : lw_okq (⟨"TurnHouse$Findings", "noteStuck", "(III)V"⟩, 7) := ⟨⟨by decide +kernel, by decide +kernel⟩, List.mem_of_getElem? (i := 374) (by decide +kernel), List.mem_of_getElem? (i := 1420) (by decide +kernel), List.mem_of_getElem? (i := 1421) (by decide +kernel)⟩
theorem lw_p82 : lw_okq (⟨"TurnHouse$Turns", "quietStep", "()I"⟩, 20) := ⟨⟨by decide +kernel, by decide +kernel⟩, List.mem_of_getElem? (i := 303) (by decide +kernel), List.mem_of_getElem? (i := 1428) (by decide +kernel), List.mem_of_getElem? (i := 1429) (by decide +kernel)⟩
theorem lw_p83 : lw_okq (⟨"TurnHouse$Turns", "tryStep", "(II)Z"⟩, 20) := ⟨⟨by decide +kernel, by decide +kernel⟩, List.mem_of_getElem? (i := 303) (by decide +kernel), List.mem_of_getElem? (i := 1432) (by decide +kernel), List.mem_of_getElem? (i := 1433) (by decide +kernel)⟩
theorem lw_p84 : lw_okq (⟨"TurnHouse$Turns", "isWhile", "(I)Z"⟩, 20) := ⟨⟨by decide +kernel, by decide +kernel⟩, List.mem_of_getElem? (i := 303) (by decide +kernel), List.mem_of_getElem? (i := 1445) (by decide +kernel), List.mem_of_getElem? (i := 1446) (by decide +kernel)⟩
theorem lw_p85 : lw_okq (⟨"TurnHouse$Turns", "countSwitches", "()V"⟩, 20) := ⟨⟨by decide +kernel, by decide +kernel⟩, List.mem_of_getElem? (i := 303) (by decide +kernel), List.mem_of_getElem? (i := 1473) (by decide +kernel), List.mem_of_getElem? (i := 1474) (by decide +kernel)⟩
theorem lw_p86 : lw_okq (⟨"TurnHouse$Turns", "reach", "(III)V"⟩, 20) := ⟨⟨by decide +kernel, by decide +kernel⟩, List.mem_of_getElem? (i := 303) (by decide +kernel), List.mem_of_getElem? (i := 1484) (by decide +kernel), List.mem_of_getElem? (i := 1485) (by decide +kernel)⟩
theorem lw_p87 : lw_okq (⟨"TurnHouse$Turns", "leaveFrom", "(II)V"⟩, 20) := ⟨⟨by decide +kernel, by decide +kernel⟩, List.mem_of_getElem? (i := 303) (by decide +kernel), List.mem_of_getElem? (i := 1488) (by decide +kernel), List.mem_of_getElem? (i := 1489) (by decide +kernel)⟩
theorem lw_p88 : lw_okq (⟨"TurnHouse$Turns", "drawnOutcome", "(III)I"⟩, 20) := ⟨⟨by decide +kernel, by decide +kernel⟩, List.mem_of_getElem? (i := 303) (by decide +kernel), List.mem_of_getElem? (i := 1531) (by decide +kernel), List.mem_of_getElem? (i := 1532) (by decide +kernel)⟩
theorem lw_p89 : lw_okq (⟨"TurnHouse$Turns", "arrange", "(I)V"⟩, 20) := ⟨⟨by decide +kernel, by decide +kernel⟩, List.mem_of_getElem? (i := 303) (by decide +kernel), List.mem_of_getElem? (i := 1535) (by decide +kernel), List.mem_of_getElem? (i := 1536) (by decide +kernel)⟩
theorem lw_p90 : lw_okq (⟨"TurnHouse$Turns", "firstReady", "()I"⟩, 20) := ⟨⟨by decide +kernel, by decide +kernel⟩, List.mem_of_getElem? (i := 303) (by decide +kernel), List.mem_of_getElem? (i := 1539) (by decide +kernel), List.mem_of_getElem? (i := 1540) (by decide +kernel)⟩
theorem lw_p91 : lw_okq (⟨"TurnHouse$Turns", "lower", "(I)V"⟩, 20) := ⟨⟨by decide +kernel, by decide +kernel⟩, List.mem_of_getElem? (i := 303) (by decide +kernel), List.mem_of_getElem? (i := 1548) (by decide +kernel), List.mem_of_getElem? (i := 1549) (by decide +kernel)⟩
theorem lw_p92 : lw_okq (⟨"TurnHouse$Reader", "readFact", "(I)V"⟩, 15) := ⟨⟨by decide +kernel, by decide +kernel⟩, List.mem_of_getElem? (i := 244) (by decide +kernel), List.mem_of_getElem? (i := 1585) (by decide +kernel), List.mem_of_getElem? (i := 1586) (by decide +kernel)⟩
theorem lw_p93 : lw_okq (⟨"TurnHouse$Judge", "flag", "([IZ)V"⟩, 14) := ⟨⟨by decide +kernel, by decide +kernel⟩, List.mem_of_getElem? (i := 522) (by decide +kernel), List.mem_of_getElem? (i := 1593) (by decide +kernel), List.mem_of_getElem? (i := 1594) (by decide +kernel)⟩
theorem lw_p94 : lw_okq (⟨"TurnHouse$Judge", "isTrue", "(II[I)Z"⟩, 14) := ⟨⟨by decide +kernel, by decide +kernel⟩, List.mem_of_getElem? (i := 522) (by decide +kernel), List.mem_of_getElem? (i := 1598) (by decide +kernel), List.mem_of_getElem? (i := 1599) (by decide +kernel)⟩
theorem lw_p95 : lw_okq (⟨"TurnHouse$Judge", "least", "(II)I"⟩, 14) := ⟨⟨by decide +kernel, by decide +kernel⟩, List.mem_of_getElem? (i := 522) (by decide +kernel), List.mem_of_getElem? (i := 1603) (by decide +kernel), List.mem_of_getElem? (i := 1604) (by decide +kernel)⟩
def lw_privs_6 : List (MethodName × Nat) := [(⟨"TurnHouse$Findings", "leastInRing", "(LTurnHouse$Machine;)I"⟩, 7), (⟨"TurnHouse$Findings", "noteStuck", "(III)V"⟩, 7), (⟨"TurnHouse$Turns", "quietStep", "()I"⟩, 20), (⟨"TurnHouse$Turns", "tryStep", "(II)Z"⟩, 20), (⟨"TurnHouse$Turns", "isWhile", "(I)Z"⟩, 20), (⟨"TurnHouse$Turns", "countSwitches", "()V"⟩, 20), (⟨"TurnHouse$Turns", "reach", "(III)V"⟩, 20), (⟨"TurnHouse$Turns", "leaveFrom", "(II)V"⟩, 20), (⟨"TurnHouse$Turns", "drawnOutcome", "(III)I"⟩, 20), (⟨"TurnHouse$Turns", "arrange", "(I)V"⟩, 20), (⟨"TurnHouse$Turns", "firstReady", "()I"⟩, 20), (⟨"TurnHouse$Turns", "lower", "(I)V"⟩, 20), (⟨"TurnHouse$Reader", "readFact", "(I)V"⟩, 15), (⟨"TurnHouse$Judge", "flag", "([IZ)V"⟩, 14), (⟨"TurnHouse$Judge", "isTrue", "(II[I)Z"⟩, 14), (⟨"TurnHouse$Judge", "least", "(II)I"⟩, 14)]
theorem lw_r6 : ∀ q ∈ lw_privs_6, lw_okq q := List.forall_mem_cons.mpr ⟨lw_p80, List.forall_mem_cons.mpr ⟨lw_p81, List.forall_mem_cons.mpr ⟨lw_p82, List.forall_mem_cons.mpr ⟨lw_p83, List.forall_mem_cons.mpr ⟨lw_p84, List.forall_mem_cons.mpr ⟨lw_p85, List.forall_mem_cons.mpr ⟨lw_p86, List.forall_mem_cons.mpr ⟨lw_p87, List.forall_mem_cons.mpr ⟨lw_p88, List.forall_mem_cons.mpr ⟨lw_p89, List.forall_mem_cons.mpr ⟨lw_p90, List.forall_mem_cons.mpr ⟨lw_p91, List.forall_mem_cons.mpr ⟨lw_p92, List.forall_mem_cons.mpr ⟨lw_p93, List.forall_mem_cons.mpr ⟨lw_p94, List.forall_mem_cons.mpr ⟨lw_p95, fun _ h => absurd h List.not_mem_nil⟩⟩⟩⟩⟩⟩⟩⟩⟩⟩⟩⟩⟩⟩⟩⟩
theorem lw_p96 : lw_okq (⟨"TurnHouse$Judge", "findLacking", "(Z)V"⟩, 14) := ⟨⟨by decide +kernel, by decide +kernel⟩, List.mem_of_getElem? (i := 522) (by decide +kernel), List.mem_of_getElem? (i := 1607) (by decide +kernel), List.mem_of_getElem? (i := 1608) (by decide +kernel)⟩
theorem lw_p97 : lw_okq (⟨"TurnHouse$Judge", "isWanted", "(I)Z"⟩, 14) := ⟨⟨by decide +kernel, by decide +kernel⟩, List.mem_of_getElem? (i := 522) (by decide +kernel), List.mem_of_getElem? (i := 1612) (by decide +kernel), List.mem_of_getElem? (i := 1613) (by decide +kernel)⟩
theorem lw_p98 : lw_okq (⟨"TurnHouse$Judge", "walkFrom", "(IZ)V"⟩, 14) := ⟨⟨by decide +kernel, by decide +kernel⟩, List.mem_of_getElem? (i := 522) (by decide +kernel), List.mem_of_getElem? (i := 1616) (by decide +kernel), List.mem_of_getElem? (i := 1617) (by decide +kernel)⟩
theorem lw_p99 : lw_okq (⟨"TurnHouse$Judge", "enter", "(I)V"⟩, 14) := ⟨⟨by decide +kernel, by decide +kernel⟩, List.mem_of_getElem? (i := 522) (by decide +kernel), List.mem_of_getElem? (i := 1620) (by decide +kernel), List.mem_of_getElem? (i := 1621) (by decide +kernel)⟩
theorem lw_p100 : lw_okq (⟨"TurnHouse$Judge", "follow", "(II)V"⟩, 14) := ⟨⟨by decide +kernel, by decide +kernel⟩, List.mem_of_getElem? (i := 522) (by decide +kernel), List.mem_of_getElem? (i := 1626) (by decide +kernel), List.mem_of_getElem? (i := 1627) (by decide +kernel)⟩
theorem lw_p101 : lw_okq (⟨"TurnHouse$Judge", "close", "(IZ)V"⟩, 14) := ⟨⟨by decide +kernel, by decide +kernel⟩, List.mem_of_getElem? (i := 522) (by decide +kernel), List.mem_of_getElem? (i := 1631) (by decide +kernel), List.mem_of_getElem? (i := 1632) (by decide +kernel)⟩
theorem lw_p102 : lw_okq (⟨"TurnHouse$Judge", "findReached", "()V"⟩, 14) := ⟨⟨by decide +kernel, by decide +kernel⟩, List.mem_of_getElem? (i := 522) (by decide +kernel), List.mem_of_getElem? (i := 1640) (by decide +kernel), List.mem_of_getElem? (i := 1641) (by decide +kernel)⟩
theorem lw_p103 : lw_okq (⟨"TurnHouse$Judge", "comeTo", "(I)V"⟩, 14) := ⟨⟨by decide +kernel, by decide +kernel⟩, List.mem_of_getElem? (i := 522) (by decide +kernel), List.mem_of_getElem? (i := 1644) (by decide +kernel), List.mem_of_getElem? (i := 1645) (by decide +kernel)⟩
theorem lw_p104 : lw_okq (⟨"TurnHouse$Program", "swap", "(I)Z"⟩, 14) := ⟨⟨by decide +kernel, by decide +kernel⟩, List.mem_of_getElem? (i := 159) (by decide +kernel), List.mem_of_getElem? (i := 1665) (by decide +kernel), List.mem_of_getElem? (i := 1666) (by decide +kernel)⟩
theorem lw_p105 : lw_okq (⟨"TurnHouse$Program", "ahead", "(I)I"⟩, 14) := ⟨⟨by decide +kernel, by decide +kernel⟩, List.mem_of_getElem? (i := 159) (by decide +kernel), List.mem_of_getElem? (i := 1669) (by decide +kernel), List.mem_of_getElem? (i := 1670) (by decide +kernel)⟩
theorem lw_p106 : lw_okq (⟨"TurnHouse$Program", "leaveOut", "(I)Z"⟩, 14) := ⟨⟨by decide +kernel, by decide +kernel⟩, List.mem_of_getElem? (i := 159) (by decide +kernel), List.mem_of_getElem? (i := 1674) (by decide +kernel), List.mem_of_getElem? (i := 1675) (by decide +kernel)⟩
theorem lw_p107 : lw_okq (⟨"TurnHouse$Program", "unlink", "(III)V"⟩, 14) := ⟨⟨by decide +kernel, by decide +kernel⟩, List.mem_of_getElem? (i := 159) (by decide +kernel), List.mem_of_getElem? (i := 1678) (by decide +kernel), List.mem_of_getElem? (i := 1679) (by decide +kernel)⟩
theorem lw_p108 : lw_okq (⟨"TurnHouse$Program", "empty", "(I)V"⟩, 14) := ⟨⟨by decide +kernel, by decide +kernel⟩, List.mem_of_getElem? (i := 159) (by decide +kernel), List.mem_of_getElem? (i := 1682) (by decide +kernel), List.mem_of_getElem? (i := 1683) (by decide +kernel)⟩
theorem lw_p109 : lw_okq (⟨"TurnHouse$Program", "reuse", "(I)Z"⟩, 14) := ⟨⟨by decide +kernel, by decide +kernel⟩, List.mem_of_getElem? (i := 159) (by decide +kernel), List.mem_of_getElem? (i := 1686) (by decide +kernel), List.mem_of_getElem? (i := 1687) (by decide +kernel)⟩
theorem lw_p110 : lw_okq (⟨"TurnHouse", "forgetRewritten", "()V"⟩, 15) := ⟨⟨by decide +kernel, by decide +kernel⟩, List.mem_of_getElem? (i := 23) (by decide +kernel), List.mem_of_getElem? (i := 1693) (by decide +kernel), List.mem_of_getElem? (i := 1694) (by decide +kernel)⟩
theorem lw_p111 : lw_okq (⟨"TurnHouseModel", "beginReading", "()V"⟩, 155) := ⟨⟨by decide +kernel, by decide +kernel⟩, List.mem_of_getElem? (i := 1712) (by decide +kernel), List.mem_of_getElem? (i := 2204) (by decide +kernel), List.mem_of_getElem? (i := 2205) (by decide +kernel)⟩
def lw_privs_7 : List (MethodName × Nat) := [(⟨"TurnHouse$Judge", "findLacking", "(Z)V"⟩, 14), (⟨"TurnHouse$Judge", "isWanted", "(I)Z"⟩, 14), (⟨"TurnHouse$Judge", "walkFrom", "(IZ)V"⟩, 14), (⟨"TurnHouse$Judge", "enter", "(I)V"⟩, 14), (⟨"TurnHouse$Judge", "follow", "(II)V"⟩, 14), (⟨"TurnHouse$Judge", "close", "(IZ)V"⟩, 14), (⟨"TurnHouse$Judge", "findReached", "()V"⟩, 14), (⟨"TurnHouse$Judge", "comeTo", "(I)V"⟩, 14), (⟨"TurnHouse$Program", "swap", "(I)Z"⟩, 14), (⟨"TurnHouse$Program", "ahead", "(I)I"⟩, 14), (⟨"TurnHouse$Program", "leaveOut", "(I)Z"⟩, 14), (⟨"TurnHouse$Program", "unlink", "(III)V"⟩, 14), (⟨"TurnHouse$Program", "empty", "(I)V"⟩, 14), (⟨"TurnHouse$Program", "reuse", "(I)Z"⟩, 14), (⟨"TurnHouse", "forgetRewritten", "()V"⟩, 15), (⟨"TurnHouseModel", "beginReading", "()V"⟩, 155)]
theorem lw_r7 : ∀ q ∈ lw_privs_7, lw_okq q := List.forall_mem_cons.mpr ⟨lw_p96, List.forall_mem_cons.mpr ⟨lw_p97, List.forall_mem_cons.mpr ⟨lw_p98, List.forall_mem_cons.mpr ⟨lw_p99, List.forall_mem_cons.mpr ⟨lw_p100, List.forall_mem_cons.mpr ⟨lw_p101, List.forall_mem_cons.mpr ⟨lw_p102, List.forall_mem_cons.mpr ⟨lw_p103, List.forall_mem_cons.mpr ⟨lw_p104, List.forall_mem_cons.mpr ⟨lw_p105, List.forall_mem_cons.mpr ⟨lw_p106, List.forall_mem_cons.mpr ⟨lw_p107, List.forall_mem_cons.mpr ⟨lw_p108, List.forall_mem_cons.mpr ⟨lw_p109, List.forall_mem_cons.mpr ⟨lw_p110, List.forall_mem_cons.mpr ⟨lw_p111, fun _ h => absurd h List.not_mem_nil⟩⟩⟩⟩⟩⟩⟩⟩⟩⟩⟩⟩⟩⟩⟩⟩
theorem lw_p112 : lw_okq (⟨"TurnHouseModel", "next", "()V"⟩, 155) := ⟨⟨by decide +kernel, by decide +kernel⟩, List.mem_of_getElem? (i := 1712) (by decide +kernel), List.mem_of_getElem? (i := 2208) (by decide +kernel), List.mem_of_getElem? (i := 2209) (by decide +kernel)⟩
theorem lw_p113 : lw_okq (⟨"TurnHouseModel", "good", "()Z"⟩, 155) := ⟨⟨by decide +kernel, by decide +kernel⟩, List.mem_of_getElem? (i := 1712) (by decide +kernel), List.mem_of_getElem? (i := 2212) (by decide +kernel), List.mem_of_getElem? (i := 2213) (by decide +kernel)⟩
theorem lw_p114 : lw_okq (⟨"TurnHouseModel", "need", "(ZI)V"⟩, 155) := ⟨⟨by decide +kernel, by decide +kernel⟩, List.mem_of_getElem? (i := 1712) (by decide +kernel), List.mem_of_getElem? (i := 2222) (by decide +kernel), List.mem_of_getElem? (i := 2223) (by decide +kernel)⟩
theorem lw_p115 : lw_okq (⟨"TurnHouseModel", "fail", "(II)V"⟩, 155) := ⟨⟨by decide +kernel, by decide +kernel⟩, List.mem_of_getElem? (i := 1712) (by decide +kernel), List.mem_of_getElem? (i := 2226) (by decide +kernel), List.mem_of_getElem? (i := 2227) (by decide +kernel)⟩
theorem lw_p116 : lw_okq (⟨"TurnHouseModel", "byteAt", "(I)I"⟩, 155) := ⟨⟨by decide +kernel, by decide +kernel⟩, List.mem_of_getElem? (i := 1712) (by decide +kernel), List.mem_of_getElem? (i := 2230) (by decide +kernel), List.mem_of_getElem? (i := 2231) (by decide +kernel)⟩
theorem lw_p117 : lw_okq (⟨"TurnHouseModel", "isWord", "(J)Z"⟩, 155) := ⟨⟨by decide +kernel, by decide +kernel⟩, List.mem_of_getElem? (i := 1712) (by decide +kernel), List.mem_of_getElem? (i := 2236) (by decide +kernel), List.mem_of_getElem? (i := 2237) (by decide +kernel)⟩
theorem lw_p118 : lw_okq (⟨"TurnHouseModel", "readCell", "()V"⟩, 155) := ⟨⟨by decide +kernel, by decide +kernel⟩, List.mem_of_getElem? (i := 1712) (by decide +kernel), List.mem_of_getElem? (i := 2240) (by decide +kernel), List.mem_of_getElem? (i := 2241) (by decide +kernel)⟩
theorem lw_p119 : lw_okq (⟨"TurnHouseModel", "checkName", "(Z)V"⟩, 155) := ⟨⟨by decide +kernel, by decide +kernel⟩, List.mem_of_getElem? (i := 1712) (by decide +kernel), List.mem_of_getElem? (i := 2244) (by decide +kernel), List.mem_of_getElem? (i := 2245) (by decide +kernel)⟩
theorem lw_p120 : lw_okq (⟨"TurnHouseModel", "isName", "()Z"⟩, 155) := ⟨⟨by decide +kernel, by decide +kernel⟩, List.mem_of_getElem? (i := 1712) (by decide +kernel), List.mem_of_getElem? (i := 2248) (by decide +kernel), List.mem_of_getElem? (i := 2249) (by decide +kernel)⟩
theorem lw_p121 : lw_okq (⟨"TurnHouseModel", "isTold", "(J)Z"⟩, 155) := ⟨⟨by decide +kernel, by decide +kernel⟩, List.mem_of_getElem? (i := 1712) (by decide +kernel), List.mem_of_getElem? (i := 2319) (by decide +kernel), List.mem_of_getElem? (i := 2320) (by decide +kernel)⟩
theorem lw_p122 : lw_okq (⟨"TurnHouseModel", "cellOf", "(J)I"⟩, 155) := ⟨⟨by decide +kernel, by decide +kernel⟩, List.mem_of_getElem? (i := 1712) (by decide +kernel), List.mem_of_getElem? (i := 2323) (by decide +kernel), List.mem_of_getElem? (i := 2324) (by decide +kernel)⟩
theorem lw_p123 : lw_okq (⟨"TurnHouseModel", "lockOf", "(J)I"⟩, 155) := ⟨⟨by decide +kernel, by decide +kernel⟩, List.mem_of_getElem? (i := 1712) (by decide +kernel), List.mem_of_getElem? (i := 2327) (by decide +kernel), List.mem_of_getElem? (i := 2328) (by decide +kernel)⟩
theorem lw_p124 : lw_okq (⟨"TurnHouseModel", "threadOf", "(J)I"⟩, 155) := ⟨⟨by decide +kernel, by decide +kernel⟩, List.mem_of_getElem? (i := 1712) (by decide +kernel), List.mem_of_getElem? (i := 2331) (by decide +kernel), List.mem_of_getElem? (i := 2332) (by decide +kernel)⟩
theorem lw_p125 : lw_okq (⟨"TurnHouseModel", "isLocalOfSome", "()Z"⟩, 155) := ⟨⟨by decide +kernel, by decide +kernel⟩, List.mem_of_getElem? (i := 1712) (by decide +kernel), List.mem_of_getElem? (i := 2335) (by decide +kernel), List.mem_of_getElem? (i := 2336) (by decide +kernel)⟩
theorem lw_p126 : lw_okq (⟨"TurnHouseModel", "localOf", "(IJ)I"⟩, 155) := ⟨⟨by decide +kernel, by decide +kernel⟩, List.mem_of_getElem? (i := 1712) (by decide +kernel), List.mem_of_getElem? (i := 2339) (by decide +kernel), List.mem_of_getElem? (i := 2340) (by decide +kernel)⟩
theorem lw_p127 : lw_okq (⟨"TurnHouseModel", "must", "(I)V"⟩, 155) := ⟨⟨by decide +kernel, by decide +kernel⟩, List.mem_of_getElem? (i := 1712) (by decide +kernel), List.mem_of_getElem? (i := 2343) (by decide +kernel), List.mem_of_getElem? (i := 2344) (by decide +kernel)⟩
def lw_privs_8 : List (MethodName × Nat) := [(⟨"TurnHouseModel", "next", "()V"⟩, 155), (⟨"TurnHouseModel", "good", "()Z"⟩, 155), (⟨"TurnHouseModel", "need", "(ZI)V"⟩, 155), (⟨"TurnHouseModel", "fail", "(II)V"⟩, 155), (⟨"TurnHouseModel", "byteAt", "(I)I"⟩, 155), (⟨"TurnHouseModel", "isWord", "(J)Z"⟩, 155), (⟨"TurnHouseModel", "readCell", "()V"⟩, 155), (⟨"TurnHouseModel", "checkName", "(Z)V"⟩, 155), (⟨"TurnHouseModel", "isName", "()Z"⟩, 155), (⟨"TurnHouseModel", "isTold", "(J)Z"⟩, 155), (⟨"TurnHouseModel", "cellOf", "(J)I"⟩, 155), (⟨"TurnHouseModel", "lockOf", "(J)I"⟩, 155), (⟨"TurnHouseModel", "threadOf", "(J)I"⟩, 155), (⟨"TurnHouseModel", "isLocalOfSome", "()Z"⟩, 155), (⟨"TurnHouseModel", "localOf", "(IJ)I"⟩, 155), (⟨"TurnHouseModel", "must", "(I)V"⟩, 155)]
theorem lw_r8 : ∀ q ∈ lw_privs_8, lw_okq q := List.forall_mem_cons.mpr ⟨lw_p112, List.forall_mem_cons.mpr ⟨lw_p113, List.forall_mem_cons.mpr ⟨lw_p114, List.forall_mem_cons.mpr ⟨lw_p115, List.forall_mem_cons.mpr ⟨lw_p116, List.forall_mem_cons.mpr ⟨lw_p117, List.forall_mem_cons.mpr ⟨lw_p118, List.forall_mem_cons.mpr ⟨lw_p119, List.forall_mem_cons.mpr ⟨lw_p120, List.forall_mem_cons.mpr ⟨lw_p121, List.forall_mem_cons.mpr ⟨lw_p122, List.forall_mem_cons.mpr ⟨lw_p123, List.forall_mem_cons.mpr ⟨lw_p124, List.forall_mem_cons.mpr ⟨lw_p125, List.forall_mem_cons.mpr ⟨lw_p126, List.forall_mem_cons.mpr ⟨lw_p127, fun _ h => absurd h List.not_mem_nil⟩⟩⟩⟩⟩⟩⟩⟩⟩⟩⟩⟩⟩⟩⟩⟩
theorem lw_p128 : lw_okq (⟨"TurnHouseModel", "readThread", "()V"⟩, 155) := ⟨⟨by decide +kernel, by decide +kernel⟩, List.mem_of_getElem? (i := 1712) (by decide +kernel), List.mem_of_getElem? (i := 2347) (by decide +kernel), List.mem_of_getElem? (i := 2348) (by decide +kernel)⟩
theorem lw_p129 : lw_okq (⟨"TurnHouseModel", "openBlock", "(II)V"⟩, 155) := ⟨⟨by decide +kernel, by decide +kernel⟩, List.mem_of_getElem? (i := 1712) (by decide +kernel), List.mem_of_getElem? (i := 2351) (by decide +kernel), List.mem_of_getElem? (i := 2352) (by decide +kernel)⟩
theorem lw_p130 : lw_okq (⟨"TurnHouseModel", "readBlocks", "()V"⟩, 155) := ⟨⟨by decide +kernel, by decide +kernel⟩, List.mem_of_getElem? (i := 1712) (by decide +kernel), List.mem_of_getElem? (i := 2355) (by decide +kernel), List.mem_of_getElem? (i := 2356) (by decide +kernel)⟩
theorem lw_p131 : lw_okq (⟨"TurnHouseModel", "readStatement", "()V"⟩, 155) := ⟨⟨by decide +kernel, by decide +kernel⟩, List.mem_of_getElem? (i := 1712) (by decide +kernel), List.mem_of_getElem? (i := 2359) (by decide +kernel), List.mem_of_getElem? (i := 2360) (by decide +kernel)⟩
theorem lw_p132 : lw_okq (⟨"TurnHouseModel", "keywordAtHand", "()I"⟩, 155) := ⟨⟨by decide +kernel, by decide +kernel⟩, List.mem_of_getElem? (i := 1712) (by decide +kernel), List.mem_of_getElem? (i := 2363) (by decide +kernel), List.mem_of_getElem? (i := 2364) (by decide +kernel)⟩
theorem lw_p133 : lw_okq (⟨"TurnHouseModel", "readAssignment", "()V"⟩, 155) := ⟨⟨by decide +kernel, by decide +kernel⟩, List.mem_of_getElem? (i := 1712) (by decide +kernel), List.mem_of_getElem? (i := 2367) (by decide +kernel), List.mem_of_getElem? (i := 2368) (by decide +kernel)⟩
theorem lw_p134 : lw_okq (⟨"TurnHouseModel", "takeLocal", "()I"⟩, 155) := ⟨⟨by decide +kernel, by decide +kernel⟩, List.mem_of_getElem? (i := 1712) (by decide +kernel), List.mem_of_getElem? (i := 2371) (by decide +kernel), List.mem_of_getElem? (i := 2372) (by decide +kernel)⟩
theorem lw_p135 : lw_okq (⟨"TurnHouseModel", "newLine", "(I)I"⟩, 155) := ⟨⟨by decide +kernel, by decide +kernel⟩, List.mem_of_getElem? (i := 1712) (by decide +kernel), List.mem_of_getElem? (i := 2375) (by decide +kernel), List.mem_of_getElem? (i := 2376) (by decide +kernel)⟩
theorem lw_p136 : lw_okq (⟨"TurnHouseModel", "takeExpGood", "(I)V"⟩, 155) := ⟨⟨by decide +kernel, by decide +kernel⟩, List.mem_of_getElem? (i := 1712) (by decide +kernel), List.mem_of_getElem? (i := 2379) (by decide +kernel), List.mem_of_getElem? (i := 2380) (by decide +kernel)⟩
theorem lw_p137 : lw_okq (⟨"TurnHouseModel", "takeExp", "(I)V"⟩, 155) := ⟨⟨by decide +kernel, by decide +kernel⟩, List.mem_of_getElem? (i := 1712) (by decide +kernel), List.mem_of_getElem? (i := 2383) (by decide +kernel), List.mem_of_getElem? (i := 2384) (by decide +kernel)⟩
theorem lw_p138 : lw_okq (⟨"TurnHouseModel", "readExp", "()I"⟩, 155) := ⟨⟨by decide +kernel, by decide +kernel⟩, List.mem_of_getElem? (i := 1712) (by decide +kernel), List.mem_of_getElem? (i := 2387) (by decide +kernel), List.mem_of_getElem? (i := 2388) (by decide +kernel)⟩
theorem lw_p139 : lw_okq (⟨"TurnHouseModel", "isFactWord", "()Z"⟩, 155) := ⟨⟨by decide +kernel, by decide +kernel⟩, List.mem_of_getElem? (i := 1712) (by decide +kernel), List.mem_of_getElem? (i := 2391) (by decide +kernel), List.mem_of_getElem? (i := 2392) (by decide +kernel)⟩
theorem lw_p140 : lw_okq (⟨"TurnHouseModel", "checkWord", "()V"⟩, 155) := ⟨⟨by decide +kernel, by decide +kernel⟩, List.mem_of_getElem? (i := 1712) (by decide +kernel), List.mem_of_getElem? (i := 2395) (by decide +kernel), List.mem_of_getElem? (i := 2396) (by decide +kernel)⟩
theorem lw_p141 : lw_okq (⟨"TurnHouseModel", "countNode", "()V"⟩, 155) := ⟨⟨by decide +kernel, by decide +kernel⟩, List.mem_of_getElem? (i := 1712) (by decide +kernel), List.mem_of_getElem? (i := 2399) (by decide +kernel), List.mem_of_getElem? (i := 2400) (by decide +kernel)⟩
theorem lw_p142 : lw_okq (⟨"TurnHouseModel", "takeOperand", "()V"⟩, 155) := ⟨⟨by decide +kernel, by decide +kernel⟩, List.mem_of_getElem? (i := 1712) (by decide +kernel), List.mem_of_getElem? (i := 2403) (by decide +kernel), List.mem_of_getElem? (i := 2404) (by decide +kernel)⟩
theorem lw_p143 : lw_okq (⟨"TurnHouseModel", "emit", "(II)V"⟩, 155) := ⟨⟨by decide +kernel, by decide +kernel⟩, List.mem_of_getElem? (i := 1712) (by decide +kernel), List.mem_of_getElem? (i := 2407) (by decide +kernel), List.mem_of_getElem? (i := 2408) (by decide +kernel)⟩
def lw_privs_9 : List (MethodName × Nat) := [(⟨"TurnHouseModel", "readThread", "()V"⟩, 155), (⟨"TurnHouseModel", "openBlock", "(II)V"⟩, 155), (⟨"TurnHouseModel", "readBlocks", "()V"⟩, 155), (⟨"TurnHouseModel", "readStatement", "()V"⟩, 155), (⟨"TurnHouseModel", "keywordAtHand", "()I"⟩, 155), (⟨"TurnHouseModel", "readAssignment", "()V"⟩, 155), (⟨"TurnHouseModel", "takeLocal", "()I"⟩, 155), (⟨"TurnHouseModel", "newLine", "(I)I"⟩, 155), (⟨"TurnHouseModel", "takeExpGood", "(I)V"⟩, 155), (⟨"TurnHouseModel", "takeExp", "(I)V"⟩, 155), (⟨"TurnHouseModel", "readExp", "()I"⟩, 155), (⟨"TurnHouseModel", "isFactWord", "()Z"⟩, 155), (⟨"TurnHouseModel", "checkWord", "()V"⟩, 155), (⟨"TurnHouseModel", "countNode", "()V"⟩, 155), (⟨"TurnHouseModel", "takeOperand", "()V"⟩, 155), (⟨"TurnHouseModel", "emit", "(II)V"⟩, 155)]
theorem lw_r9 : ∀ q ∈ lw_privs_9, lw_okq q := List.forall_mem_cons.mpr ⟨lw_p128, List.forall_mem_cons.mpr ⟨lw_p129, List.forall_mem_cons.mpr ⟨lw_p130, List.forall_mem_cons.mpr ⟨lw_p131, List.forall_mem_cons.mpr ⟨lw_p132, List.forall_mem_cons.mpr ⟨lw_p133, List.forall_mem_cons.mpr ⟨lw_p134, List.forall_mem_cons.mpr ⟨lw_p135, List.forall_mem_cons.mpr ⟨lw_p136, List.forall_mem_cons.mpr ⟨lw_p137, List.forall_mem_cons.mpr ⟨lw_p138, List.forall_mem_cons.mpr ⟨lw_p139, List.forall_mem_cons.mpr ⟨lw_p140, List.forall_mem_cons.mpr ⟨lw_p141, List.forall_mem_cons.mpr ⟨lw_p142, List.forall_mem_cons.mpr ⟨lw_p143, fun _ h => absurd h List.not_mem_nil⟩⟩⟩⟩⟩⟩⟩⟩⟩⟩⟩⟩⟩⟩⟩⟩
theorem lw_p144 : lw_okq (⟨"TurnHouseModel", "takeFact", "()V"⟩, 155) := ⟨⟨by decide +kernel, by decide +kernel⟩, List.mem_of_getElem? (i := 1712) (by decide +kernel), List.mem_of_getElem? (i := 2411) (by decide +kernel), List.mem_of_getElem? (i := 2412) (by decide +kernel)⟩
theorem lw_p145 : lw_okq (⟨"TurnHouseModel", "endPrefixes", "()I"⟩, 155) := ⟨⟨by decide +kernel, by decide +kernel⟩, List.mem_of_getElem? (i := 1712) (by decide +kernel), List.mem_of_getElem? (i := 2415) (by decide +kernel), List.mem_of_getElem? (i := 2416) (by decide +kernel)⟩
theorem lw_p146 : lw_okq (⟨"TurnHouseModel", "settle", "(I)V"⟩, 155) := ⟨⟨by decide +kernel, by decide +kernel⟩, List.mem_of_getElem? (i := 1712) (by decide +kernel), List.mem_of_getElem? (i := 2419) (by decide +kernel), List.mem_of_getElem? (i := 2420) (by decide +kernel)⟩
theorem lw_p147 : lw_okq (⟨"TurnHouseModel", "operatorAtHand", "()I"⟩, 155) := ⟨⟨by decide +kernel, by decide +kernel⟩, List.mem_of_getElem? (i := 1712) (by decide +kernel), List.mem_of_getElem? (i := 2426) (by decide +kernel), List.mem_of_getElem? (i := 2427) (by decide +kernel)⟩
theorem lw_p148 : lw_okq (⟨"TurnHouseModel", "readRest", "(II)V"⟩, 155) := ⟨⟨by decide +kernel, by decide +kernel⟩, List.mem_of_getElem? (i := 1712) (by decide +kernel), List.mem_of_getElem? (i := 2433) (by decide +kernel), List.mem_of_getElem? (i := 2434) (by decide +kernel)⟩
theorem lw_p149 : lw_okq (⟨"TurnHouseModel", "takeCell", "(I)V"⟩, 155) := ⟨⟨by decide +kernel, by decide +kernel⟩, List.mem_of_getElem? (i := 1712) (by decide +kernel), List.mem_of_getElem? (i := 2437) (by decide +kernel), List.mem_of_getElem? (i := 2438) (by decide +kernel)⟩
theorem lw_p150 : lw_okq (⟨"TurnHouseModel", "takeInto", "(I)V"⟩, 155) := ⟨⟨by decide +kernel, by decide +kernel⟩, List.mem_of_getElem? (i := 1712) (by decide +kernel), List.mem_of_getElem? (i := 2441) (by decide +kernel), List.mem_of_getElem? (i := 2442) (by decide +kernel)⟩
theorem lw_p151 : lw_okq (⟨"TurnHouseModel", "endReading", "()V"⟩, 155) := ⟨⟨by decide +kernel, by decide +kernel⟩, List.mem_of_getElem? (i := 1712) (by decide +kernel), List.mem_of_getElem? (i := 2445) (by decide +kernel), List.mem_of_getElem? (i := 2446) (by decide +kernel)⟩
theorem lw_p152 : lw_okq (⟨"TurnHouseModel", "layFlow", "(I)V"⟩, 155) := ⟨⟨by decide +kernel, by decide +kernel⟩, List.mem_of_getElem? (i := 1712) (by decide +kernel), List.mem_of_getElem? (i := 2449) (by decide +kernel), List.mem_of_getElem? (i := 2450) (by decide +kernel)⟩
theorem lw_p153 : lw_okq (⟨"TurnHouseModel", "beginRun", "(II)V"⟩, 155) := ⟨⟨by decide +kernel, by decide +kernel⟩, List.mem_of_getElem? (i := 1712) (by decide +kernel), List.mem_of_getElem? (i := 2465) (by decide +kernel), List.mem_of_getElem? (i := 2466) (by decide +kernel)⟩
theorem lw_p154 : lw_okq (⟨"TurnHouseModel", "copyProgram", "(II)V"⟩, 155) := ⟨⟨by decide +kernel, by decide +kernel⟩, List.mem_of_getElem? (i := 1712) (by decide +kernel), List.mem_of_getElem? (i := 2469) (by decide +kernel), List.mem_of_getElem? (i := 2470) (by decide +kernel)⟩
theorem lw_p155 : lw_okq (⟨"TurnHouseModel", "firstState", "(II)V"⟩, 155) := ⟨⟨by decide +kernel, by decide +kernel⟩, List.mem_of_getElem? (i := 1712) (by decide +kernel), List.mem_of_getElem? (i := 2473) (by decide +kernel), List.mem_of_getElem? (i := 2474) (by decide +kernel)⟩
theorem lw_p156 : lw_okq (⟨"TurnHouseModel", "beginThread", "(I)V"⟩, 155) := ⟨⟨by decide +kernel, by decide +kernel⟩, List.mem_of_getElem? (i := 1712) (by decide +kernel), List.mem_of_getElem? (i := 2480) (by decide +kernel), List.mem_of_getElem? (i := 2481) (by decide +kernel)⟩
theorem lw_p157 : lw_okq (⟨"TurnHouseModel", "goTo", "(II)V"⟩, 155) := ⟨⟨by decide +kernel, by decide +kernel⟩, List.mem_of_getElem? (i := 1712) (by decide +kernel), List.mem_of_getElem? (i := 2484) (by decide +kernel), List.mem_of_getElem? (i := 2485) (by decide +kernel)⟩
theorem lw_p158 : lw_okq (⟨"TurnHouseModel", "keepRun", "()V"⟩, 155) := ⟨⟨by decide +kernel, by decide +kernel⟩, List.mem_of_getElem? (i := 1712) (by decide +kernel), List.mem_of_getElem? (i := 2488) (by decide +kernel), List.mem_of_getElem? (i := 2489) (by decide +kernel)⟩
theorem lw_p159 : lw_okq (⟨"TurnHouseModel", "readyNow", "()I"⟩, 155) := ⟨⟨by decide +kernel, by decide +kernel⟩, List.mem_of_getElem? (i := 1712) (by decide +kernel), List.mem_of_getElem? (i := 2492) (by decide +kernel), List.mem_of_getElem? (i := 2493) (by decide +kernel)⟩
def lw_privs_10 : List (MethodName × Nat) := [(⟨"TurnHouseModel", "takeFact", "()V"⟩, 155), (⟨"TurnHouseModel", "endPrefixes", "()I"⟩, 155), (⟨"TurnHouseModel", "settle", "(I)V"⟩, 155), (⟨"TurnHouseModel", "operatorAtHand", "()I"⟩, 155), (⟨"TurnHouseModel", "readRest", "(II)V"⟩, 155), (⟨"TurnHouseModel", "takeCell", "(I)V"⟩, 155), (⟨"TurnHouseModel", "takeInto", "(I)V"⟩, 155), (⟨"TurnHouseModel", "endReading", "()V"⟩, 155), (⟨"TurnHouseModel", "layFlow", "(I)V"⟩, 155), (⟨"TurnHouseModel", "beginRun", "(II)V"⟩, 155), (⟨"TurnHouseModel", "copyProgram", "(II)V"⟩, 155), (⟨"TurnHouseModel", "firstState", "(II)V"⟩, 155), (⟨"TurnHouseModel", "beginThread", "(I)V"⟩, 155), (⟨"TurnHouseModel", "goTo", "(II)V"⟩, 155), (⟨"TurnHouseModel", "keepRun", "()V"⟩, 155), (⟨"TurnHouseModel", "readyNow", "()I"⟩, 155)]
theorem lw_r10 : ∀ q ∈ lw_privs_10, lw_okq q := List.forall_mem_cons.mpr ⟨lw_p144, List.forall_mem_cons.mpr ⟨lw_p145, List.forall_mem_cons.mpr ⟨lw_p146, List.forall_mem_cons.mpr ⟨lw_p147, List.forall_mem_cons.mpr ⟨lw_p148, List.forall_mem_cons.mpr ⟨lw_p149, List.forall_mem_cons.mpr ⟨lw_p150, List.forall_mem_cons.mpr ⟨lw_p151, List.forall_mem_cons.mpr ⟨lw_p152, List.forall_mem_cons.mpr ⟨lw_p153, List.forall_mem_cons.mpr ⟨lw_p154, List.forall_mem_cons.mpr ⟨lw_p155, List.forall_mem_cons.mpr ⟨lw_p156, List.forall_mem_cons.mpr ⟨lw_p157, List.forall_mem_cons.mpr ⟨lw_p158, List.forall_mem_cons.mpr ⟨lw_p159, fun _ h => absurd h List.not_mem_nil⟩⟩⟩⟩⟩⟩⟩⟩⟩⟩⟩⟩⟩⟩⟩⟩
theorem lw_p160 : lw_okq (⟨"TurnHouseModel", "takeRun", "()V"⟩, 155) := ⟨⟨by decide +kernel, by decide +kernel⟩, List.mem_of_getElem? (i := 1712) (by decide +kernel), List.mem_of_getElem? (i := 2496) (by decide +kernel), List.mem_of_getElem? (i := 2497) (by decide +kernel)⟩
theorem lw_p161 : lw_okq (⟨"TurnHouseModel", "lookReady", "()V"⟩, 155) := ⟨⟨by decide +kernel, by decide +kernel⟩, List.mem_of_getElem? (i := 1712) (by decide +kernel), List.mem_of_getElem? (i := 2500) (by decide +kernel), List.mem_of_getElem? (i := 2501) (by decide +kernel)⟩
theorem lw_p162 : lw_okq (⟨"TurnHouseModel", "choices", "(I)I"⟩, 155) := ⟨⟨by decide +kernel, by decide +kernel⟩, List.mem_of_getElem? (i := 1712) (by decide +kernel), List.mem_of_getElem? (i := 2504) (by decide +kernel), List.mem_of_getElem? (i := 2505) (by decide +kernel)⟩
theorem lw_p163 : lw_okq (⟨"TurnHouseModel", "lineOf", "(I)I"⟩, 155) := ⟨⟨by decide +kernel, by decide +kernel⟩, List.mem_of_getElem? (i := 1712) (by decide +kernel), List.mem_of_getElem? (i := 2508) (by decide +kernel), List.mem_of_getElem? (i := 2509) (by decide +kernel)⟩
theorem lw_p164 : lw_okq (⟨"TurnHouseModel", "isEmpty", "(I)Z"⟩, 155) := ⟨⟨by decide +kernel, by decide +kernel⟩, List.mem_of_getElem? (i := 1712) (by decide +kernel), List.mem_of_getElem? (i := 2512) (by decide +kernel), List.mem_of_getElem? (i := 2513) (by decide +kernel)⟩
theorem lw_p165 : lw_okq (⟨"TurnHouseModel", "lastWrite", "(I)I"⟩, 155) := ⟨⟨by decide +kernel, by decide +kernel⟩, List.mem_of_getElem? (i := 1712) (by decide +kernel), List.mem_of_getElem? (i := 2516) (by decide +kernel), List.mem_of_getElem? (i := 2517) (by decide +kernel)⟩
theorem lw_p166 : lw_okq (⟨"TurnHouseModel", "wouldWrite", "(II)Z"⟩, 155) := ⟨⟨by decide +kernel, by decide +kernel⟩, List.mem_of_getElem? (i := 1712) (by decide +kernel), List.mem_of_getElem? (i := 2523) (by decide +kernel), List.mem_of_getElem? (i := 2524) (by decide +kernel)⟩
theorem lw_p167 : lw_okq (⟨"TurnHouseModel", "worked", "(III)I"⟩, 155) := ⟨⟨by decide +kernel, by decide +kernel⟩, List.mem_of_getElem? (i := 1712) (by decide +kernel), List.mem_of_getElem? (i := 2527) (by decide +kernel), List.mem_of_getElem? (i := 2528) (by decide +kernel)⟩
theorem lw_p168 : lw_okq (⟨"TurnHouseModel", "factOf", "(II)I"⟩, 155) := ⟨⟨by decide +kernel, by decide +kernel⟩, List.mem_of_getElem? (i := 1712) (by decide +kernel), List.mem_of_getElem? (i := 2537) (by decide +kernel), List.mem_of_getElem? (i := 2538) (by decide +kernel)⟩
theorem lw_p169 : lw_okq (⟨"TurnHouseModel", "waitingFor", "(I)I"⟩, 155) := ⟨⟨by decide +kernel, by decide +kernel⟩, List.mem_of_getElem? (i := 1712) (by decide +kernel), List.mem_of_getElem? (i := 2544) (by decide +kernel), List.mem_of_getElem? (i := 2545) (by decide +kernel)⟩
theorem lw_p170 : lw_okq (⟨"TurnHouseModel", "hasFlush", "(I)Z"⟩, 155) := ⟨⟨by decide +kernel, by decide +kernel⟩, List.mem_of_getElem? (i := 1712) (by decide +kernel), List.mem_of_getElem? (i := 2548) (by decide +kernel), List.mem_of_getElem? (i := 2549) (by decide +kernel)⟩
theorem lw_p171 : lw_okq (⟨"TurnHouseModel", "isReadyStep", "(II)Z"⟩, 155) := ⟨⟨by decide +kernel, by decide +kernel⟩, List.mem_of_getElem? (i := 1712) (by decide +kernel), List.mem_of_getElem? (i := 2560) (by decide +kernel), List.mem_of_getElem? (i := 2561) (by decide +kernel)⟩
theorem lw_p172 : lw_okq (⟨"TurnHouseModel", "stepRun", "(II)V"⟩, 155) := ⟨⟨by decide +kernel, by decide +kernel⟩, List.mem_of_getElem? (i := 1712) (by decide +kernel), List.mem_of_getElem? (i := 2564) (by decide +kernel), List.mem_of_getElem? (i := 2565) (by decide +kernel)⟩
theorem lw_p173 : lw_okq (⟨"TurnHouseModel", "doStep", "(II)V"⟩, 155) := ⟨⟨by decide +kernel, by decide +kernel⟩, List.mem_of_getElem? (i := 1712) (by decide +kernel), List.mem_of_getElem? (i := 2568) (by decide +kernel), List.mem_of_getElem? (i := 2569) (by decide +kernel)⟩
theorem lw_p174 : lw_okq (⟨"TurnHouseModel", "flush", "(I)V"⟩, 155) := ⟨⟨by decide +kernel, by decide +kernel⟩, List.mem_of_getElem? (i := 1712) (by decide +kernel), List.mem_of_getElem? (i := 2572) (by decide +kernel), List.mem_of_getElem? (i := 2573) (by decide +kernel)⟩
theorem lw_p175 : lw_okq (⟨"TurnHouseModel", "takeLock", "(III)V"⟩, 155) := ⟨⟨by decide +kernel, by decide +kernel⟩, List.mem_of_getElem? (i := 1712) (by decide +kernel), List.mem_of_getElem? (i := 2576) (by decide +kernel), List.mem_of_getElem? (i := 2577) (by decide +kernel)⟩
def lw_privs_11 : List (MethodName × Nat) := [(⟨"TurnHouseModel", "takeRun", "()V"⟩, 155), (⟨"TurnHouseModel", "lookReady", "()V"⟩, 155), (⟨"TurnHouseModel", "choices", "(I)I"⟩, 155), (⟨"TurnHouseModel", "lineOf", "(I)I"⟩, 155), (⟨"TurnHouseModel", "isEmpty", "(I)Z"⟩, 155), (⟨"TurnHouseModel", "lastWrite", "(I)I"⟩, 155), (⟨"TurnHouseModel", "wouldWrite", "(II)Z"⟩, 155), (⟨"TurnHouseModel", "worked", "(III)I"⟩, 155), (⟨"TurnHouseModel", "factOf", "(II)I"⟩, 155), (⟨"TurnHouseModel", "waitingFor", "(I)I"⟩, 155), (⟨"TurnHouseModel", "hasFlush", "(I)Z"⟩, 155), (⟨"TurnHouseModel", "isReadyStep", "(II)Z"⟩, 155), (⟨"TurnHouseModel", "stepRun", "(II)V"⟩, 155), (⟨"TurnHouseModel", "doStep", "(II)V"⟩, 155), (⟨"TurnHouseModel", "flush", "(I)V"⟩, 155), (⟨"TurnHouseModel", "takeLock", "(III)V"⟩, 155)]
theorem lw_r11 : ∀ q ∈ lw_privs_11, lw_okq q := List.forall_mem_cons.mpr ⟨lw_p160, List.forall_mem_cons.mpr ⟨lw_p161, List.forall_mem_cons.mpr ⟨lw_p162, List.forall_mem_cons.mpr ⟨lw_p163, List.forall_mem_cons.mpr ⟨lw_p164, List.forall_mem_cons.mpr ⟨lw_p165, List.forall_mem_cons.mpr ⟨lw_p166, List.forall_mem_cons.mpr ⟨lw_p167, List.forall_mem_cons.mpr ⟨lw_p168, List.forall_mem_cons.mpr ⟨lw_p169, List.forall_mem_cons.mpr ⟨lw_p170, List.forall_mem_cons.mpr ⟨lw_p171, List.forall_mem_cons.mpr ⟨lw_p172, List.forall_mem_cons.mpr ⟨lw_p173, List.forall_mem_cons.mpr ⟨lw_p174, List.forall_mem_cons.mpr ⟨lw_p175, fun _ h => absurd h List.not_mem_nil⟩⟩⟩⟩⟩⟩⟩⟩⟩⟩⟩⟩⟩⟩⟩⟩
theorem lw_p176 : lw_okq (⟨"TurnHouseModel", "joinView", "(II)V"⟩, 155) := ⟨⟨by decide +kernel, by decide +kernel⟩, List.mem_of_getElem? (i := 1712) (by decide +kernel), List.mem_of_getElem? (i := 2580) (by decide +kernel), List.mem_of_getElem? (i := 2581) (by decide +kernel)⟩
theorem lw_p177 : lw_okq (⟨"TurnHouseModel", "goWrong", "(II)V"⟩, 155) := ⟨⟨by decide +kernel, by decide +kernel⟩, List.mem_of_getElem? (i := 1712) (by decide +kernel), List.mem_of_getElem? (i := 2590) (by decide +kernel), List.mem_of_getElem? (i := 2591) (by decide +kernel)⟩
theorem lw_p178 : lw_okq (⟨"TurnHouseModel", "setLocal", "(III)V"⟩, 155) := ⟨⟨by decide +kernel, by decide +kernel⟩, List.mem_of_getElem? (i := 1712) (by decide +kernel), List.mem_of_getElem? (i := 2594) (by decide +kernel), List.mem_of_getElem? (i := 2595) (by decide +kernel)⟩
theorem lw_p179 : lw_okq (⟨"TurnHouseModel", "loaded", "(III)I"⟩, 155) := ⟨⟨by decide +kernel, by decide +kernel⟩, List.mem_of_getElem? (i := 1712) (by decide +kernel), List.mem_of_getElem? (i := 2598) (by decide +kernel), List.mem_of_getElem? (i := 2599) (by decide +kernel)⟩
theorem lw_p180 : lw_okq (⟨"TurnHouseModel", "seeLast", "(IIZ)I"⟩, 155) := ⟨⟨by decide +kernel, by decide +kernel⟩, List.mem_of_getElem? (i := 1712) (by decide +kernel), List.mem_of_getElem? (i := 2602) (by decide +kernel), List.mem_of_getElem? (i := 2603) (by decide +kernel)⟩
theorem lw_p181 : lw_okq (⟨"TurnHouseModel", "storeNow", "(III)V"⟩, 155) := ⟨⟨by decide +kernel, by decide +kernel⟩, List.mem_of_getElem? (i := 1712) (by decide +kernel), List.mem_of_getElem? (i := 2606) (by decide +kernel), List.mem_of_getElem? (i := 2607) (by decide +kernel)⟩
theorem lw_p182 : lw_okq (⟨"TurnHouseModel", "write", "(IIIZ)V"⟩, 155) := ⟨⟨by decide +kernel, by decide +kernel⟩, List.mem_of_getElem? (i := 1712) (by decide +kernel), List.mem_of_getElem? (i := 2610) (by decide +kernel), List.mem_of_getElem? (i := 2611) (by decide +kernel)⟩
theorem lw_p183 : lw_okq (⟨"TurnHouseModel", "atOnce", "(IIII)V"⟩, 155) := ⟨⟨by decide +kernel, by decide +kernel⟩, List.mem_of_getElem? (i := 1712) (by decide +kernel), List.mem_of_getElem? (i := 2614) (by decide +kernel), List.mem_of_getElem? (i := 2615) (by decide +kernel)⟩
theorem lw_p184 : lw_okq (⟨"TurnHouseModel", "beginOther", "(II)V"⟩, 155) := ⟨⟨by decide +kernel, by decide +kernel⟩, List.mem_of_getElem? (i := 1712) (by decide +kernel), List.mem_of_getElem? (i := 2618) (by decide +kernel), List.mem_of_getElem? (i := 2619) (by decide +kernel)⟩
theorem lw_p185 : lw_okq (⟨"TurnHouseModel", "doLock", "(III)V"⟩, 155) := ⟨⟨by decide +kernel, by decide +kernel⟩, List.mem_of_getElem? (i := 1712) (by decide +kernel), List.mem_of_getElem? (i := 2622) (by decide +kernel), List.mem_of_getElem? (i := 2623) (by decide +kernel)⟩
theorem lw_p186 : lw_okq (⟨"TurnHouseModel", "isThread", "(I)Z"⟩, 155) := ⟨⟨by decide +kernel, by decide +kernel⟩, List.mem_of_getElem? (i := 1712) (by decide +kernel), List.mem_of_getElem? (i := 2630) (by decide +kernel), List.mem_of_getElem? (i := 2631) (by decide +kernel)⟩
theorem lw_p187 : lw_okq (⟨"TurnHouseModel", "layBefore", "()V"⟩, 155) := ⟨⟨by decide +kernel, by decide +kernel⟩, List.mem_of_getElem? (i := 1712) (by decide +kernel), List.mem_of_getElem? (i := 2658) (by decide +kernel), List.mem_of_getElem? (i := 2659) (by decide +kernel)⟩
theorem lw_p188 : lw_okq (⟨"TurnHouseModel", "isDirect", "(II)Z"⟩, 155) := ⟨⟨by decide +kernel, by decide +kernel⟩, List.mem_of_getElem? (i := 1712) (by decide +kernel), List.mem_of_getElem? (i := 2662) (by decide +kernel), List.mem_of_getElem? (i := 2663) (by decide +kernel)⟩
theorem lw_p189 : lw_okq (⟨"TurnHouseModel", "layCalls", "(I)Z"⟩, 155) := ⟨⟨by decide +kernel, by decide +kernel⟩, List.mem_of_getElem? (i := 1712) (by decide +kernel), List.mem_of_getElem? (i := 2680) (by decide +kernel), List.mem_of_getElem? (i := 2681) (by decide +kernel)⟩
theorem lw_p190 : lw_okq (⟨"TurnHouseModel", "canBeNext", "(II)Z"⟩, 155) := ⟨⟨by decide +kernel, by decide +kernel⟩, List.mem_of_getElem? (i := 1712) (by decide +kernel), List.mem_of_getElem? (i := 2701) (by decide +kernel), List.mem_of_getElem? (i := 2702) (by decide +kernel)⟩
theorem lw_p191 : lw_okq (⟨"TurnHouseModel", "given", "(II)I"⟩, 155) := ⟨⟨by decide +kernel, by decide +kernel⟩, List.mem_of_getElem? (i := 1712) (by decide +kernel), List.mem_of_getElem? (i := 2705) (by decide +kernel), List.mem_of_getElem? (i := 2706) (by decide +kernel)⟩
def lw_privs_12 : List (MethodName × Nat) := [(⟨"TurnHouseModel", "joinView", "(II)V"⟩, 155), (⟨"TurnHouseModel", "goWrong", "(II)V"⟩, 155), (⟨"TurnHouseModel", "setLocal", "(III)V"⟩, 155), (⟨"TurnHouseModel", "loaded", "(III)I"⟩, 155), (⟨"TurnHouseModel", "seeLast", "(IIZ)I"⟩, 155), (⟨"TurnHouseModel", "storeNow", "(III)V"⟩, 155), (⟨"TurnHouseModel", "write", "(IIIZ)V"⟩, 155), (⟨"TurnHouseModel", "atOnce", "(IIII)V"⟩, 155), (⟨"TurnHouseModel", "beginOther", "(II)V"⟩, 155), (⟨"TurnHouseModel", "doLock", "(III)V"⟩, 155), (⟨"TurnHouseModel", "isThread", "(I)Z"⟩, 155), (⟨"TurnHouseModel", "layBefore", "()V"⟩, 155), (⟨"TurnHouseModel", "isDirect", "(II)Z"⟩, 155), (⟨"TurnHouseModel", "layCalls", "(I)Z"⟩, 155), (⟨"TurnHouseModel", "canBeNext", "(II)Z"⟩, 155), (⟨"TurnHouseModel", "given", "(II)I"⟩, 155)]
theorem lw_r12 : ∀ q ∈ lw_privs_12, lw_okq q := List.forall_mem_cons.mpr ⟨lw_p176, List.forall_mem_cons.mpr ⟨lw_p177, List.forall_mem_cons.mpr ⟨lw_p178, List.forall_mem_cons.mpr ⟨lw_p179, List.forall_mem_cons.mpr ⟨lw_p180, List.forall_mem_cons.mpr ⟨lw_p181, List.forall_mem_cons.mpr ⟨lw_p182, List.forall_mem_cons.mpr ⟨lw_p183, List.forall_mem_cons.mpr ⟨lw_p184, List.forall_mem_cons.mpr ⟨lw_p185, List.forall_mem_cons.mpr ⟨lw_p186, List.forall_mem_cons.mpr ⟨lw_p187, List.forall_mem_cons.mpr ⟨lw_p188, List.forall_mem_cons.mpr ⟨lw_p189, List.forall_mem_cons.mpr ⟨lw_p190, List.forall_mem_cons.mpr ⟨lw_p191, fun _ h => absurd h List.not_mem_nil⟩⟩⟩⟩⟩⟩⟩⟩⟩⟩⟩⟩⟩⟩⟩⟩
theorem lw_p192 : lw_okq (⟨"TurnHouseModel", "tryAll", "(IZ)I"⟩, 155) := ⟨⟨by decide +kernel, by decide +kernel⟩, List.mem_of_getElem? (i := 1712) (by decide +kernel), List.mem_of_getElem? (i := 2717) (by decide +kernel), List.mem_of_getElem? (i := 2718) (by decide +kernel)⟩
theorem lw_p193 : lw_okq (⟨"TurnHouseModel", "numberOf", "(IIZ)I"⟩, 155) := ⟨⟨by decide +kernel, by decide +kernel⟩, List.mem_of_getElem? (i := 1712) (by decide +kernel), List.mem_of_getElem? (i := 2721) (by decide +kernel), List.mem_of_getElem? (i := 2722) (by decide +kernel)⟩
theorem lw_p194 : lw_okq (⟨"TurnHouseModel", "hashOfState", "()I"⟩, 155) := ⟨⟨by decide +kernel, by decide +kernel⟩, List.mem_of_getElem? (i := 1712) (by decide +kernel), List.mem_of_getElem? (i := 2725) (by decide +kernel), List.mem_of_getElem? (i := 2726) (by decide +kernel)⟩
theorem lw_p195 : lw_okq (⟨"TurnHouseModel", "isStateAt", "(I)Z"⟩, 155) := ⟨⟨by decide +kernel, by decide +kernel⟩, List.mem_of_getElem? (i := 1712) (by decide +kernel), List.mem_of_getElem? (i := 2730) (by decide +kernel), List.mem_of_getElem? (i := 2731) (by decide +kernel)⟩
theorem lw_p196 : lw_okq (⟨"TurnHouseModel", "loadState", "(I)V"⟩, 155) := ⟨⟨by decide +kernel, by decide +kernel⟩, List.mem_of_getElem? (i := 1712) (by decide +kernel), List.mem_of_getElem? (i := 2735) (by decide +kernel), List.mem_of_getElem? (i := 2736) (by decide +kernel)⟩
theorem lw_p197 : lw_okq (⟨"TurnHouseModel", "findIn", "(I)V"⟩, 155) := ⟨⟨by decide +kernel, by decide +kernel⟩, List.mem_of_getElem? (i := 1712) (by decide +kernel), List.mem_of_getElem? (i := 2739) (by decide +kernel), List.mem_of_getElem? (i := 2740) (by decide +kernel)⟩
theorem lw_p198 : lw_okq (⟨"TurnHouseModel", "outcomeOf", "(I)I"⟩, 155) := ⟨⟨by decide +kernel, by decide +kernel⟩, List.mem_of_getElem? (i := 1712) (by decide +kernel), List.mem_of_getElem? (i := 2743) (by decide +kernel), List.mem_of_getElem? (i := 2744) (by decide +kernel)⟩
theorem lw_p199 : lw_okq (⟨"TurnHouseModel", "isOutcome", "(I)Z"⟩, 155) := ⟨⟨by decide +kernel, by decide +kernel⟩, List.mem_of_getElem? (i := 1712) (by decide +kernel), List.mem_of_getElem? (i := 2747) (by decide +kernel), List.mem_of_getElem? (i := 2748) (by decide +kernel)⟩
theorem lw_p200 : lw_okq (⟨"TurnHouseModel", "sortOfEnd", "()I"⟩, 155) := ⟨⟨by decide +kernel, by decide +kernel⟩, List.mem_of_getElem? (i := 1712) (by decide +kernel), List.mem_of_getElem? (i := 2751) (by decide +kernel), List.mem_of_getElem? (i := 2752) (by decide +kernel)⟩
theorem lw_p201 : lw_okq (⟨"TurnHouseModel", "quietThread", "()I"⟩, 155) := ⟨⟨by decide +kernel, by decide +kernel⟩, List.mem_of_getElem? (i := 1712) (by decide +kernel), List.mem_of_getElem? (i := 2755) (by decide +kernel), List.mem_of_getElem? (i := 2756) (by decide +kernel)⟩
theorem lw_p202 : lw_okq (⟨"TurnHouseModel", "isExploredOutcome", "(I)Z"⟩, 155) := ⟨⟨by decide +kernel, by decide +kernel⟩, List.mem_of_getElem? (i := 1712) (by decide +kernel), List.mem_of_getElem? (i := 2771) (by decide +kernel), List.mem_of_getElem? (i := 2772) (by decide +kernel)⟩
theorem lw_p203 : lw_okq (⟨"TurnHouseModel", "layWays", "()V"⟩, 155) := ⟨⟨by decide +kernel, by decide +kernel⟩, List.mem_of_getElem? (i := 1712) (by decide +kernel), List.mem_of_getElem? (i := 2775) (by decide +kernel), List.mem_of_getElem? (i := 2776) (by decide +kernel)⟩
theorem lw_p204 : lw_okq (⟨"TurnHouseModel", "widthExplored", "()I"⟩, 155) := ⟨⟨by decide +kernel, by decide +kernel⟩, List.mem_of_getElem? (i := 1712) (by decide +kernel), List.mem_of_getElem? (i := 2786) (by decide +kernel), List.mem_of_getElem? (i := 2787) (by decide +kernel)⟩
theorem lw_p205 : lw_okq (⟨"TurnHouseModel", "isState", "(I)Z"⟩, 155) := ⟨⟨by decide +kernel, by decide +kernel⟩, List.mem_of_getElem? (i := 1712) (by decide +kernel), List.mem_of_getElem? (i := 2798) (by decide +kernel), List.mem_of_getElem? (i := 2799) (by decide +kernel)⟩
theorem lw_p206 : lw_okq (⟨"TurnHouseModel", "layPath", "(I)V"⟩, 155) := ⟨⟨by decide +kernel, by decide +kernel⟩, List.mem_of_getElem? (i := 1712) (by decide +kernel), List.mem_of_getElem? (i := 2802) (by decide +kernel), List.mem_of_getElem? (i := 2803) (by decide +kernel)⟩
theorem lw_p207 : lw_okq (⟨"TurnHouseModel", "layOrder", "(I)V"⟩, 155) := ⟨⟨by decide +kernel, by decide +kernel⟩, List.mem_of_getElem? (i := 1712) (by decide +kernel), List.mem_of_getElem? (i := 2814) (by decide +kernel), List.mem_of_getElem? (i := 2815) (by decide +kernel)⟩
def lw_privs_13 : List (MethodName × Nat) := [(⟨"TurnHouseModel", "tryAll", "(IZ)I"⟩, 155), (⟨"TurnHouseModel", "numberOf", "(IIZ)I"⟩, 155), (⟨"TurnHouseModel", "hashOfState", "()I"⟩, 155), (⟨"TurnHouseModel", "isStateAt", "(I)Z"⟩, 155), (⟨"TurnHouseModel", "loadState", "(I)V"⟩, 155), (⟨"TurnHouseModel", "findIn", "(I)V"⟩, 155), (⟨"TurnHouseModel", "outcomeOf", "(I)I"⟩, 155), (⟨"TurnHouseModel", "isOutcome", "(I)Z"⟩, 155), (⟨"TurnHouseModel", "sortOfEnd", "()I"⟩, 155), (⟨"TurnHouseModel", "quietThread", "()I"⟩, 155), (⟨"TurnHouseModel", "isExploredOutcome", "(I)Z"⟩, 155), (⟨"TurnHouseModel", "layWays", "()V"⟩, 155), (⟨"TurnHouseModel", "widthExplored", "()I"⟩, 155), (⟨"TurnHouseModel", "isState", "(I)Z"⟩, 155), (⟨"TurnHouseModel", "layPath", "(I)V"⟩, 155), (⟨"TurnHouseModel", "layOrder", "(I)V"⟩, 155)]
theorem lw_r13 : ∀ q ∈ lw_privs_13, lw_okq q := List.forall_mem_cons.mpr ⟨lw_p192, List.forall_mem_cons.mpr ⟨lw_p193, List.forall_mem_cons.mpr ⟨lw_p194, List.forall_mem_cons.mpr ⟨lw_p195, List.forall_mem_cons.mpr ⟨lw_p196, List.forall_mem_cons.mpr ⟨lw_p197, List.forall_mem_cons.mpr ⟨lw_p198, List.forall_mem_cons.mpr ⟨lw_p199, List.forall_mem_cons.mpr ⟨lw_p200, List.forall_mem_cons.mpr ⟨lw_p201, List.forall_mem_cons.mpr ⟨lw_p202, List.forall_mem_cons.mpr ⟨lw_p203, List.forall_mem_cons.mpr ⟨lw_p204, List.forall_mem_cons.mpr ⟨lw_p205, List.forall_mem_cons.mpr ⟨lw_p206, List.forall_mem_cons.mpr ⟨lw_p207, fun _ h => absurd h List.not_mem_nil⟩⟩⟩⟩⟩⟩⟩⟩⟩⟩⟩⟩⟩⟩⟩⟩
theorem lw_p208 : lw_okq (⟨"TurnHouseModel", "endsWith", "(I)Z"⟩, 155) := ⟨⟨by decide +kernel, by decide +kernel⟩, List.mem_of_getElem? (i := 1712) (by decide +kernel), List.mem_of_getElem? (i := 2818) (by decide +kernel), List.mem_of_getElem? (i := 2819) (by decide +kernel)⟩
theorem lw_p209 : lw_okq (⟨"TurnHouseModel", "areCrossed", "()Z"⟩, 155) := ⟨⟨by decide +kernel, by decide +kernel⟩, List.mem_of_getElem? (i := 1712) (by decide +kernel), List.mem_of_getElem? (i := 2834) (by decide +kernel), List.mem_of_getElem? (i := 2835) (by decide +kernel)⟩
theorem lw_p210 : lw_okq (⟨"TurnHouseModel", "takeState", "(I)V"⟩, 155) := ⟨⟨by decide +kernel, by decide +kernel⟩, List.mem_of_getElem? (i := 1712) (by decide +kernel), List.mem_of_getElem? (i := 2838) (by decide +kernel), List.mem_of_getElem? (i := 2839) (by decide +kernel)⟩
theorem lw_p211 : lw_okq (⟨"TurnHouseModel", "leastInRing", "()I"⟩, 155) := ⟨⟨by decide +kernel, by decide +kernel⟩, List.mem_of_getElem? (i := 1712) (by decide +kernel), List.mem_of_getElem? (i := 2842) (by decide +kernel), List.mem_of_getElem? (i := 2843) (by decide +kernel)⟩
theorem lw_p212 : lw_okq (⟨"TurnHouseModel", "blockedBy", "(I)I"⟩, 155) := ⟨⟨by decide +kernel, by decide +kernel⟩, List.mem_of_getElem? (i := 1712) (by decide +kernel), List.mem_of_getElem? (i := 2846) (by decide +kernel), List.mem_of_getElem? (i := 2847) (by decide +kernel)⟩
theorem lw_p213 : lw_okq (⟨"TurnHouseModel", "isLostEnd", "()Z"⟩, 155) := ⟨⟨by decide +kernel, by decide +kernel⟩, List.mem_of_getElem? (i := 1712) (by decide +kernel), List.mem_of_getElem? (i := 2850) (by decide +kernel), List.mem_of_getElem? (i := 2851) (by decide +kernel)⟩
theorem lw_p214 : lw_okq (⟨"TurnHouseModel", "layFacts", "(IIZ)V"⟩, 155) := ⟨⟨by decide +kernel, by decide +kernel⟩, List.mem_of_getElem? (i := 1712) (by decide +kernel), List.mem_of_getElem? (i := 2862) (by decide +kernel), List.mem_of_getElem? (i := 2863) (by decide +kernel)⟩
theorem lw_p215 : lw_okq (⟨"TurnHouseModel", "leastWith", "(Z)I"⟩, 155) := ⟨⟨by decide +kernel, by decide +kernel⟩, List.mem_of_getElem? (i := 1712) (by decide +kernel), List.mem_of_getElem? (i := 2866) (by decide +kernel), List.mem_of_getElem? (i := 2867) (by decide +kernel)⟩
theorem lw_p216 : lw_okq (⟨"TurnHouseModel", "lookWays", "(ZZ)I"⟩, 155) := ⟨⟨by decide +kernel, by decide +kernel⟩, List.mem_of_getElem? (i := 1712) (by decide +kernel), List.mem_of_getElem? (i := 2870) (by decide +kernel), List.mem_of_getElem? (i := 2871) (by decide +kernel)⟩
theorem lw_p217 : lw_okq (⟨"TurnHouseModel", "layParts", "()V"⟩, 155) := ⟨⟨by decide +kernel, by decide +kernel⟩, List.mem_of_getElem? (i := 1712) (by decide +kernel), List.mem_of_getElem? (i := 2874) (by decide +kernel), List.mem_of_getElem? (i := 2875) (by decide +kernel)⟩
theorem lw_p218 : lw_okq (⟨"TurnHouseModel", "isLasting", "(IZ)Z"⟩, 155) := ⟨⟨by decide +kernel, by decide +kernel⟩, List.mem_of_getElem? (i := 1712) (by decide +kernel), List.mem_of_getElem? (i := 2878) (by decide +kernel), List.mem_of_getElem? (i := 2879) (by decide +kernel)⟩
theorem lw_p219 : lw_okq (⟨"TurnHouseModel", "exchange", "(I)Z"⟩, 155) := ⟨⟨by decide +kernel, by decide +kernel⟩, List.mem_of_getElem? (i := 1712) (by decide +kernel), List.mem_of_getElem? (i := 2890) (by decide +kernel), List.mem_of_getElem? (i := 2891) (by decide +kernel)⟩
theorem lw_p220 : lw_okq (⟨"TurnHouseModel", "lineBefore", "(I)I"⟩, 155) := ⟨⟨by decide +kernel, by decide +kernel⟩, List.mem_of_getElem? (i := 1712) (by decide +kernel), List.mem_of_getElem? (i := 2894) (by decide +kernel), List.mem_of_getElem? (i := 2895) (by decide +kernel)⟩
theorem lw_p221 : lw_okq (⟨"TurnHouseModel", "linkBehind", "(III)V"⟩, 155) := ⟨⟨by decide +kernel, by decide +kernel⟩, List.mem_of_getElem? (i := 1712) (by decide +kernel), List.mem_of_getElem? (i := 2898) (by decide +kernel), List.mem_of_getElem? (i := 2899) (by decide +kernel)⟩
theorem lw_p222 : lw_okq (⟨"TurnHouseModel", "leaveOut", "(I)Z"⟩, 155) := ⟨⟨by decide +kernel, by decide +kernel⟩, List.mem_of_getElem? (i := 1712) (by decide +kernel), List.mem_of_getElem? (i := 2902) (by decide +kernel), List.mem_of_getElem? (i := 2903) (by decide +kernel)⟩
theorem lw_p223 : lw_okq (⟨"TurnHouseModel", "copyLoad", "(I)Z"⟩, 155) := ⟨⟨by decide +kernel, by decide +kernel⟩, List.mem_of_getElem? (i := 1712) (by decide +kernel), List.mem_of_getElem? (i := 2906) (by decide +kernel), List.mem_of_getElem? (i := 2907) (by decide +kernel)⟩
def lw_privs_14 : List (MethodName × Nat) := [(⟨"TurnHouseModel", "endsWith", "(I)Z"⟩, 155), (⟨"TurnHouseModel", "areCrossed", "()Z"⟩, 155), (⟨"TurnHouseModel", "takeState", "(I)V"⟩, 155), (⟨"TurnHouseModel", "leastInRing", "()I"⟩, 155), (⟨"TurnHouseModel", "blockedBy", "(I)I"⟩, 155), (⟨"TurnHouseModel", "isLostEnd", "()Z"⟩, 155), (⟨"TurnHouseModel", "layFacts", "(IIZ)V"⟩, 155), (⟨"TurnHouseModel", "leastWith", "(Z)I"⟩, 155), (⟨"TurnHouseModel", "lookWays", "(ZZ)I"⟩, 155), (⟨"TurnHouseModel", "layParts", "()V"⟩, 155), (⟨"TurnHouseModel", "isLasting", "(IZ)Z"⟩, 155), (⟨"TurnHouseModel", "exchange", "(I)Z"⟩, 155), (⟨"TurnHouseModel", "lineBefore", "(I)I"⟩, 155), (⟨"TurnHouseModel", "linkBehind", "(III)V"⟩, 155), (⟨"TurnHouseModel", "leaveOut", "(I)Z"⟩, 155), (⟨"TurnHouseModel", "copyLoad", "(I)Z"⟩, 155)]
theorem lw_r14 : ∀ q ∈ lw_privs_14, lw_okq q := List.forall_mem_cons.mpr ⟨lw_p208, List.forall_mem_cons.mpr ⟨lw_p209, List.forall_mem_cons.mpr ⟨lw_p210, List.forall_mem_cons.mpr ⟨lw_p211, List.forall_mem_cons.mpr ⟨lw_p212, List.forall_mem_cons.mpr ⟨lw_p213, List.forall_mem_cons.mpr ⟨lw_p214, List.forall_mem_cons.mpr ⟨lw_p215, List.forall_mem_cons.mpr ⟨lw_p216, List.forall_mem_cons.mpr ⟨lw_p217, List.forall_mem_cons.mpr ⟨lw_p218, List.forall_mem_cons.mpr ⟨lw_p219, List.forall_mem_cons.mpr ⟨lw_p220, List.forall_mem_cons.mpr ⟨lw_p221, List.forall_mem_cons.mpr ⟨lw_p222, List.forall_mem_cons.mpr ⟨lw_p223, fun _ h => absurd h List.not_mem_nil⟩⟩⟩⟩⟩⟩⟩⟩⟩⟩⟩⟩⟩⟩⟩⟩
theorem lw_p224 : lw_okq (⟨"TurnHouseModel", "forgetOther", "()V"⟩, 155) := ⟨⟨by decide +kernel, by decide +kernel⟩, List.mem_of_getElem? (i := 1712) (by decide +kernel), List.mem_of_getElem? (i := 2910) (by decide +kernel), List.mem_of_getElem? (i := 2911) (by decide +kernel)⟩
theorem lw_p225 : lw_okq (⟨"TurnHouseModel", "wasThere", "(I)Z"⟩, 155) := ⟨⟨by decide +kernel, by decide +kernel⟩, List.mem_of_getElem? (i := 1712) (by decide +kernel), List.mem_of_getElem? (i := 2922) (by decide +kernel), List.mem_of_getElem? (i := 2923) (by decide +kernel)⟩
def lw_privs_15 : List (MethodName × Nat) := [(⟨"TurnHouseModel", "forgetOther", "()V"⟩, 155), (⟨"TurnHouseModel", "wasThere", "(I)Z"⟩, 155)]
theorem lw_r15 : ∀ q ∈ lw_privs_15, lw_okq q := List.forall_mem_cons.mpr ⟨lw_p224, List.forall_mem_cons.mpr ⟨lw_p225, fun _ h => absurd h List.not_mem_nil⟩⟩
def lw_privs : List (MethodName × Nat) := lw_privs_1 ++ (lw_privs_2 ++ (lw_privs_3 ++ (lw_privs_4 ++ (lw_privs_5 ++ (lw_privs_6 ++ (lw_privs_7 ++ (lw_privs_8 ++ (lw_privs_9 ++ (lw_privs_10 ++ (lw_privs_11 ++ (lw_privs_12 ++ (lw_privs_13 ++ (lw_privs_14 ++ (lw_privs_15))))))))))))))
def lw_tbl : List Cond := k2_sels lw_privs ++ tables_1
theorem lw_privs_ok : ∀ q ∈ lw_privs, lw_okq q := by
  show ∀ q ∈ lw_privs_1 ++ (lw_privs_2 ++ (lw_privs_3 ++ (lw_privs_4 ++ (lw_privs_5 ++ (lw_privs_6 ++ (lw_privs_7 ++ (lw_privs_8 ++ (lw_privs_9 ++ (lw_privs_10 ++ (lw_privs_11 ++ (lw_privs_12 ++ (lw_privs_13 ++ (lw_privs_14 ++ (lw_privs_15)))))))))))))), lw_okq q
  exact List.forall_mem_append.mpr ⟨lw_r1, List.forall_mem_append.mpr ⟨lw_r2, List.forall_mem_append.mpr ⟨lw_r3, List.forall_mem_append.mpr ⟨lw_r4, List.forall_mem_append.mpr ⟨lw_r5, List.forall_mem_append.mpr ⟨lw_r6, List.forall_mem_append.mpr ⟨lw_r7, List.forall_mem_append.mpr ⟨lw_r8, List.forall_mem_append.mpr ⟨lw_r9, List.forall_mem_append.mpr ⟨lw_r10, List.forall_mem_append.mpr ⟨lw_r11, List.forall_mem_append.mpr ⟨lw_r12, List.forall_mem_append.mpr ⟨lw_r13, List.forall_mem_append.mpr ⟨lw_r14, lw_r15⟩⟩⟩⟩⟩⟩⟩⟩⟩⟩⟩⟩⟩⟩
-- ===== end of PART A; names out of the printed list =====
def RX0 : String := "TurnHouse$Findings"
def TX0 : u_T := fun k => match k with
  | 0 => ("TurnHouse$Findings", "raceState", "[I", true)
  | 1 => ("TurnHouse$Findings", "guards", "[I", true)
  | 2 => ("TurnHouse$Findings", "orders", "[I", true)
  | 3 => ("TurnHouse$Findings", "ringing", "[I", true)
  | 4 => ("TurnHouse$Findings", "touching", "[I", true)
  | 5 => ("TurnHouse$Findings", "reached", "[I", true)
  | _ => ("TurnHouse$Findings", "raceCount", "I", false)
def tyX0 : Nat → FieldType := fun k => match k with
  | 0 => .array .int
  | 1 => .array .int
  | 2 => .array .int
  | 3 => .array .int
  | 4 => .array .int
  | 5 => .array .int
  | _ => .int
abbrev wsX00 : List Cond := u_ws RX0 TX0 7
theorem nmX0 : ∀ a, a < 7 → ∀ b, b < 7 → a ≠ b → (TX0 a).2.1 ≠ (TX0 b).2.1 := by decide +kernel
theorem tyX0_ok : ∀ k, k < 7 → parseFieldDescriptor (TX0 k).2.2.1 = some (tyX0 k) := by decide +kernel
abbrev cX0_init : ByteArray := prog_2_method_1_code
def yX0_init : MethodName := ⟨RX0, "<init>", "()V"⟩
abbrev cX0_clear : ByteArray := prog_2_method_2_code
def yX0_clear : MethodName := ⟨RX0, "clear", "(LTurnHouse$Program;)V"⟩
abbrev cX0_see : ByteArray := prog_2_method_3_code
def yX0_see : MethodName := ⟨RX0, "see", "(LTurnHouse$Machine;I)V"⟩
abbrev cX0_noteRace : ByteArray := prog_2_method_4_code
def yX0_noteRace : MethodName := ⟨RX0, "noteRace", "(III)V"⟩
abbrev cX0_findRace : ByteArray := prog_2_method_5_code
def yX0_findRace : MethodName := ⟨RX0, "findRace", "(II)I"⟩
abbrev cX0_noteTaking : ByteArray := prog_2_method_6_code
def yX0_noteTaking : MethodName := ⟨RX0, "noteTaking", "(LTurnHouse$Machine;I)V"⟩
abbrev cX0_crossed : ByteArray := prog_2_method_7_code
def yX0_crossed : MethodName := ⟨RX0, "crossed", "()I"⟩
abbrev cX0_seeStuck : ByteArray := prog_2_method_8_code
def yX0_seeStuck : MethodName := ⟨RX0, "seeStuck", "(LTurnHouse$Machine;I)V"⟩
abbrev cX0_noteStuck : ByteArray := prog_2_method_9_code
def yX0_noteStuck : MethodName := ⟨RX0, "noteStuck", "(III)V"⟩
abbrev cX0_leastInRing : ByteArray := prog_2_method_10_code
def yX0_leastInRing : MethodName := ⟨RX0, "leastInRing", "(LTurnHouse$Machine;)I"⟩
def RX1 : String := "TurnHouse$History"
def TX1 : u_T := fun k => match k with
  | 0 => ("TurnHouse$History", "calls", "[[I", true)
  | 1 => ("TurnHouse$History", "content", "[[I", true)
  | 2 => ("TurnHouse$History", "contentSize", "[I", true)
  | 3 => ("TurnHouse$History", "open", "[I", true)
  | 4 => ("TurnHouse$History", "chosen", "[I", true)
  | 5 => ("TurnHouse$History", "told", "[I", true)
  | 6 => ("TurnHouse$History", "toldLength", "I", false)
  | 7 => ("TurnHouse$History", "length", "I", false)
  | 8 => ("TurnHouse$History", "callCount", "I", false)
  | 9 => ("TurnHouse$History", "repliedCalls", "I", false)
  | _ => ("TurnHouse$History", "structure", "I", false)
def tyX1 : Nat → FieldType := fun k => match k with
  | 0 => .array (.array .int)
  | 1 => .array (.array .int)
  | 2 => .array .int
  | 3 => .array .int
  | 4 => .array .int
  | 5 => .array .int
  | 6 => .int
  | 7 => .int
  | 8 => .int
  | 9 => .int
  | _ => .int
abbrev wsX10 : List Cond := u_ws RX1 TX1 11
theorem nmX1 : ∀ a, a < 11 → ∀ b, b < 11 → a ≠ b → (TX1 a).2.1 ≠ (TX1 b).2.1 := by decide +kernel
theorem tyX1_ok : ∀ k, k < 11 → parseFieldDescriptor (TX1 k).2.2.1 = some (tyX1 k) := by decide +kernel
abbrev cX1_init : ByteArray := prog_3_method_1_code
def yX1_init : MethodName := ⟨RX1, "<init>", "()V"⟩
abbrev cX1_arrange : ByteArray := prog_3_method_2_code
def yX1_arrange : MethodName := ⟨RX1, "arrange", "(LTurnHouse$Run;I)I"⟩
abbrev cX1_gather : ByteArray := prog_3_method_3_code
def yX1_gather : MethodName := ⟨RX1, "gather", "(LTurnHouse$Run;)Z"⟩
abbrev cX1_addCall : ByteArray := prog_3_method_4_code
def yX1_addCall : MethodName := ⟨RX1, "addCall", "(IIII)V"⟩
abbrev cX1_extend : ByteArray := prog_3_method_5_code
def yX1_extend : MethodName := ⟨RX1, "extend", "(II)Z"⟩
abbrev cX1_place : ByteArray := prog_3_method_6_code
def yX1_place : MethodName := ⟨RX1, "place", "(III)Z"⟩
abbrev cX1_mayBeNext : ByteArray := prog_3_method_7_code
def yX1_mayBeNext : MethodName := ⟨RX1, "mayBeNext", "(II)Z"⟩
abbrev cX1_perform : ByteArray := prog_3_method_8_code
def yX1_perform : MethodName := ⟨RX1, "perform", "(II)I"⟩
def RX2 : String := "TurnHouse$Judge"
def TX2 : u_T := fun k => match k with
  | 0 => ("TurnHouse$Judge", "turns", "LTurnHouse$Turns;", true)
  | 1 => ("TurnHouse$Judge", "nodes", "LTurnHouse$Nodes;", true)
  | 2 => ("TurnHouse$Judge", "flags", "[I", true)
  | 3 => ("TurnHouse$Judge", "number", "[I", true)
  | 4 => ("TurnHouse$Judge", "low", "[I", true)
  | 5 => ("TurnHouse$Judge", "group", "[I", true)
  | 6 => ("TurnHouse$Judge", "open", "[I", true)
  | 7 => ("TurnHouse$Judge", "trail", "[I", true)
  | 8 => ("TurnHouse$Judge", "next", "[I", true)
  | 9 => ("TurnHouse$Judge", "numbered", "I", false)
  | 10 => ("TurnHouse$Judge", "openCount", "I", false)
  | 11 => ("TurnHouse$Judge", "trailLength", "I", false)
  | 12 => ("TurnHouse$Judge", "groups", "I", false)
  | _ => ("TurnHouse$Judge", "shown", "I", false)
def tyX2 : Nat → FieldType := fun k => match k with
  | 0 => .object "TurnHouse$Turns"
  | 1 => .object "TurnHouse$Nodes"
  | 2 => .array .int
  | 3 => .array .int
  | 4 => .array .int
  | 5 => .array .int
  | 6 => .array .int
  | 7 => .array .int
  | 8 => .array .int
  | 9 => .int
  | 10 => .int
  | 11 => .int
  | 12 => .int
  | _ => .int
abbrev wsX20 : List Cond := u_ws RX2 TX2 14
theorem nmX2 : ∀ a, a < 14 → ∀ b, b < 14 → a ≠ b → (TX2 a).2.1 ≠ (TX2 b).2.1 := by decide +kernel
theorem tyX2_ok : ∀ k, k < 14 → parseFieldDescriptor (TX2 k).2.2.1 = some (tyX2 k) := by decide +kernel
abbrev cX2_init : ByteArray := prog_4_method_1_code
def yX2_init : MethodName := ⟨RX2, "<init>", "(LTurnHouse$Turns;LTurnHouse$Nodes;)V"⟩
abbrev cX2_holds : ByteArray := prog_4_method_2_code
def yX2_holds : MethodName := ⟨RX2, "holds", "(IZ[I)Z"⟩
abbrev cX2_flag : ByteArray := prog_4_method_3_code
def yX2_flag : MethodName := ⟨RX2, "flag", "([IZ)V"⟩
abbrev cX2_isTrue : ByteArray := prog_4_method_4_code
def yX2_isTrue : MethodName := ⟨RX2, "isTrue", "(II[I)Z"⟩
abbrev cX2_least : ByteArray := prog_4_method_5_code
def yX2_least : MethodName := ⟨RX2, "least", "(II)I"⟩
abbrev cX2_isWanted : ByteArray := prog_4_method_6_code
def yX2_isWanted : MethodName := ⟨RX2, "isWanted", "(I)Z"⟩
abbrev cX2_findReached : ByteArray := prog_4_method_7_code
def yX2_findReached : MethodName := ⟨RX2, "findReached", "()V"⟩
abbrev cX2_comeTo : ByteArray := prog_4_method_8_code
def yX2_comeTo : MethodName := ⟨RX2, "comeTo", "(I)V"⟩
abbrev cX2_findLacking : ByteArray := prog_4_method_9_code
def yX2_findLacking : MethodName := ⟨RX2, "findLacking", "(Z)V"⟩
abbrev cX2_enter : ByteArray := prog_4_method_10_code
def yX2_enter : MethodName := ⟨RX2, "enter", "(I)V"⟩
abbrev cX2_walkFrom : ByteArray := prog_4_method_11_code
def yX2_walkFrom : MethodName := ⟨RX2, "walkFrom", "(IZ)V"⟩
abbrev cX2_follow : ByteArray := prog_4_method_12_code
def yX2_follow : MethodName := ⟨RX2, "follow", "(II)V"⟩
abbrev cX2_close : ByteArray := prog_4_method_13_code
def yX2_close : MethodName := ⟨RX2, "close", "(IZ)V"⟩
def RX3 : String := "TurnHouse$Machine"
def TX3 : u_T := fun k => match k with
  | 0 => ("TurnHouse$Machine", "now", "[I", true)
  | 1 => ("TurnHouse$Machine", "kept", "[I", true)
  | 2 => ("TurnHouse$Machine", "ready", "[I", true)
  | 3 => ("TurnHouse$Machine", "readyCount", "I", false)
  | 4 => ("TurnHouse$Machine", "slots", "[I", true)
  | 5 => ("TurnHouse$Machine", "slotCount", "I", false)
  | 6 => ("TurnHouse$Machine", "outcomeSlotCount", "I", false)
  | 7 => ("TurnHouse$Machine", "program", "LTurnHouse$Program;", false)
  | 8 => ("TurnHouse$Machine", "way", "I", false)
  | 9 => ("TurnHouse$Machine", "line", "I", false)
  | 10 => ("TurnHouse$Machine", "act", "I", false)
  | 11 => ("TurnHouse$Machine", "told", "I", false)
  | _ => ("TurnHouse$Machine", "target", "I", false)
def tyX3 : Nat → FieldType := fun k => match k with
  | 0 => .array .int
  | 1 => .array .int
  | 2 => .array .int
  | 3 => .int
  | 4 => .array .int
  | 5 => .int
  | 6 => .int
  | 7 => .object "TurnHouse$Program"
  | 8 => .int
  | 9 => .int
  | 10 => .int
  | 11 => .int
  | _ => .int
abbrev wsX30 : List Cond := u_ws RX3 TX3 13
theorem nmX3 : ∀ a, a < 13 → ∀ b, b < 13 → a ≠ b → (TX3 a).2.1 ≠ (TX3 b).2.1 := by decide +kernel
theorem tyX3_ok : ∀ k, k < 13 → parseFieldDescriptor (TX3 k).2.2.1 = some (tyX3 k) := by decide +kernel
abbrev cX3_init : ByteArray := prog_5_method_1_code
def yX3_init : MethodName := ⟨RX3, "<init>", "()V"⟩
abbrev cX3_localSlot : ByteArray := prog_5_method_2_code
def yX3_localSlot : MethodName := ⟨RX3, "localSlot", "(II)I"⟩
abbrev cX3_enterFirst : ByteArray := prog_5_method_3_code
def yX3_enterFirst : MethodName := ⟨RX3, "enterFirst", "(LTurnHouse$Program;I)V"⟩
abbrev cX3_go : ByteArray := prog_5_method_4_code
def yX3_go : MethodName := ⟨RX3, "go", "(II)V"⟩
abbrev cX3_pickSlots : ByteArray := prog_5_method_5_code
def yX3_pickSlots : MethodName := ⟨RX3, "pickSlots", "()V"⟩
abbrev cX3_pick : ByteArray := prog_5_method_6_code
def yX3_pick : MethodName := ⟨RX3, "pick", "(II)V"⟩
abbrev cX3_makeEven : ByteArray := prog_5_method_7_code
def yX3_makeEven : MethodName := ⟨RX3, "makeEven", "()V"⟩
abbrev cX3_pack : ByteArray := prog_5_method_8_code
def yX3_pack : MethodName := ⟨RX3, "pack", "([J)V"⟩
abbrev cX3_unpack : ByteArray := prog_5_method_9_code
def yX3_unpack : MethodName := ⟨RX3, "unpack", "([JI)V"⟩
abbrev cX3_keep : ByteArray := prog_5_method_10_code
def yX3_keep : MethodName := ⟨RX3, "keep", "()V"⟩
abbrev cX3_comeBack : ByteArray := prog_5_method_11_code
def yX3_comeBack : MethodName := ⟨RX3, "comeBack", "()V"⟩
abbrev cX3_listReady : ByteArray := prog_5_method_12_code
def yX3_listReady : MethodName := ⟨RX3, "listReady", "()I"⟩
abbrev cX3_isReady : ByteArray := prog_5_method_13_code
def yX3_isReady : MethodName := ⟨RX3, "isReady", "(II)Z"⟩
abbrev cX3_choices : ByteArray := prog_5_method_14_code
def yX3_choices : MethodName := ⟨RX3, "choices", "(I)I"⟩
abbrev cX3_needsEmptyQueue : ByteArray := prog_5_method_15_code
def yX3_needsEmptyQueue : MethodName := ⟨RX3, "needsEmptyQueue", "(II)Z"⟩
abbrev cX3_hasRoom : ByteArray := prog_5_method_16_code
def yX3_hasRoom : MethodName := ⟨RX3, "hasRoom", "(III)Z"⟩
abbrev cX3_waitsFor : ByteArray := prog_5_method_17_code
def yX3_waitsFor : MethodName := ⟨RX3, "waitsFor", "(II)Z"⟩
abbrev cX3_waiters : ByteArray := prog_5_method_18_code
def yX3_waiters : MethodName := ⟨RX3, "waiters", "(I)I"⟩
abbrev cX3_sort : ByteArray := prog_5_method_19_code
def yX3_sort : MethodName := ⟨RX3, "sort", "()I"⟩
abbrev cX3_locksOf : ByteArray := prog_5_method_20_code
def yX3_locksOf : MethodName := ⟨RX3, "locksOf", "(I)I"⟩
abbrev cX3_lockAhead : ByteArray := prog_5_method_21_code
def yX3_lockAhead : MethodName := ⟨RX3, "lockAhead", "(I)I"⟩
abbrev cX3_take : ByteArray := prog_5_method_22_code
def yX3_take : MethodName := ⟨RX3, "take", "(II)V"⟩
abbrev cX3_workOut : ByteArray := prog_5_method_23_code
def yX3_workOut : MethodName := ⟨RX3, "workOut", "(I)I"⟩
abbrev cX3_setLocal : ByteArray := prog_5_method_24_code
def yX3_setLocal : MethodName := ⟨RX3, "setLocal", "(II)V"⟩
abbrev cX3_touch : ByteArray := prog_5_method_25_code
def yX3_touch : MethodName := ⟨RX3, "touch", "(III)I"⟩
abbrev cX3_swapIf : ByteArray := prog_5_method_26_code
def yX3_swapIf : MethodName := ⟨RX3, "swapIf", "(IIII)V"⟩
abbrev cX3_addTo : ByteArray := prog_5_method_27_code
def yX3_addTo : MethodName := ⟨RX3, "addTo", "(III)I"⟩
abbrev cX3_useLock : ByteArray := prog_5_method_28_code
def yX3_useLock : MethodName := ⟨RX3, "useLock", "(III)I"⟩
abbrev cX3_leave : ByteArray := prog_5_method_29_code
def yX3_leave : MethodName := ⟨RX3, "leave", "(II)V"⟩
abbrev cX3_wake : ByteArray := prog_5_method_30_code
def yX3_wake : MethodName := ⟨RX3, "wake", "(II)V"⟩
abbrev cX3_takeBack : ByteArray := prog_5_method_31_code
def yX3_takeBack : MethodName := ⟨RX3, "takeBack", "(II)V"⟩
abbrev cX3_meet : ByteArray := prog_5_method_32_code
def yX3_meet : MethodName := ⟨RX3, "meet", "(II)I"⟩
abbrev cX3_begins : ByteArray := prog_5_method_33_code
def yX3_begins : MethodName := ⟨RX3, "begins", "(II)I"⟩
abbrev cX3_tell : ByteArray := prog_5_method_34_code
def yX3_tell : MethodName := ⟨RX3, "tell", "()I"⟩
abbrev cX3_mayLoad : ByteArray := prog_5_method_35_code
def yX3_mayLoad : MethodName := ⟨RX3, "mayLoad", "(II)Z"⟩
abbrev cX3_loadable : ByteArray := prog_5_method_36_code
def yX3_loadable : MethodName := ⟨RX3, "loadable", "(II)I"⟩
abbrev cX3_store : ByteArray := prog_5_method_37_code
def yX3_store : MethodName := ⟨RX3, "store", "(III)V"⟩
abbrev cX3_flush : ByteArray := prog_5_method_38_code
def yX3_flush : MethodName := ⟨RX3, "flush", "(I)V"⟩
abbrev cX3_write : ByteArray := prog_5_method_39_code
def yX3_write : MethodName := ⟨RX3, "write", "(IIIZ)V"⟩
abbrev cX3_viewed : ByteArray := prog_5_method_40_code
def yX3_viewed : MethodName := ⟨RX3, "viewed", "(II)I"⟩
abbrev cX3_view : ByteArray := prog_5_method_41_code
def yX3_view : MethodName := ⟨RX3, "view", "(III)V"⟩
abbrev cX3_look : ByteArray := prog_5_method_42_code
def yX3_look : MethodName := ⟨RX3, "look", "(III)V"⟩
abbrev cX3_lookAtLast : ByteArray := prog_5_method_43_code
def yX3_lookAtLast : MethodName := ⟨RX3, "lookAtLast", "(II)V"⟩
abbrev cX3_learn : ByteArray := prog_5_method_44_code
def yX3_learn : MethodName := ⟨RX3, "learn", "(II)V"⟩
def RX4 : String := "TurnHouse$Nodes"
def TX4 : u_T := fun k => match k with
  | 0 => ("TurnHouse$Nodes", "operator", "[I", true)
  | 1 => ("TurnHouse$Nodes", "operand", "[I", true)
  | 2 => ("TurnHouse$Nodes", "stack", "[I", true)
  | 3 => ("TurnHouse$Nodes", "size", "I", false)
  | _ => ("TurnHouse$Nodes", "beyond", "Z", false)
def tyX4 : Nat → FieldType := fun k => match k with
  | 0 => .array .int
  | 1 => .array .int
  | 2 => .array .int
  | 3 => .int
  | _ => .boolean
abbrev wsX40 : List Cond := u_ws RX4 TX4 5
theorem nmX4 : ∀ a, a < 5 → ∀ b, b < 5 → a ≠ b → (TX4 a).2.1 ≠ (TX4 b).2.1 := by decide +kernel
theorem tyX4_ok : ∀ k, k < 5 → parseFieldDescriptor (TX4 k).2.2.1 = some (tyX4 k) := by decide +kernel
abbrev cX4_init : ByteArray := prog_6_method_1_code
def yX4_init : MethodName := ⟨RX4, "<init>", "(I)V"⟩
abbrev cX4_put : ByteArray := prog_6_method_2_code
def yX4_put : MethodName := ⟨RX4, "put", "(II)V"⟩
abbrev cX4_set : ByteArray := prog_6_method_3_code
def yX4_set : MethodName := ⟨RX4, "set", "(III)V"⟩
abbrev cX4_workOut : ByteArray := prog_6_method_4_code
def yX4_workOut : MethodName := ⟨RX4, "workOut", "(II[I)I"⟩
abbrev cX4_apply : ByteArray := prog_6_method_5_code
def yX4_apply : MethodName := ⟨RX4, "apply", "(III[I)I"⟩
def RX5 : String := "TurnHouse$Program"
def TX5 : u_T := fun k => match k with
  | 0 => ("TurnHouse$Program", "nodes", "LTurnHouse$Nodes;", true)
  | 1 => ("TurnHouse$Program", "names", "[J", true)
  | 2 => ("TurnHouse$Program", "locals", "[J", true)
  | 3 => ("TurnHouse$Program", "localCount", "[I", true)
  | 4 => ("TurnHouse$Program", "firstValue", "[I", true)
  | 5 => ("TurnHouse$Program", "head", "[I", true)
  | 6 => ("TurnHouse$Program", "at", "[[I", true)
  | 7 => ("TurnHouse$Program", "volatileCells", "I", false)
  | 8 => ("TurnHouse$Program", "laterThreads", "I", false)
  | 9 => ("TurnHouse$Program", "cellCount", "I", false)
  | 10 => ("TurnHouse$Program", "lockCount", "I", false)
  | 11 => ("TurnHouse$Program", "threadCount", "I", false)
  | 12 => ("TurnHouse$Program", "lineCount", "I", false)
  | _ => ("TurnHouse$Program", "nodeCount", "I", false)
def tyX5 : Nat → FieldType := fun k => match k with
  | 0 => .object "TurnHouse$Nodes"
  | 1 => .array .long
  | 2 => .array .long
  | 3 => .array .int
  | 4 => .array .int
  | 5 => .array .int
  | 6 => .array (.array .int)
  | 7 => .int
  | 8 => .int
  | 9 => .int
  | 10 => .int
  | 11 => .int
  | 12 => .int
  | _ => .int
abbrev wsX50 : List Cond := u_ws RX5 TX5 14
theorem nmX5 : ∀ a, a < 14 → ∀ b, b < 14 → a ≠ b → (TX5 a).2.1 ≠ (TX5 b).2.1 := by decide +kernel
theorem tyX5_ok : ∀ k, k < 14 → parseFieldDescriptor (TX5 k).2.2.1 = some (tyX5 k) := by decide +kernel
abbrev cX5_init : ByteArray := prog_7_method_1_code
def yX5_init : MethodName := ⟨RX5, "<init>", "(LTurnHouse$Nodes;)V"⟩
abbrev cX5_clear : ByteArray := prog_7_method_2_code
def yX5_clear : MethodName := ⟨RX5, "clear", "()V"⟩
abbrev cX5_copy : ByteArray := prog_7_method_3_code
def yX5_copy : MethodName := ⟨RX5, "copy", "(LTurnHouse$Program;)V"⟩
abbrev cX5_find : ByteArray := prog_7_method_4_code
def yX5_find : MethodName := ⟨RX5, "find", "([JIIJ)I"⟩
abbrev cX5_named : ByteArray := prog_7_method_5_code
def yX5_named : MethodName := ⟨RX5, "named", "(J)I"⟩
abbrev cX5_isCell : ByteArray := prog_7_method_6_code
def yX5_isCell : MethodName := ⟨RX5, "isCell", "(I)Z"⟩
abbrev cX5_isLock : ByteArray := prog_7_method_7_code
def yX5_isLock : MethodName := ⟨RX5, "isLock", "(I)Z"⟩
abbrev cX5_isThread : ByteArray := prog_7_method_8_code
def yX5_isThread : MethodName := ⟨RX5, "isThread", "(I)Z"⟩
abbrev cX5_localOf : ByteArray := prog_7_method_9_code
def yX5_localOf : MethodName := ⟨RX5, "localOf", "(IJ)I"⟩
abbrev cX5_isTold : ByteArray := prog_7_method_10_code
def yX5_isTold : MethodName := ⟨RX5, "isTold", "(J)Z"⟩
abbrev cX5_hasCell : ByteArray := prog_7_method_11_code
def yX5_hasCell : MethodName := ⟨RX5, "hasCell", "(I)Z"⟩
abbrev cX5_hasLock : ByteArray := prog_7_method_12_code
def yX5_hasLock : MethodName := ⟨RX5, "hasLock", "(I)Z"⟩
abbrev cX5_hasThread : ByteArray := prog_7_method_13_code
def yX5_hasThread : MethodName := ⟨RX5, "hasThread", "(I)Z"⟩
abbrev cX5_hasLocal : ByteArray := prog_7_method_14_code
def yX5_hasLocal : MethodName := ⟨RX5, "hasLocal", "(II)Z"⟩
abbrev cX5_isVolatile : ByteArray := prog_7_method_15_code
def yX5_isVolatile : MethodName := ⟨RX5, "isVolatile", "(I)Z"⟩
abbrev cX5_addCell : ByteArray := prog_7_method_16_code
def yX5_addCell : MethodName := ⟨RX5, "addCell", "(J)I"⟩
abbrev cX5_addLock : ByteArray := prog_7_method_17_code
def yX5_addLock : MethodName := ⟨RX5, "addLock", "(J)V"⟩
abbrev cX5_addThread : ByteArray := prog_7_method_18_code
def yX5_addThread : MethodName := ⟨RX5, "addThread", "(J)I"⟩
abbrev cX5_addLocal : ByteArray := prog_7_method_19_code
def yX5_addLocal : MethodName := ⟨RX5, "addLocal", "(IJ)I"⟩
abbrev cX5_addLine : ByteArray := prog_7_method_20_code
def yX5_addLine : MethodName := ⟨RX5, "addLine", "(IIII)I"⟩
abbrev cX5_link : ByteArray := prog_7_method_21_code
def yX5_link : MethodName := ⟨RX5, "link", "(II)V"⟩
abbrev cX5_layWays : ByteArray := prog_7_method_22_code
def yX5_layWays : MethodName := ⟨RX5, "layWays", "()V"⟩
abbrev cX5_behind : ByteArray := prog_7_method_23_code
def yX5_behind : MethodName := ⟨RX5, "behind", "(I)I"⟩
abbrev cX5_touches : ByteArray := prog_7_method_24_code
def yX5_touches : MethodName := ⟨RX5, "touches", "(I)Z"⟩
abbrev cX5_clash : ByteArray := prog_7_method_25_code
def yX5_clash : MethodName := ⟨RX5, "clash", "(II)Z"⟩
abbrev cX5_change : ByteArray := prog_7_method_26_code
def yX5_change : MethodName := ⟨RX5, "change", "(II)Z"⟩
abbrev cX5_ahead : ByteArray := prog_7_method_27_code
def yX5_ahead : MethodName := ⟨RX5, "ahead", "(I)I"⟩
abbrev cX5_swap : ByteArray := prog_7_method_28_code
def yX5_swap : MethodName := ⟨RX5, "swap", "(I)Z"⟩
abbrev cX5_leaveOut : ByteArray := prog_7_method_29_code
def yX5_leaveOut : MethodName := ⟨RX5, "leaveOut", "(I)Z"⟩
abbrev cX5_unlink : ByteArray := prog_7_method_30_code
def yX5_unlink : MethodName := ⟨RX5, "unlink", "(III)V"⟩
abbrev cX5_empty : ByteArray := prog_7_method_31_code
def yX5_empty : MethodName := ⟨RX5, "empty", "(I)V"⟩
abbrev cX5_reuse : ByteArray := prog_7_method_32_code
def yX5_reuse : MethodName := ⟨RX5, "reuse", "(I)Z"⟩
def RX6 : String := "TurnHouse$Reader"
def TX6 : u_T := fun k => match k with
  | 0 => ("TurnHouse$Reader", "tokens", "LTurnHouse$Tokens;", true)
  | 1 => ("TurnHouse$Reader", "program", "LTurnHouse$Program;", true)
  | 2 => ("TurnHouse$Reader", "lawNodes", "LTurnHouse$Nodes;", true)
  | 3 => ("TurnHouse$Reader", "callWords", "[J", true)
  | 4 => ("TurnHouse$Reader", "aimed", "[J", true)
  | 5 => ("TurnHouse$Reader", "aimedAt", "[I", true)
  | 6 => ("TurnHouse$Reader", "cuts", "[I", true)
  | 7 => ("TurnHouse$Reader", "nodes", "LTurnHouse$Nodes;", false)
  | 8 => ("TurnHouse$Reader", "ofLaw", "Z", false)
  | 9 => ("TurnHouse$Reader", "fair", "Z", false)
  | 10 => ("TurnHouse$Reader", "law", "I", false)
  | 11 => ("TurnHouse$Reader", "fault", "I", false)
  | 12 => ("TurnHouse$Reader", "place", "I", false)
  | 13 => ("TurnHouse$Reader", "counted", "I", false)
  | _ => ("TurnHouse$Reader", "thread", "I", false)
def tyX6 : Nat → FieldType := fun k => match k with
  | 0 => .object "TurnHouse$Tokens"
  | 1 => .object "TurnHouse$Program"
  | 2 => .object "TurnHouse$Nodes"
  | 3 => .array .long
  | 4 => .array .long
  | 5 => .array .int
  | 6 => .array .int
  | 7 => .object "TurnHouse$Nodes"
  | 8 => .boolean
  | 9 => .boolean
  | 10 => .int
  | 11 => .int
  | 12 => .int
  | 13 => .int
  | _ => .int
abbrev wsX60 : List Cond := u_ws RX6 TX6 15
theorem nmX6 : ∀ a, a < 15 → ∀ b, b < 15 → a ≠ b → (TX6 a).2.1 ≠ (TX6 b).2.1 := by decide +kernel
theorem tyX6_ok : ∀ k, k < 15 → parseFieldDescriptor (TX6 k).2.2.1 = some (tyX6 k) := by decide +kernel
abbrev cX6_init : ByteArray := prog_8_method_1_code
def yX6_init : MethodName := ⟨RX6, "<init>", "(LTurnHouse$Tokens;LTurnHouse$Program;LTurnHouse$Nodes;)V"⟩
abbrev cX6_open : ByteArray := prog_8_method_2_code
def yX6_open : MethodName := ⟨RX6, "open", "(LTurnHouse$Nodes;Z)V"⟩
abbrev cX6_blame : ByteArray := prog_8_method_3_code
def yX6_blame : MethodName := ⟨RX6, "blame", "(I)V"⟩
abbrev cX6_need : ByteArray := prog_8_method_4_code
def yX6_need : MethodName := ⟨RX6, "need", "(I)V"⟩
abbrev cX6_skip : ByteArray := prog_8_method_5_code
def yX6_skip : MethodName := ⟨RX6, "skip", "(I)Z"⟩
abbrev cX6_readProgram : ByteArray := prog_8_method_6_code
def yX6_readProgram : MethodName := ⟨RX6, "readProgram", "()V"⟩
abbrev cX6_isNewName : ByteArray := prog_8_method_7_code
def yX6_isNewName : MethodName := ⟨RX6, "isNewName", "(II)Z"⟩
abbrev cX6_readCell : ByteArray := prog_8_method_8_code
def yX6_readCell : MethodName := ⟨RX6, "readCell", "()V"⟩
abbrev cX6_readLock : ByteArray := prog_8_method_9_code
def yX6_readLock : MethodName := ⟨RX6, "readLock", "()V"⟩
abbrev cX6_readThread : ByteArray := prog_8_method_10_code
def yX6_readThread : MethodName := ⟨RX6, "readThread", "()V"⟩
abbrev cX6_readBlock : ByteArray := prog_8_method_11_code
def yX6_readBlock : MethodName := ⟨RX6, "readBlock", "(III)V"⟩
abbrev cX6_mayBegin : ByteArray := prog_8_method_12_code
def yX6_mayBegin : MethodName := ⟨RX6, "mayBegin", "()Z"⟩
abbrev cX6_readStatement : ByteArray := prog_8_method_13_code
def yX6_readStatement : MethodName := ⟨RX6, "readStatement", "(II)V"⟩
abbrev cX6_hasExp : ByteArray := prog_8_method_14_code
def yX6_hasExp : MethodName := ⟨RX6, "hasExp", "(I)Z"⟩
abbrev cX6_readTarget : ByteArray := prog_8_method_15_code
def yX6_readTarget : MethodName := ⟨RX6, "readTarget", "(I)I"⟩
abbrev cX6_readLocal : ByteArray := prog_8_method_16_code
def yX6_readLocal : MethodName := ⟨RX6, "readLocal", "(I)V"⟩
abbrev cX6_localHere : ByteArray := prog_8_method_17_code
def yX6_localHere : MethodName := ⟨RX6, "localHere", "()I"⟩
abbrev cX6_readObject : ByteArray := prog_8_method_18_code
def yX6_readObject : MethodName := ⟨RX6, "readObject", "(II)V"⟩
abbrev cX6_needName : ByteArray := prog_8_method_19_code
def yX6_needName : MethodName := ⟨RX6, "needName", "(IZI)V"⟩
abbrev cX6_readInto : ByteArray := prog_8_method_20_code
def yX6_readInto : MethodName := ⟨RX6, "readInto", "(I)V"⟩
abbrev cX6_aimThreads : ByteArray := prog_8_method_21_code
def yX6_aimThreads : MethodName := ⟨RX6, "aimThreads", "()V"⟩
abbrev cX6_levelOf : ByteArray := prog_8_method_22_code
def yX6_levelOf : MethodName := ⟨RX6, "levelOf", "(I)I"⟩
abbrev cX6_readLevel : ByteArray := prog_8_method_23_code
def yX6_readLevel : MethodName := ⟨RX6, "readLevel", "(II)V"⟩
abbrev cX6_readSide : ByteArray := prog_8_method_24_code
def yX6_readSide : MethodName := ⟨RX6, "readSide", "(II)V"⟩
abbrev cX6_countNode : ByteArray := prog_8_method_25_code
def yX6_countNode : MethodName := ⟨RX6, "countNode", "()Z"⟩
abbrev cX6_beginsOne : ByteArray := prog_8_method_26_code
def yX6_beginsOne : MethodName := ⟨RX6, "beginsOne", "(I)Z"⟩
abbrev cX6_isStray : ByteArray := prog_8_method_27_code
def yX6_isStray : MethodName := ⟨RX6, "isStray", "()Z"⟩
abbrev cX6_readOne : ByteArray := prog_8_method_28_code
def yX6_readOne : MethodName := ⟨RX6, "readOne", "(I)V"⟩
abbrev cX6_readNode : ByteArray := prog_8_method_29_code
def yX6_readNode : MethodName := ⟨RX6, "readNode", "(II)V"⟩
abbrev cX6_readLaw : ByteArray := prog_8_method_30_code
def yX6_readLaw : MethodName := ⟨RX6, "readLaw", "()V"⟩
abbrev cX6_readFact : ByteArray := prog_8_method_31_code
def yX6_readFact : MethodName := ⟨RX6, "readFact", "(I)V"⟩
abbrev cX6_readAsked : ByteArray := prog_8_method_32_code
def yX6_readAsked : MethodName := ⟨RX6, "readAsked", "(I)V"⟩
abbrev cX6_readCellOrLocal : ByteArray := prog_8_method_33_code
def yX6_readCellOrLocal : MethodName := ⟨RX6, "readCellOrLocal", "()V"⟩
def RX7 : String := "TurnHouse$Rows"
def TX7 : u_T := fun k => match k with
  | 0 => ("TurnHouse$Rows", "data", "[J", true)
  | 1 => ("TurnHouse$Rows", "start", "[I", true)
  | 2 => ("TurnHouse$Rows", "table", "[I", true)
  | 3 => ("TurnHouse$Rows", "size", "I", false)
  | 4 => ("TurnHouse$Rows", "width", "I", false)
  | _ => ("TurnHouse$Rows", "limit", "I", false)
def tyX7 : Nat → FieldType := fun k => match k with
  | 0 => .array .long
  | 1 => .array .int
  | 2 => .array .int
  | 3 => .int
  | 4 => .int
  | _ => .int
abbrev wsX70 : List Cond := u_ws RX7 TX7 6
theorem nmX7 : ∀ a, a < 6 → ∀ b, b < 6 → a ≠ b → (TX7 a).2.1 ≠ (TX7 b).2.1 := by decide +kernel
theorem tyX7_ok : ∀ k, k < 6 → parseFieldDescriptor (TX7 k).2.2.1 = some (tyX7 k) := by decide +kernel
abbrev cX7_init : ByteArray := prog_9_method_1_code
def yX7_init : MethodName := ⟨RX7, "<init>", "([JII)V"⟩
abbrev cX7_clear : ByteArray := prog_9_method_2_code
def yX7_clear : MethodName := ⟨RX7, "clear", "(II)V"⟩
abbrev cX7_placeOf : ByteArray := prog_9_method_3_code
def yX7_placeOf : MethodName := ⟨RX7, "placeOf", "([JI)I"⟩
abbrev cX7_isSame : ByteArray := prog_9_method_4_code
def yX7_isSame : MethodName := ⟨RX7, "isSame", "([JII)Z"⟩
abbrev cX7_numberOf : ByteArray := prog_9_method_5_code
def yX7_numberOf : MethodName := ⟨RX7, "numberOf", "([JI)I"⟩
abbrev cX7_put : ByteArray := prog_9_method_6_code
def yX7_put : MethodName := ⟨RX7, "put", "([JI)I"⟩
abbrev cX7_refer : ByteArray := prog_9_method_7_code
def yX7_refer : MethodName := ⟨RX7, "refer", "(I)I"⟩
abbrev cX7_name : ByteArray := prog_9_method_8_code
def yX7_name : MethodName := ⟨RX7, "name", "(II)V"⟩
def RX8 : String := "TurnHouse$Run"
def TX8 : u_T := fun k => match k with
  | 0 => ("TurnHouse$Run", "machine", "LTurnHouse$Machine;", true)
  | 1 => ("TurnHouse$Run", "at", "[[I", true)
  | 2 => ("TurnHouse$Run", "ahead", "[J", true)
  | 3 => ("TurnHouse$Run", "length", "I", false)
  | _ => ("TurnHouse$Run", "live", "Z", false)
def tyX8 : Nat → FieldType := fun k => match k with
  | 0 => .object "TurnHouse$Machine"
  | 1 => .array (.array .int)
  | 2 => .array .long
  | 3 => .int
  | _ => .boolean
abbrev wsX80 : List Cond := u_ws RX8 TX8 5
theorem nmX8 : ∀ a, a < 5 → ∀ b, b < 5 → a ≠ b → (TX8 a).2.1 ≠ (TX8 b).2.1 := by decide +kernel
theorem tyX8_ok : ∀ k, k < 5 → parseFieldDescriptor (TX8 k).2.2.1 = some (tyX8 k) := by decide +kernel
abbrev cX8_init : ByteArray := prog_10_method_1_code
def yX8_init : MethodName := ⟨RX8, "<init>", "()V"⟩
abbrev cX8_start : ByteArray := prog_10_method_2_code
def yX8_start : MethodName := ⟨RX8, "start", "(LTurnHouse$Program;I)V"⟩
abbrev cX8_take : ByteArray := prog_10_method_3_code
def yX8_take : MethodName := ⟨RX8, "take", "(II)V"⟩
abbrev cX8_putAhead : ByteArray := prog_10_method_4_code
def yX8_putAhead : MethodName := ⟨RX8, "putAhead", "(II)V"⟩
abbrev cX8_isAhead : ByteArray := prog_10_method_5_code
def yX8_isAhead : MethodName := ⟨RX8, "isAhead", "(II)Z"⟩
abbrev cX8_leadsTo : ByteArray := prog_10_method_6_code
def yX8_leadsTo : MethodName := ⟨RX8, "leadsTo", "(II)Z"⟩
abbrev cX8_tells : ByteArray := prog_10_method_7_code
def yX8_tells : MethodName := ⟨RX8, "tells", "(I)Z"⟩
abbrev cX8_hears : ByteArray := prog_10_method_8_code
def yX8_hears : MethodName := ⟨RX8, "hears", "(I)Z"⟩
abbrev cX8_touches : ByteArray := prog_10_method_9_code
def yX8_touches : MethodName := ⟨RX8, "touches", "(I)Z"⟩
abbrev cX8_findRace : ByteArray := prog_10_method_10_code
def yX8_findRace : MethodName := ⟨RX8, "findRace", "(II)I"⟩
def RX9 : String := "TurnHouse$Tokens"
def TX9 : u_T := fun k => match k with
  | 0 => ("TurnHouse$Tokens", "text", "[B", true)
  | 1 => ("TurnHouse$Tokens", "keys", "[J", true)
  | 2 => ("TurnHouse$Tokens", "kinds", "[I", true)
  | 3 => ("TurnHouse$Tokens", "starts", "[I", true)
  | 4 => ("TurnHouse$Tokens", "meanings", "[J", true)
  | 5 => ("TurnHouse$Tokens", "length", "I", false)
  | 6 => ("TurnHouse$Tokens", "tokenCount", "I", false)
  | 7 => ("TurnHouse$Tokens", "behind", "I", false)
  | 8 => ("TurnHouse$Tokens", "at", "I", false)
  | 9 => ("TurnHouse$Tokens", "kind", "I", false)
  | 10 => ("TurnHouse$Tokens", "start", "I", false)
  | _ => ("TurnHouse$Tokens", "meaning", "J", false)
def tyX9 : Nat → FieldType := fun k => match k with
  | 0 => .array .byte
  | 1 => .array .long
  | 2 => .array .int
  | 3 => .array .int
  | 4 => .array .long
  | 5 => .int
  | 6 => .int
  | 7 => .int
  | 8 => .int
  | 9 => .int
  | 10 => .int
  | _ => .long
abbrev wsX90 : List Cond := u_ws RX9 TX9 12
theorem nmX9 : ∀ a, a < 12 → ∀ b, b < 12 → a ≠ b → (TX9 a).2.1 ≠ (TX9 b).2.1 := by decide +kernel
theorem tyX9_ok : ∀ k, k < 12 → parseFieldDescriptor (TX9 k).2.2.1 = some (tyX9 k) := by decide +kernel
abbrev cX9_init : ByteArray := prog_11_method_1_code
def yX9_init : MethodName := ⟨RX9, "<init>", "()V"⟩
abbrev cX9_codes : ByteArray := prog_11_method_2_code
def yX9_codes : MethodName := ⟨RX9, "codes", "(Ljava/lang/String;I)[J"⟩
abbrev cX9_append : ByteArray := prog_11_method_3_code
def yX9_append : MethodName := ⟨RX9, "append", "(I)V"⟩
abbrev cX9_cut : ByteArray := prog_11_method_4_code
def yX9_cut : MethodName := ⟨RX9, "cut", "()V"⟩
abbrev cX9_advance : ByteArray := prog_11_method_5_code
def yX9_advance : MethodName := ⟨RX9, "advance", "()V"⟩
abbrev cX9_byteAt : ByteArray := prog_11_method_6_code
def yX9_byteAt : MethodName := ⟨RX9, "byteAt", "(I)I"⟩
abbrev cX9_isLetter : ByteArray := prog_11_method_7_code
def yX9_isLetter : MethodName := ⟨RX9, "isLetter", "(I)Z"⟩
abbrev cX9_isDigit : ByteArray := prog_11_method_8_code
def yX9_isDigit : MethodName := ⟨RX9, "isDigit", "(I)Z"⟩
abbrev cX9_skipBlanks : ByteArray := prog_11_method_9_code
def yX9_skipBlanks : MethodName := ⟨RX9, "skipBlanks", "()V"⟩
abbrev cX9_cutOne : ByteArray := prog_11_method_10_code
def yX9_cutOne : MethodName := ⟨RX9, "cutOne", "()V"⟩
abbrev cX9_cutWord : ByteArray := prog_11_method_11_code
def yX9_cutWord : MethodName := ⟨RX9, "cutWord", "()V"⟩
abbrev cX9_cutNumber : ByteArray := prog_11_method_12_code
def yX9_cutNumber : MethodName := ⟨RX9, "cutNumber", "()V"⟩
abbrev cX9_cutSign : ByteArray := prog_11_method_13_code
def yX9_cutSign : MethodName := ⟨RX9, "cutSign", "(I)V"⟩
def RX10 : String := "TurnHouse$Turns"
def TX10 : u_T := fun k => match k with
  | 0 => ("TurnHouse$Turns", "machine", "LTurnHouse$Machine;", true)
  | 1 => ("TurnHouse$Turns", "findings", "LTurnHouse$Findings;", true)
  | 2 => ("TurnHouse$Turns", "states", "LTurnHouse$Rows;", true)
  | 3 => ("TurnHouse$Turns", "outcomes", "LTurnHouse$Rows;", true)
  | 4 => ("TurnHouse$Turns", "edges", "[I", true)
  | 5 => ("TurnHouse$Turns", "found", "[I", true)
  | 6 => ("TurnHouse$Turns", "edgeStart", "[I", true)
  | 7 => ("TurnHouse$Turns", "mark", "[I", true)
  | 8 => ("TurnHouse$Turns", "row", "[J", true)
  | 9 => ("TurnHouse$Turns", "priority", "[I", true)
  | 10 => ("TurnHouse$Turns", "switches", "[I", true)
  | 11 => ("TurnHouse$Turns", "layer", "[I", true)
  | 12 => ("TurnHouse$Turns", "nextLayer", "[I", true)
  | 13 => ("TurnHouse$Turns", "edgeCount", "I", false)
  | 14 => ("TurnHouse$Turns", "endCount", "I", false)
  | 15 => ("TurnHouse$Turns", "layerSize", "I", false)
  | 16 => ("TurnHouse$Turns", "nextSize", "I", false)
  | 17 => ("TurnHouse$Turns", "done", "Z", false)
  | 18 => ("TurnHouse$Turns", "fewer", "Z", false)
  | _ => ("TurnHouse$Turns", "switchesCounted", "Z", false)
def tyX10 : Nat → FieldType := fun k => match k with
  | 0 => .object "TurnHouse$Machine"
  | 1 => .object "TurnHouse$Findings"
  | 2 => .object "TurnHouse$Rows"
  | 3 => .object "TurnHouse$Rows"
  | 4 => .array .int
  | 5 => .array .int
  | 6 => .array .int
  | 7 => .array .int
  | 8 => .array .long
  | 9 => .array .int
  | 10 => .array .int
  | 11 => .array .int
  | 12 => .array .int
  | 13 => .int
  | 14 => .int
  | 15 => .int
  | 16 => .int
  | 17 => .boolean
  | 18 => .boolean
  | _ => .boolean
abbrev wsX100 : List Cond := u_ws RX10 TX10 20
theorem nmX10 : ∀ a, a < 20 → ∀ b, b < 20 → a ≠ b → (TX10 a).2.1 ≠ (TX10 b).2.1 := by decide +kernel
theorem tyX10_ok : ∀ k, k < 20 → parseFieldDescriptor (TX10 k).2.2.1 = some (tyX10 k) := by decide +kernel
abbrev cX10_init : ByteArray := prog_12_method_1_code
def yX10_init : MethodName := ⟨RX10, "<init>", "()V"⟩
abbrev cX10_tryAll : ByteArray := prog_12_method_2_code
def yX10_tryAll : MethodName := ⟨RX10, "tryAll", "(LTurnHouse$Program;IZ)I"⟩
abbrev cX10_lookAround : ByteArray := prog_12_method_3_code
def yX10_lookAround : MethodName := ⟨RX10, "lookAround", "(I)I"⟩
abbrev cX10_quietStep : ByteArray := prog_12_method_4_code
def yX10_quietStep : MethodName := ⟨RX10, "quietStep", "()I"⟩
abbrev cX10_tryStep : ByteArray := prog_12_method_5_code
def yX10_tryStep : MethodName := ⟨RX10, "tryStep", "(II)Z"⟩
abbrev cX10_isWhile : ByteArray := prog_12_method_6_code
def yX10_isWhile : MethodName := ⟨RX10, "isWhile", "(I)Z"⟩
abbrev cX10_noteEnd : ByteArray := prog_12_method_7_code
def yX10_noteEnd : MethodName := ⟨RX10, "noteEnd", "(I)V"⟩
abbrev cX10_hasState : ByteArray := prog_12_method_8_code
def yX10_hasState : MethodName := ⟨RX10, "hasState", "(I)Z"⟩
abbrev cX10_hasOutcome : ByteArray := prog_12_method_9_code
def yX10_hasOutcome : MethodName := ⟨RX10, "hasOutcome", "(I)Z"⟩
abbrev cX10_stateOfOutcome : ByteArray := prog_12_method_10_code
def yX10_stateOfOutcome : MethodName := ⟨RX10, "stateOfOutcome", "(I)I"⟩
abbrev cX10_slotOfOutcome : ByteArray := prog_12_method_11_code
def yX10_slotOfOutcome : MethodName := ⟨RX10, "slotOfOutcome", "(II)I"⟩
abbrev cX10_stateOf : ByteArray := prog_12_method_12_code
def yX10_stateOf : MethodName := ⟨RX10, "stateOf", "(I)I"⟩
abbrev cX10_threadOf : ByteArray := prog_12_method_13_code
def yX10_threadOf : MethodName := ⟨RX10, "threadOf", "(I)I"⟩
abbrev cX10_readyThreads : ByteArray := prog_12_method_14_code
def yX10_readyThreads : MethodName := ⟨RX10, "readyThreads", "(I)I"⟩
abbrev cX10_scheduleLength : ByteArray := prog_12_method_15_code
def yX10_scheduleLength : MethodName := ⟨RX10, "scheduleLength", "(I)I"⟩
abbrev cX10_scheduledStep : ByteArray := prog_12_method_16_code
def yX10_scheduledStep : MethodName := ⟨RX10, "scheduledStep", "(II)I"⟩
abbrev cX10_fewestSwitches : ByteArray := prog_12_method_17_code
def yX10_fewestSwitches : MethodName := ⟨RX10, "fewestSwitches", "(I)I"⟩
abbrev cX10_countSwitches : ByteArray := prog_12_method_18_code
def yX10_countSwitches : MethodName := ⟨RX10, "countSwitches", "()V"⟩
abbrev cX10_leaveFrom : ByteArray := prog_12_method_19_code
def yX10_leaveFrom : MethodName := ⟨RX10, "leaveFrom", "(II)V"⟩
abbrev cX10_reach : ByteArray := prog_12_method_20_code
def yX10_reach : MethodName := ⟨RX10, "reach", "(III)V"⟩
abbrev cX10_countChances : ByteArray := prog_12_method_21_code
def yX10_countChances : MethodName := ⟨RX10, "countChances", "(III)I"⟩
abbrev cX10_drawnOutcome : ByteArray := prog_12_method_22_code
def yX10_drawnOutcome : MethodName := ⟨RX10, "drawnOutcome", "(III)I"⟩
abbrev cX10_arrange : ByteArray := prog_12_method_23_code
def yX10_arrange : MethodName := ⟨RX10, "arrange", "(I)V"⟩
abbrev cX10_firstReady : ByteArray := prog_12_method_24_code
def yX10_firstReady : MethodName := ⟨RX10, "firstReady", "()I"⟩
abbrev cX10_lower : ByteArray := prog_12_method_25_code
def yX10_lower : MethodName := ⟨RX10, "lower", "(I)V"⟩
def RX11 : String := "TurnHouse"
def TX11 : u_T := fun k => match k with
  | 0 => ("TurnHouse", "tokens", "LTurnHouse$Tokens;", true)
  | 1 => ("TurnHouse", "first", "LTurnHouse$Program;", true)
  | 2 => ("TurnHouse", "rewritten", "LTurnHouse$Program;", true)
  | 3 => ("TurnHouse", "reader", "LTurnHouse$Reader;", true)
  | 4 => ("TurnHouse", "turns", "LTurnHouse$Turns;", true)
  | 5 => ("TurnHouse", "kept", "LTurnHouse$Rows;", true)
  | 6 => ("TurnHouse", "judge", "LTurnHouse$Judge;", true)
  | 7 => ("TurnHouse", "run", "LTurnHouse$Run;", true)
  | 8 => ("TurnHouse", "history", "LTurnHouse$History;", true)
  | 9 => ("TurnHouse", "hasProgram", "Z", false)
  | 10 => ("TurnHouse", "hasRewritten", "Z", false)
  | 11 => ("TurnHouse", "triedRewritten", "Z", false)
  | 12 => ("TurnHouse", "runsRewritten", "Z", false)
  | 13 => ("TurnHouse", "where", "I", false)
  | _ => ("TurnHouse", "gained", "I", false)
def tyX11 : Nat → FieldType := fun k => match k with
  | 0 => .object "TurnHouse$Tokens"
  | 1 => .object "TurnHouse$Program"
  | 2 => .object "TurnHouse$Program"
  | 3 => .object "TurnHouse$Reader"
  | 4 => .object "TurnHouse$Turns"
  | 5 => .object "TurnHouse$Rows"
  | 6 => .object "TurnHouse$Judge"
  | 7 => .object "TurnHouse$Run"
  | 8 => .object "TurnHouse$History"
  | 9 => .boolean
  | 10 => .boolean
  | 11 => .boolean
  | 12 => .boolean
  | 13 => .int
  | _ => .int
abbrev wsX110 : List Cond := u_ws RX11 TX11 15
theorem nmX11 : ∀ a, a < 15 → ∀ b, b < 15 → a ≠ b → (TX11 a).2.1 ≠ (TX11 b).2.1 := by decide +kernel
theorem tyX11_ok : ∀ k, k < 15 → parseFieldDescriptor (TX11 k).2.2.1 = some (tyX11 k) := by decide +kernel
abbrev cX11_init : ByteArray := prog_1_method_1_code
def yX11_init : MethodName := ⟨RX11, "<init>", "()V"⟩
abbrev cX11_feed : ByteArray := prog_1_method_2_code
def yX11_feed : MethodName := ⟨RX11, "feed", "(IIIII)I"⟩
abbrev cX11_end : ByteArray := prog_1_method_3_code
def yX11_end : MethodName := ⟨RX11, "end", "(I)I"⟩
abbrev cX11_program : ByteArray := prog_1_method_4_code
def yX11_program : MethodName := ⟨RX11, "program", "()I"⟩
abbrev cX11_count : ByteArray := prog_1_method_5_code
def yX11_count : MethodName := ⟨RX11, "count", "(I)I"⟩
abbrev cX11_line : ByteArray := prog_1_method_6_code
def yX11_line : MethodName := ⟨RX11, "line", "(II)I"⟩
abbrev cX11_begin : ByteArray := prog_1_method_7_code
def yX11_begin : MethodName := ⟨RX11, "begin", "(I)I"⟩
abbrev cX11_ready : ByteArray := prog_1_method_8_code
def yX11_ready : MethodName := ⟨RX11, "ready", "(I)I"⟩
abbrev cX11_turn : ByteArray := prog_1_method_9_code
def yX11_turn : MethodName := ⟨RX11, "turn", "(II)I"⟩
abbrev cX11_thread : ByteArray := prog_1_method_10_code
def yX11_thread : MethodName := ⟨RX11, "thread", "(II)I"⟩
abbrev cX11_local : ByteArray := prog_1_method_11_code
def yX11_local : MethodName := ⟨RX11, "local", "(II)I"⟩
abbrev cX11_cell : ByteArray := prog_1_method_12_code
def yX11_cell : MethodName := ⟨RX11, "cell", "(I)I"⟩
abbrev cX11_seen : ByteArray := prog_1_method_13_code
def yX11_seen : MethodName := ⟨RX11, "seen", "(II)I"⟩
abbrev cX11_held : ByteArray := prog_1_method_14_code
def yX11_held : MethodName := ⟨RX11, "held", "(II)I"⟩
abbrev cX11_step : ByteArray := prog_1_method_15_code
def yX11_step : MethodName := ⟨RX11, "step", "(II)I"⟩
abbrev cX11_before : ByteArray := prog_1_method_16_code
def yX11_before : MethodName := ⟨RX11, "before", "(II)I"⟩
abbrev cX11_runRace : ByteArray := prog_1_method_17_code
def yX11_runRace : MethodName := ⟨RX11, "runRace", "(II)I"⟩
abbrev cX11_linear : ByteArray := prog_1_method_18_code
def yX11_linear : MethodName := ⟨RX11, "linear", "(I)I"⟩
abbrev cX11_ordered : ByteArray := prog_1_method_19_code
def yX11_ordered : MethodName := ⟨RX11, "ordered", "(I)I"⟩
abbrev cX11_explore : ByteArray := prog_1_method_20_code
def yX11_explore : MethodName := ⟨RX11, "explore", "(IZ)I"⟩
abbrev cX11_explored : ByteArray := prog_1_method_21_code
def yX11_explored : MethodName := ⟨RX11, "explored", "(I)I"⟩
abbrev cX11_outcome : ByteArray := prog_1_method_22_code
def yX11_outcome : MethodName := ⟨RX11, "outcome", "(II)I"⟩
abbrev cX11_outcomeCell : ByteArray := prog_1_method_23_code
def yX11_outcomeCell : MethodName := ⟨RX11, "outcomeCell", "(II)I"⟩
abbrev cX11_outcomeLocal : ByteArray := prog_1_method_24_code
def yX11_outcomeLocal : MethodName := ⟨RX11, "outcomeLocal", "(III)I"⟩
abbrev cX11_schedule : ByteArray := prog_1_method_25_code
def yX11_schedule : MethodName := ⟨RX11, "schedule", "(II)I"⟩
abbrev cX11_replay : ByteArray := prog_1_method_26_code
def yX11_replay : MethodName := ⟨RX11, "replay", "(I)I"⟩
abbrev cX11_chances : ByteArray := prog_1_method_27_code
def yX11_chances : MethodName := ⟨RX11, "chances", "(III)I"⟩
abbrev cX11_race : ByteArray := prog_1_method_28_code
def yX11_race : MethodName := ⟨RX11, "race", "(II)I"⟩
abbrev cX11_guard : ByteArray := prog_1_method_29_code
def yX11_guard : MethodName := ⟨RX11, "guard", "(I)I"⟩
abbrev cX11_ring : ByteArray := prog_1_method_30_code
def yX11_ring : MethodName := ⟨RX11, "ring", "(I)I"⟩
abbrev cX11_order : ByteArray := prog_1_method_31_code
def yX11_order : MethodName := ⟨RX11, "order", "(II)I"⟩
abbrev cX11_judge : ByteArray := prog_1_method_32_code
def yX11_judge : MethodName := ⟨RX11, "judge", "()I"⟩
abbrev cX11_where : ByteArray := prog_1_method_33_code
def yX11_where : MethodName := ⟨RX11, "where", "()I"⟩
abbrev cX11_rewrite : ByteArray := prog_1_method_34_code
def yX11_rewrite : MethodName := ⟨RX11, "rewrite", "(II)I"⟩
abbrev cX11_drop : ByteArray := prog_1_method_35_code
def yX11_drop : MethodName := ⟨RX11, "drop", "()I"⟩
abbrev cX11_sound : ByteArray := prog_1_method_36_code
def yX11_sound : MethodName := ⟨RX11, "sound", "(I)I"⟩
abbrev cX11_gained : ByteArray := prog_1_method_37_code
def yX11_gained : MethodName := ⟨RX11, "gained", "()I"⟩
abbrev cX11_isWay : ByteArray := prog_1_method_38_code
def yX11_isWay : MethodName := ⟨RX11, "isWay", "(I)Z"⟩
abbrev cX11_forgetRewritten : ByteArray := prog_1_method_39_code
def yX11_forgetRewritten : MethodName := ⟨RX11, "forgetRewritten", "()V"⟩
def RX12 : String := "TurnHouseModel"
def TX12 : u_T := fun k => match k with
  | 0 => ("TurnHouseModel", "text", "[I", true)
  | 1 => ("TurnHouseModel", "size", "I", false)
  | 2 => ("TurnHouseModel", "at", "I", false)
  | 3 => ("TurnHouseModel", "token", "I", false)
  | 4 => ("TurnHouseModel", "tokenPlace", "I", false)
  | 5 => ("TurnHouseModel", "word", "J", false)
  | 6 => ("TurnHouseModel", "number", "I", false)
  | 7 => ("TurnHouseModel", "fault", "I", false)
  | 8 => ("TurnHouseModel", "faultPlace", "I", false)
  | 9 => ("TurnHouseModel", "lastFault", "I", false)
  | 10 => ("TurnHouseModel", "lastPlace", "I", false)
  | 11 => ("TurnHouseModel", "there", "Z", false)
  | 12 => ("TurnHouseModel", "cells", "I", false)
  | 13 => ("TurnHouseModel", "cellName", "[J", true)
  | 14 => ("TurnHouseModel", "first", "[I", true)
  | 15 => ("TurnHouseModel", "isVolatile", "[Z", true)
  | 16 => ("TurnHouseModel", "locks", "I", false)
  | 17 => ("TurnHouseModel", "lockName", "[J", true)
  | 18 => ("TurnHouseModel", "threads", "I", false)
  | 19 => ("TurnHouseModel", "threadName", "[J", true)
  | 20 => ("TurnHouseModel", "isLater", "[Z", true)
  | 21 => ("TurnHouseModel", "localCount", "[I", true)
  | 22 => ("TurnHouseModel", "localName", "[J", true)
  | 23 => ("TurnHouseModel", "nodeKind", "[I", true)
  | 24 => ("TurnHouseModel", "nodeValue", "[I", true)
  | 25 => ("TurnHouseModel", "nodes", "I", false)
  | 26 => ("TurnHouseModel", "nodeBase", "I", false)
  | 27 => ("TurnHouseModel", "programNodes", "I", false)
  | 28 => ("TurnHouseModel", "counted", "I", false)
  | 29 => ("TurnHouseModel", "readsLaw", "Z", false)
  | 30 => ("TurnHouseModel", "waiting", "[I", true)
  | 31 => ("TurnHouseModel", "waitings", "I", false)
  | 32 => ("TurnHouseModel", "lines", "I", false)
  | 33 => ("TurnHouseModel", "kindOf", "[I", true)
  | 34 => ("TurnHouseModel", "threadAt", "[I", true)
  | 35 => ("TurnHouseModel", "nameAt", "[I", true)
  | 36 => ("TurnHouseModel", "setAt", "[I", true)
  | 37 => ("TurnHouseModel", "depthAt", "[I", true)
  | 38 => ("TurnHouseModel", "parentAt", "[I", true)
  | 39 => ("TurnHouseModel", "partAt", "[I", true)
  | 40 => ("TurnHouseModel", "nextIn", "[I", true)
  | 41 => ("TurnHouseModel", "thenOf", "[I", true)
  | 42 => ("TurnHouseModel", "elseOf", "[I", true)
  | 43 => ("TurnHouseModel", "behind", "[I", true)
  | 44 => ("TurnHouseModel", "isOut", "[Z", true)
  | 45 => ("TurnHouseModel", "expFrom", "[I", true)
  | 46 => ("TurnHouseModel", "expTo", "[I", true)
  | 47 => ("TurnHouseModel", "otherFrom", "[I", true)
  | 48 => ("TurnHouseModel", "otherTo", "[I", true)
  | 49 => ("TurnHouseModel", "wordAt", "[J", true)
  | 50 => ("TurnHouseModel", "firstOf", "[I", true)
  | 51 => ("TurnHouseModel", "wanted", "[J", true)
  | 52 => ("TurnHouseModel", "wantedPlace", "[I", true)
  | 53 => ("TurnHouseModel", "blockOwner", "[I", true)
  | 54 => ("TurnHouseModel", "blockPart", "[I", true)
  | 55 => ("TurnHouseModel", "blockLast", "[I", true)
  | 56 => ("TurnHouseModel", "blocks", "I", false)
  | 57 => ("TurnHouseModel", "s", "[I", true)
  | 58 => ("TurnHouseModel", "way", "I", false)
  | 59 => ("TurnHouseModel", "prog", "I", false)
  | 60 => ("TurnHouseModel", "width", "I", false)
  | 61 => ("TurnHouseModel", "why", "[I", true)
  | 62 => ("TurnHouseModel", "beyond", "Z", false)
  | 63 => ("TurnHouseModel", "pile", "[I", true)
  | 64 => ("TurnHouseModel", "stuckNow", "Z", false)
  | 65 => ("TurnHouseModel", "readyStep", "[I", true)
  | 66 => ("TurnHouseModel", "readies", "I", false)
  | 67 => ("TurnHouseModel", "readyThreads", "I", false)
  | 68 => ("TurnHouseModel", "didLine", "I", false)
  | 69 => ("TurnHouseModel", "didKind", "I", false)
  | 70 => ("TurnHouseModel", "didName", "I", false)
  | 71 => ("TurnHouseModel", "didValue", "I", false)
  | 72 => ("TurnHouseModel", "didWord", "J", false)
  | 73 => ("TurnHouseModel", "ordersSeen", "I", false)
  | 74 => ("TurnHouseModel", "running", "Z", false)
  | 75 => ("TurnHouseModel", "kept", "[I", true)
  | 76 => ("TurnHouseModel", "keptWay", "I", false)
  | 77 => ("TurnHouseModel", "keptWhy", "[I", true)
  | 78 => ("TurnHouseModel", "steps", "I", false)
  | 79 => ("TurnHouseModel", "stepThread", "[I", true)
  | 80 => ("TurnHouseModel", "stepChoice", "[I", true)
  | 81 => ("TurnHouseModel", "stepLine", "[I", true)
  | 82 => ("TurnHouseModel", "stepKind", "[I", true)
  | 83 => ("TurnHouseModel", "stepName", "[I", true)
  | 84 => ("TurnHouseModel", "stepValue", "[I", true)
  | 85 => ("TurnHouseModel", "stepWord", "[J", true)
  | 86 => ("TurnHouseModel", "before1", "[Z", true)
  | 87 => ("TurnHouseModel", "calls", "I", false)
  | 88 => ("TurnHouseModel", "callBegin", "[I", true)
  | 89 => ("TurnHouseModel", "callEnd", "[I", true)
  | 90 => ("TurnHouseModel", "callValue", "[I", true)
  | 91 => ("TurnHouseModel", "callReply", "[I", true)
  | 92 => ("TurnHouseModel", "callDoes", "[I", true)
  | 93 => ("TurnHouseModel", "openCall", "[I", true)
  | 94 => ("TurnHouseModel", "chosen", "[I", true)
  | 95 => ("TurnHouseModel", "linearOrder", "[I", true)
  | 96 => ("TurnHouseModel", "linearMany", "I", false)
  | 97 => ("TurnHouseModel", "inside", "[I", true)
  | 98 => ("TurnHouseModel", "explored", "Z", false)
  | 99 => ("TurnHouseModel", "exploredWay", "I", false)
  | 100 => ("TurnHouseModel", "isFewer", "Z", false)
  | 101 => ("TurnHouseModel", "states", "I", false)
  | 102 => ("TurnHouseModel", "tried", "I", false)
  | 103 => ("TurnHouseModel", "ends", "I", false)
  | 104 => ("TurnHouseModel", "row", "[I", true)
  | 105 => ("TurnHouseModel", "slot", "[I", true)
  | 106 => ("TurnHouseModel", "cameFrom", "[I", true)
  | 107 => ("TurnHouseModel", "cameBy", "[I", true)
  | 108 => ("TurnHouseModel", "byWhile", "[Z", true)
  | 109 => ("TurnHouseModel", "readyMask", "[I", true)
  | 110 => ("TurnHouseModel", "isEnd", "[Z", true)
  | 111 => ("TurnHouseModel", "outcomeAt", "[I", true)
  | 112 => ("TurnHouseModel", "stepsFrom", "[I", true)
  | 113 => ("TurnHouseModel", "stepTo", "[I", true)
  | 114 => ("TurnHouseModel", "stepBy", "[I", true)
  | 115 => ("TurnHouseModel", "outcomes", "I", false)
  | 116 => ("TurnHouseModel", "outcomeState", "[I", true)
  | 117 => ("TurnHouseModel", "outcomeSlot", "[I", true)
  | 118 => ("TurnHouseModel", "raceState", "[I", true)
  | 119 => ("TurnHouseModel", "guards", "[I", true)
  | 120 => ("TurnHouseModel", "ordersFound", "I", false)
  | 121 => ("TurnHouseModel", "hasWays", "Z", false)
  | 122 => ("TurnHouseModel", "outcomeSort", "[I", true)
  | 123 => ("TurnHouseModel", "triedStep", "[I", true)
  | 124 => ("TurnHouseModel", "far", "[I", true)
  | 125 => ("TurnHouseModel", "queue", "[I", true)
  | 126 => ("TurnHouseModel", "fewest", "[I", true)
  | 127 => ("TurnHouseModel", "path", "[I", true)
  | 128 => ("TurnHouseModel", "pathLength", "I", false)
  | 129 => ("TurnHouseModel", "priority", "[I", true)
  | 130 => ("TurnHouseModel", "drawn", "[I", true)
  | 131 => ("TurnHouseModel", "where", "I", false)
  | 132 => ("TurnHouseModel", "hasFact", "[Z", true)
  | 133 => ("TurnHouseModel", "hasOther", "[Z", true)
  | 134 => ("TurnHouseModel", "reached", "[Z", true)
  | 135 => ("TurnHouseModel", "goesOn", "[Z", true)
  | 136 => ("TurnHouseModel", "toDo", "[I", true)
  | 137 => ("TurnHouseModel", "partOf", "[I", true)
  | 138 => ("TurnHouseModel", "index", "[I", true)
  | 139 => ("TurnHouseModel", "low", "[I", true)
  | 140 => ("TurnHouseModel", "edge", "[I", true)
  | 141 => ("TurnHouseModel", "walk", "[I", true)
  | 142 => ("TurnHouseModel", "open", "[I", true)
  | 143 => ("TurnHouseModel", "parts", "I", false)
  | 144 => ("TurnHouseModel", "goesRound", "[Z", true)
  | 145 => ("TurnHouseModel", "restsIn", "[I", true)
  | 146 => ("TurnHouseModel", "stepsIn", "[I", true)
  | 147 => ("TurnHouseModel", "hasOther1", "Z", false)
  | 148 => ("TurnHouseModel", "exploredOther", "Z", false)
  | 149 => ("TurnHouseModel", "runsOther", "Z", false)
  | 150 => ("TurnHouseModel", "gained", "I", false)
  | 151 => ("TurnHouseModel", "wasSort", "[I", true)
  | 152 => ("TurnHouseModel", "wasMemory", "[I", true)
  | 153 => ("TurnHouseModel", "wasLocal", "[I", true)
  | _ => ("TurnHouseModel", "wasMany", "I", false)
def tyX12 : Nat → FieldType := fun k => match k with
  | 0 => .array .int
  | 1 => .int
  | 2 => .int
  | 3 => .int
  | 4 => .int
  | 5 => .long
  | 6 => .int
  | 7 => .int
  | 8 => .int
  | 9 => .int
  | 10 => .int
  | 11 => .boolean
  | 12 => .int
  | 13 => .array .long
  | 14 => .array .int
  | 15 => .array .boolean
  | 16 => .int
  | 17 => .array .long
  | 18 => .int
  | 19 => .array .long
  | 20 => .array .boolean
  | 21 => .array .int
  | 22 => .array .long
  | 23 => .array .int
  | 24 => .array .int
  | 25 => .int
  | 26 => .int
  | 27 => .int
  | 28 => .int
  | 29 => .boolean
  | 30 => .array .int
  | 31 => .int
  | 32 => .int
  | 33 => .array .int
  | 34 => .array .int
  | 35 => .array .int
  | 36 => .array .int
  | 37 => .array .int
  | 38 => .array .int
  | 39 => .array .int
  | 40 => .array .int
  | 41 => .array .int
  | 42 => .array .int
  | 43 => .array .int
  | 44 => .array .boolean
  | 45 => .array .int
  | 46 => .array .int
  | 47 => .array .int
  | 48 => .array .int
  | 49 => .array .long
  | 50 => .array .int
  | 51 => .array .long
  | 52 => .array .int
  | 53 => .array .int
  | 54 => .array .int
  | 55 => .array .int
  | 56 => .int
  | 57 => .array .int
  | 58 => .int
  | 59 => .int
  | 60 => .int
  | 61 => .array .int
  | 62 => .boolean
  | 63 => .array .int
  | 64 => .boolean
  | 65 => .array .int
  | 66 => .int
  | 67 => .int
  | 68 => .int
  | 69 => .int
  | 70 => .int
  | 71 => .int
  | 72 => .long
  | 73 => .int
  | 74 => .boolean
  | 75 => .array .int
  | 76 => .int
  | 77 => .array .int
  | 78 => .int
  | 79 => .array .int
  | 80 => .array .int
  | 81 => .array .int
  | 82 => .array .int
  | 83 => .array .int
  | 84 => .array .int
  | 85 => .array .long
  | 86 => .array .boolean
  | 87 => .int
  | 88 => .array .int
  | 89 => .array .int
  | 90 => .array .int
  | 91 => .array .int
  | 92 => .array .int
  | 93 => .array .int
  | 94 => .array .int
  | 95 => .array .int
  | 96 => .int
  | 97 => .array .int
  | 98 => .boolean
  | 99 => .int
  | 100 => .boolean
  | 101 => .int
  | 102 => .int
  | 103 => .int
  | 104 => .array .int
  | 105 => .array .int
  | 106 => .array .int
  | 107 => .array .int
  | 108 => .array .boolean
  | 109 => .array .int
  | 110 => .array .boolean
  | 111 => .array .int
  | 112 => .array .int
  | 113 => .array .int
  | 114 => .array .int
  | 115 => .int
  | 116 => .array .int
  | 117 => .array .int
  | 118 => .array .int
  | 119 => .array .int
  | 120 => .int
  | 121 => .boolean
  | 122 => .array .int
  | 123 => .array .int
  | 124 => .array .int
  | 125 => .array .int
  | 126 => .array .int
  | 127 => .array .int
  | 128 => .int
  | 129 => .array .int
  | 130 => .array .int
  | 131 => .int
  | 132 => .array .boolean
  | 133 => .array .boolean
  | 134 => .array .boolean
  | 135 => .array .boolean
  | 136 => .array .int
  | 137 => .array .int
  | 138 => .array .int
  | 139 => .array .int
  | 140 => .array .int
  | 141 => .array .int
  | 142 => .array .int
  | 143 => .int
  | 144 => .array .boolean
  | 145 => .array .int
  | 146 => .array .int
  | 147 => .boolean
  | 148 => .boolean
  | 149 => .boolean
  | 150 => .int
  | 151 => .array .int
  | 152 => .array .int
  | 153 => .array .int
  | _ => .int
abbrev wsX120 : List Cond := u_ws RX12 TX12 155
theorem nmX12 : ∀ a, a < 155 → ∀ b, b < 155 → a ≠ b → (TX12 a).2.1 ≠ (TX12 b).2.1 := by decide +kernel
theorem tyX12_ok : ∀ k, k < 155 → parseFieldDescriptor (TX12 k).2.2.1 = some (tyX12 k) := by decide +kernel
abbrev cX12_init : ByteArray := prog_14_method_1_code
def yX12_init : MethodName := ⟨RX12, "<init>", "()V"⟩
abbrev cX12_feed : ByteArray := prog_14_method_2_code
def yX12_feed : MethodName := ⟨RX12, "feed", "(IIIII)I"⟩
abbrev cX12_end : ByteArray := prog_14_method_3_code
def yX12_end : MethodName := ⟨RX12, "end", "(I)I"⟩
abbrev cX12_good : ByteArray := prog_14_method_4_code
def yX12_good : MethodName := ⟨RX12, "good", "()Z"⟩
abbrev cX12_fail : ByteArray := prog_14_method_5_code
def yX12_fail : MethodName := ⟨RX12, "fail", "(II)V"⟩
abbrev cX12_need : ByteArray := prog_14_method_6_code
def yX12_need : MethodName := ⟨RX12, "need", "(ZI)V"⟩
abbrev cX12_isLetter : ByteArray := prog_14_method_7_code
def yX12_isLetter : MethodName := ⟨RX12, "isLetter", "(I)Z"⟩
abbrev cX12_isFigure : ByteArray := prog_14_method_8_code
def yX12_isFigure : MethodName := ⟨RX12, "isFigure", "(I)Z"⟩
abbrev cX12_byteAt : ByteArray := prog_14_method_9_code
def yX12_byteAt : MethodName := ⟨RX12, "byteAt", "(I)I"⟩
abbrev cX12_next : ByteArray := prog_14_method_10_code
def yX12_next : MethodName := ⟨RX12, "next", "()V"⟩
abbrev cX12_beginReading : ByteArray := prog_14_method_11_code
def yX12_beginReading : MethodName := ⟨RX12, "beginReading", "()V"⟩
abbrev cX12_endReading : ByteArray := prog_14_method_12_code
def yX12_endReading : MethodName := ⟨RX12, "endReading", "()V"⟩
abbrev cX12_must : ByteArray := prog_14_method_13_code
def yX12_must : MethodName := ⟨RX12, "must", "(I)V"⟩
abbrev cX12_isReserved : ByteArray := prog_14_method_16_code
def yX12_isReserved : MethodName := ⟨RX12, "isReserved", "(J)Z"⟩
abbrev cX12_isName : ByteArray := prog_14_method_17_code
def yX12_isName : MethodName := ⟨RX12, "isName", "()Z"⟩
abbrev cX12_isWord : ByteArray := prog_14_method_18_code
def yX12_isWord : MethodName := ⟨RX12, "isWord", "(J)Z"⟩
abbrev cX12_cellOf : ByteArray := prog_14_method_19_code
def yX12_cellOf : MethodName := ⟨RX12, "cellOf", "(J)I"⟩
abbrev cX12_lockOf : ByteArray := prog_14_method_20_code
def yX12_lockOf : MethodName := ⟨RX12, "lockOf", "(J)I"⟩
abbrev cX12_threadOf : ByteArray := prog_14_method_21_code
def yX12_threadOf : MethodName := ⟨RX12, "threadOf", "(J)I"⟩
abbrev cX12_localOf : ByteArray := prog_14_method_22_code
def yX12_localOf : MethodName := ⟨RX12, "localOf", "(IJ)I"⟩
abbrev cX12_isTold : ByteArray := prog_14_method_23_code
def yX12_isTold : MethodName := ⟨RX12, "isTold", "(J)Z"⟩
abbrev cX12_takeLocal : ByteArray := prog_14_method_24_code
def yX12_takeLocal : MethodName := ⟨RX12, "takeLocal", "()I"⟩
abbrev cX12_emit : ByteArray := prog_14_method_25_code
def yX12_emit : MethodName := ⟨RX12, "emit", "(II)V"⟩
abbrev cX12_countNode : ByteArray := prog_14_method_26_code
def yX12_countNode : MethodName := ⟨RX12, "countNode", "()V"⟩
abbrev cX12_rankOf : ByteArray := prog_14_method_27_code
def yX12_rankOf : MethodName := ⟨RX12, "rankOf", "(I)I"⟩
abbrev cX12_operatorAtHand : ByteArray := prog_14_method_28_code
def yX12_operatorAtHand : MethodName := ⟨RX12, "operatorAtHand", "()I"⟩
abbrev cX12_settle : ByteArray := prog_14_method_29_code
def yX12_settle : MethodName := ⟨RX12, "settle", "(I)V"⟩
abbrev cX12_lastRank : ByteArray := prog_14_method_30_code
def yX12_lastRank : MethodName := ⟨RX12, "lastRank", "(I)I"⟩
abbrev cX12_readExp : ByteArray := prog_14_method_31_code
def yX12_readExp : MethodName := ⟨RX12, "readExp", "()I"⟩
abbrev cX12_endPrefixes : ByteArray := prog_14_method_32_code
def yX12_endPrefixes : MethodName := ⟨RX12, "endPrefixes", "()I"⟩
abbrev cX12_isFactWord : ByteArray := prog_14_method_33_code
def yX12_isFactWord : MethodName := ⟨RX12, "isFactWord", "()Z"⟩
abbrev cX12_checkWord : ByteArray := prog_14_method_34_code
def yX12_checkWord : MethodName := ⟨RX12, "checkWord", "()V"⟩
abbrev cX12_takeOperand : ByteArray := prog_14_method_35_code
def yX12_takeOperand : MethodName := ⟨RX12, "takeOperand", "()V"⟩
abbrev cX12_takeFact : ByteArray := prog_14_method_36_code
def yX12_takeFact : MethodName := ⟨RX12, "takeFact", "()V"⟩
abbrev cX12_openBlock : ByteArray := prog_14_method_37_code
def yX12_openBlock : MethodName := ⟨RX12, "openBlock", "(II)V"⟩
abbrev cX12_newLine : ByteArray := prog_14_method_38_code
def yX12_newLine : MethodName := ⟨RX12, "newLine", "(I)I"⟩
abbrev cX12_takeExp : ByteArray := prog_14_method_39_code
def yX12_takeExp : MethodName := ⟨RX12, "takeExp", "(I)V"⟩
abbrev cX12_keywordAtHand : ByteArray := prog_14_method_40_code
def yX12_keywordAtHand : MethodName := ⟨RX12, "keywordAtHand", "()I"⟩
abbrev cX12_readStatement : ByteArray := prog_14_method_41_code
def yX12_readStatement : MethodName := ⟨RX12, "readStatement", "()V"⟩
abbrev cX12_readRest : ByteArray := prog_14_method_42_code
def yX12_readRest : MethodName := ⟨RX12, "readRest", "(II)V"⟩
abbrev cX12_takeExpGood : ByteArray := prog_14_method_43_code
def yX12_takeExpGood : MethodName := ⟨RX12, "takeExpGood", "(I)V"⟩
abbrev cX12_takeCell : ByteArray := prog_14_method_44_code
def yX12_takeCell : MethodName := ⟨RX12, "takeCell", "(I)V"⟩
abbrev cX12_takeInto : ByteArray := prog_14_method_45_code
def yX12_takeInto : MethodName := ⟨RX12, "takeInto", "(I)V"⟩
abbrev cX12_readAssignment : ByteArray := prog_14_method_46_code
def yX12_readAssignment : MethodName := ⟨RX12, "readAssignment", "()V"⟩
abbrev cX12_readBlocks : ByteArray := prog_14_method_47_code
def yX12_readBlocks : MethodName := ⟨RX12, "readBlocks", "()V"⟩
abbrev cX12_isLocalOfSome : ByteArray := prog_14_method_48_code
def yX12_isLocalOfSome : MethodName := ⟨RX12, "isLocalOfSome", "()Z"⟩
abbrev cX12_checkName : ByteArray := prog_14_method_49_code
def yX12_checkName : MethodName := ⟨RX12, "checkName", "(Z)V"⟩
abbrev cX12_readCell : ByteArray := prog_14_method_50_code
def yX12_readCell : MethodName := ⟨RX12, "readCell", "()V"⟩
abbrev cX12_readThread : ByteArray := prog_14_method_51_code
def yX12_readThread : MethodName := ⟨RX12, "readThread", "()V"⟩
abbrev cX12_program : ByteArray := prog_14_method_52_code
def yX12_program : MethodName := ⟨RX12, "program", "()I"⟩
abbrev cX12_count : ByteArray := prog_14_method_53_code
def yX12_count : MethodName := ⟨RX12, "count", "(I)I"⟩
abbrev cX12_line : ByteArray := prog_14_method_54_code
def yX12_line : MethodName := ⟨RX12, "line", "(II)I"⟩
abbrev cX12_layFlow : ByteArray := prog_14_method_55_code
def yX12_layFlow : MethodName := ⟨RX12, "layFlow", "(I)V"⟩
abbrev cX12_copyProgram : ByteArray := prog_14_method_56_code
def yX12_copyProgram : MethodName := ⟨RX12, "copyProgram", "(II)V"⟩
abbrev cX12_truth : ByteArray := prog_14_method_57_code
def yX12_truth : MethodName := ⟨RX12, "truth", "(Z)I"⟩
abbrev cX12_isValue : ByteArray := prog_14_method_58_code
def yX12_isValue : MethodName := ⟨RX12, "isValue", "(I)Z"⟩
abbrev cX12_worked : ByteArray := prog_14_method_59_code
def yX12_worked : MethodName := ⟨RX12, "worked", "(III)I"⟩
abbrev cX12_joined : ByteArray := prog_14_method_60_code
def yX12_joined : MethodName := ⟨RX12, "joined", "(III)I"⟩
abbrev cX12_factOf : ByteArray := prog_14_method_61_code
def yX12_factOf : MethodName := ⟨RX12, "factOf", "(II)I"⟩
abbrev cX12_widthOf : ByteArray := prog_14_method_62_code
def yX12_widthOf : MethodName := ⟨RX12, "widthOf", "(I)I"⟩
abbrev cX12_firstState : ByteArray := prog_14_method_63_code
def yX12_firstState : MethodName := ⟨RX12, "firstState", "(II)V"⟩
abbrev cX12_beginThread : ByteArray := prog_14_method_64_code
def yX12_beginThread : MethodName := ⟨RX12, "beginThread", "(I)V"⟩
abbrev cX12_goTo : ByteArray := prog_14_method_65_code
def yX12_goTo : MethodName := ⟨RX12, "goTo", "(II)V"⟩
abbrev cX12_lineOf : ByteArray := prog_14_method_66_code
def yX12_lineOf : MethodName := ⟨RX12, "lineOf", "(I)I"⟩
abbrev cX12_viewOf : ByteArray := prog_14_method_67_code
def yX12_viewOf : MethodName := ⟨RX12, "viewOf", "(II)I"⟩
abbrev cX12_withView : ByteArray := prog_14_method_68_code
def yX12_withView : MethodName := ⟨RX12, "withView", "(III)I"⟩
abbrev cX12_joinOf : ByteArray := prog_14_method_69_code
def yX12_joinOf : MethodName := ⟨RX12, "joinOf", "(II)I"⟩
abbrev cX12_lastWrite : ByteArray := prog_14_method_70_code
def yX12_lastWrite : MethodName := ⟨RX12, "lastWrite", "(I)I"⟩
abbrev cX12_write : ByteArray := prog_14_method_71_code
def yX12_write : MethodName := ⟨RX12, "write", "(IIIZ)V"⟩
abbrev cX12_seeLast : ByteArray := prog_14_method_72_code
def yX12_seeLast : MethodName := ⟨RX12, "seeLast", "(IIZ)I"⟩
abbrev cX12_isEmpty : ByteArray := prog_14_method_73_code
def yX12_isEmpty : MethodName := ⟨RX12, "isEmpty", "(I)Z"⟩
abbrev cX12_waitingFor : ByteArray := prog_14_method_74_code
def yX12_waitingFor : MethodName := ⟨RX12, "waitingFor", "(I)I"⟩
abbrev cX12_choices : ByteArray := prog_14_method_75_code
def yX12_choices : MethodName := ⟨RX12, "choices", "(I)I"⟩
abbrev cX12_wouldWrite : ByteArray := prog_14_method_76_code
def yX12_wouldWrite : MethodName := ⟨RX12, "wouldWrite", "(II)Z"⟩
abbrev cX12_hasFlush : ByteArray := prog_14_method_77_code
def yX12_hasFlush : MethodName := ⟨RX12, "hasFlush", "(I)Z"⟩
abbrev cX12_lookReady : ByteArray := prog_14_method_78_code
def yX12_lookReady : MethodName := ⟨RX12, "lookReady", "()V"⟩
abbrev cX12_isReadyStep : ByteArray := prog_14_method_79_code
def yX12_isReadyStep : MethodName := ⟨RX12, "isReadyStep", "(II)Z"⟩
abbrev cX12_goWrong : ByteArray := prog_14_method_80_code
def yX12_goWrong : MethodName := ⟨RX12, "goWrong", "(II)V"⟩
abbrev cX12_takeLock : ByteArray := prog_14_method_81_code
def yX12_takeLock : MethodName := ⟨RX12, "takeLock", "(III)V"⟩
abbrev cX12_joinView : ByteArray := prog_14_method_82_code
def yX12_joinView : MethodName := ⟨RX12, "joinView", "(II)V"⟩
abbrev cX12_flush : ByteArray := prog_14_method_83_code
def yX12_flush : MethodName := ⟨RX12, "flush", "(I)V"⟩
abbrev cX12_loaded : ByteArray := prog_14_method_84_code
def yX12_loaded : MethodName := ⟨RX12, "loaded", "(III)I"⟩
abbrev cX12_storeNow : ByteArray := prog_14_method_85_code
def yX12_storeNow : MethodName := ⟨RX12, "storeNow", "(III)V"⟩
abbrev cX12_setLocal : ByteArray := prog_14_method_86_code
def yX12_setLocal : MethodName := ⟨RX12, "setLocal", "(III)V"⟩
abbrev cX12_doStep : ByteArray := prog_14_method_87_code
def yX12_doStep : MethodName := ⟨RX12, "doStep", "(II)V"⟩
abbrev cX12_atOnce : ByteArray := prog_14_method_88_code
def yX12_atOnce : MethodName := ⟨RX12, "atOnce", "(IIII)V"⟩
abbrev cX12_beginOther : ByteArray := prog_14_method_89_code
def yX12_beginOther : MethodName := ⟨RX12, "beginOther", "(II)V"⟩
abbrev cX12_doLock : ByteArray := prog_14_method_90_code
def yX12_doLock : MethodName := ⟨RX12, "doLock", "(III)V"⟩
abbrev cX12_keepRun : ByteArray := prog_14_method_91_code
def yX12_keepRun : MethodName := ⟨RX12, "keepRun", "()V"⟩
abbrev cX12_takeRun : ByteArray := prog_14_method_92_code
def yX12_takeRun : MethodName := ⟨RX12, "takeRun", "()V"⟩
abbrev cX12_beginRun : ByteArray := prog_14_method_93_code
def yX12_beginRun : MethodName := ⟨RX12, "beginRun", "(II)V"⟩
abbrev cX12_readyNow : ByteArray := prog_14_method_94_code
def yX12_readyNow : MethodName := ⟨RX12, "readyNow", "()I"⟩
abbrev cX12_begin : ByteArray := prog_14_method_95_code
def yX12_begin : MethodName := ⟨RX12, "begin", "(I)I"⟩
abbrev cX12_ready : ByteArray := prog_14_method_96_code
def yX12_ready : MethodName := ⟨RX12, "ready", "(I)I"⟩
abbrev cX12_stepRun : ByteArray := prog_14_method_97_code
def yX12_stepRun : MethodName := ⟨RX12, "stepRun", "(II)V"⟩
abbrev cX12_turn : ByteArray := prog_14_method_98_code
def yX12_turn : MethodName := ⟨RX12, "turn", "(II)I"⟩
abbrev cX12_isThread : ByteArray := prog_14_method_99_code
def yX12_isThread : MethodName := ⟨RX12, "isThread", "(I)Z"⟩
abbrev cX12_thread : ByteArray := prog_14_method_100_code
def yX12_thread : MethodName := ⟨RX12, "thread", "(II)I"⟩
abbrev cX12_local : ByteArray := prog_14_method_101_code
def yX12_local : MethodName := ⟨RX12, "local", "(II)I"⟩
abbrev cX12_cell : ByteArray := prog_14_method_102_code
def yX12_cell : MethodName := ⟨RX12, "cell", "(I)I"⟩
abbrev cX12_seen : ByteArray := prog_14_method_103_code
def yX12_seen : MethodName := ⟨RX12, "seen", "(II)I"⟩
abbrev cX12_held : ByteArray := prog_14_method_104_code
def yX12_held : MethodName := ⟨RX12, "held", "(II)I"⟩
abbrev cX12_step : ByteArray := prog_14_method_105_code
def yX12_step : MethodName := ⟨RX12, "step", "(II)I"⟩
abbrev cX12_isAtOnce : ByteArray := prog_14_method_106_code
def yX12_isAtOnce : MethodName := ⟨RX12, "isAtOnce", "(I)Z"⟩
abbrev cX12_isDirect : ByteArray := prog_14_method_107_code
def yX12_isDirect : MethodName := ⟨RX12, "isDirect", "(II)Z"⟩
abbrev cX12_layBefore : ByteArray := prog_14_method_108_code
def yX12_layBefore : MethodName := ⟨RX12, "layBefore", "()V"⟩
abbrev cX12_before : ByteArray := prog_14_method_109_code
def yX12_before : MethodName := ⟨RX12, "before", "(II)I"⟩
abbrev cX12_areRacing : ByteArray := prog_14_method_110_code
def yX12_areRacing : MethodName := ⟨RX12, "areRacing", "(II)Z"⟩
abbrev cX12_runRace : ByteArray := prog_14_method_111_code
def yX12_runRace : MethodName := ⟨RX12, "runRace", "(II)I"⟩
abbrev cX12_doesOf : ByteArray := prog_14_method_112_code
def yX12_doesOf : MethodName := ⟨RX12, "doesOf", "(IJ)I"⟩
abbrev cX12_layCalls : ByteArray := prog_14_method_113_code
def yX12_layCalls : MethodName := ⟨RX12, "layCalls", "(I)Z"⟩
abbrev cX12_given : ByteArray := prog_14_method_114_code
def yX12_given : MethodName := ⟨RX12, "given", "(II)I"⟩
abbrev cX12_canBeNext : ByteArray := prog_14_method_115_code
def yX12_canBeNext : MethodName := ⟨RX12, "canBeNext", "(II)Z"⟩
abbrev cX12_linear : ByteArray := prog_14_method_116_code
def yX12_linear : MethodName := ⟨RX12, "linear", "(I)I"⟩
abbrev cX12_ordered : ByteArray := prog_14_method_117_code
def yX12_ordered : MethodName := ⟨RX12, "ordered", "(I)I"⟩
abbrev cX12_hashOfState : ByteArray := prog_14_method_118_code
def yX12_hashOfState : MethodName := ⟨RX12, "hashOfState", "()I"⟩
abbrev cX12_isStateAt : ByteArray := prog_14_method_119_code
def yX12_isStateAt : MethodName := ⟨RX12, "isStateAt", "(I)Z"⟩
abbrev cX12_loadState : ByteArray := prog_14_method_120_code
def yX12_loadState : MethodName := ⟨RX12, "loadState", "(I)V"⟩
abbrev cX12_numberOf : ByteArray := prog_14_method_121_code
def yX12_numberOf : MethodName := ⟨RX12, "numberOf", "(IIZ)I"⟩
abbrev cX12_sortOfEnd : ByteArray := prog_14_method_122_code
def yX12_sortOfEnd : MethodName := ⟨RX12, "sortOfEnd", "()I"⟩
abbrev cX12_isOutcome : ByteArray := prog_14_method_123_code
def yX12_isOutcome : MethodName := ⟨RX12, "isOutcome", "(I)Z"⟩
abbrev cX12_outcomeOf : ByteArray := prog_14_method_124_code
def yX12_outcomeOf : MethodName := ⟨RX12, "outcomeOf", "(I)I"⟩
abbrev cX12_isQuiet : ByteArray := prog_14_method_125_code
def yX12_isQuiet : MethodName := ⟨RX12, "isQuiet", "(I)Z"⟩
abbrev cX12_quietThread : ByteArray := prog_14_method_126_code
def yX12_quietThread : MethodName := ⟨RX12, "quietThread", "()I"⟩
abbrev cX12_findIn : ByteArray := prog_14_method_127_code
def yX12_findIn : MethodName := ⟨RX12, "findIn", "(I)V"⟩
abbrev cX12_tryAll : ByteArray := prog_14_method_128_code
def yX12_tryAll : MethodName := ⟨RX12, "tryAll", "(IZ)I"⟩
abbrev cX12_explore : ByteArray := prog_14_method_129_code
def yX12_explore : MethodName := ⟨RX12, "explore", "(IZ)I"⟩
abbrev cX12_explored : ByteArray := prog_14_method_130_code
def yX12_explored : MethodName := ⟨RX12, "explored", "(I)I"⟩
abbrev cX12_isExploredOutcome : ByteArray := prog_14_method_131_code
def yX12_isExploredOutcome : MethodName := ⟨RX12, "isExploredOutcome", "(I)Z"⟩
abbrev cX12_widthExplored : ByteArray := prog_14_method_132_code
def yX12_widthExplored : MethodName := ⟨RX12, "widthExplored", "()I"⟩
abbrev cX12_outcome : ByteArray := prog_14_method_133_code
def yX12_outcome : MethodName := ⟨RX12, "outcome", "(II)I"⟩
abbrev cX12_outcomeCell : ByteArray := prog_14_method_134_code
def yX12_outcomeCell : MethodName := ⟨RX12, "outcomeCell", "(II)I"⟩
abbrev cX12_outcomeLocal : ByteArray := prog_14_method_135_code
def yX12_outcomeLocal : MethodName := ⟨RX12, "outcomeLocal", "(III)I"⟩
abbrev cX12_layWays : ByteArray := prog_14_method_136_code
def yX12_layWays : MethodName := ⟨RX12, "layWays", "()V"⟩
abbrev cX12_layPath : ByteArray := prog_14_method_137_code
def yX12_layPath : MethodName := ⟨RX12, "layPath", "(I)V"⟩
abbrev cX12_isState : ByteArray := prog_14_method_138_code
def yX12_isState : MethodName := ⟨RX12, "isState", "(I)Z"⟩
abbrev cX12_schedule : ByteArray := prog_14_method_139_code
def yX12_schedule : MethodName := ⟨RX12, "schedule", "(II)I"⟩
abbrev cX12_replay : ByteArray := prog_14_method_140_code
def yX12_replay : MethodName := ⟨RX12, "replay", "(I)I"⟩
abbrev cX12_endsWith : ByteArray := prog_14_method_141_code
def yX12_endsWith : MethodName := ⟨RX12, "endsWith", "(I)Z"⟩
abbrev cX12_chances : ByteArray := prog_14_method_142_code
def yX12_chances : MethodName := ⟨RX12, "chances", "(III)I"⟩
abbrev cX12_layOrder : ByteArray := prog_14_method_143_code
def yX12_layOrder : MethodName := ⟨RX12, "layOrder", "(I)V"⟩
abbrev cX12_race : ByteArray := prog_14_method_144_code
def yX12_race : MethodName := ⟨RX12, "race", "(II)I"⟩
abbrev cX12_guard : ByteArray := prog_14_method_145_code
def yX12_guard : MethodName := ⟨RX12, "guard", "(I)I"⟩
abbrev cX12_takeState : ByteArray := prog_14_method_146_code
def yX12_takeState : MethodName := ⟨RX12, "takeState", "(I)V"⟩
abbrev cX12_blockedBy : ByteArray := prog_14_method_147_code
def yX12_blockedBy : MethodName := ⟨RX12, "blockedBy", "(I)I"⟩
abbrev cX12_leastInRing : ByteArray := prog_14_method_148_code
def yX12_leastInRing : MethodName := ⟨RX12, "leastInRing", "()I"⟩
abbrev cX12_isLostEnd : ByteArray := prog_14_method_149_code
def yX12_isLostEnd : MethodName := ⟨RX12, "isLostEnd", "()Z"⟩
abbrev cX12_areCrossed : ByteArray := prog_14_method_150_code
def yX12_areCrossed : MethodName := ⟨RX12, "areCrossed", "()Z"⟩
abbrev cX12_ring : ByteArray := prog_14_method_151_code
def yX12_ring : MethodName := ⟨RX12, "ring", "(I)I"⟩
abbrev cX12_order : ByteArray := prog_14_method_152_code
def yX12_order : MethodName := ⟨RX12, "order", "(II)I"⟩
abbrev cX12_layFacts : ByteArray := prog_14_method_153_code
def yX12_layFacts : MethodName := ⟨RX12, "layFacts", "(IIZ)V"⟩
abbrev cX12_leastWith : ByteArray := prog_14_method_154_code
def yX12_leastWith : MethodName := ⟨RX12, "leastWith", "(Z)I"⟩
abbrev cX12_judge : ByteArray := prog_14_method_155_code
def yX12_judge : MethodName := ⟨RX12, "judge", "()I"⟩
abbrev cX12_where : ByteArray := prog_14_method_156_code
def yX12_where : MethodName := ⟨RX12, "where", "()I"⟩
abbrev cX12_lookWays : ByteArray := prog_14_method_157_code
def yX12_lookWays : MethodName := ⟨RX12, "lookWays", "(ZZ)I"⟩
abbrev cX12_layParts : ByteArray := prog_14_method_158_code
def yX12_layParts : MethodName := ⟨RX12, "layParts", "()V"⟩
abbrev cX12_isLasting : ByteArray := prog_14_method_159_code
def yX12_isLasting : MethodName := ⟨RX12, "isLasting", "(IZ)Z"⟩
abbrev cX12_forgetOther : ByteArray := prog_14_method_160_code
def yX12_forgetOther : MethodName := ⟨RX12, "forgetOther", "()V"⟩
abbrev cX12_rewrite : ByteArray := prog_14_method_161_code
def yX12_rewrite : MethodName := ⟨RX12, "rewrite", "(II)I"⟩
abbrev cX12_lineBefore : ByteArray := prog_14_method_162_code
def yX12_lineBefore : MethodName := ⟨RX12, "lineBefore", "(I)I"⟩
abbrev cX12_linkBehind : ByteArray := prog_14_method_163_code
def yX12_linkBehind : MethodName := ⟨RX12, "linkBehind", "(III)V"⟩
abbrev cX12_exchange : ByteArray := prog_14_method_164_code
def yX12_exchange : MethodName := ⟨RX12, "exchange", "(I)Z"⟩
abbrev cX12_leaveOut : ByteArray := prog_14_method_165_code
def yX12_leaveOut : MethodName := ⟨RX12, "leaveOut", "(I)Z"⟩
abbrev cX12_copyLoad : ByteArray := prog_14_method_166_code
def yX12_copyLoad : MethodName := ⟨RX12, "copyLoad", "(I)Z"⟩
abbrev cX12_drop : ByteArray := prog_14_method_167_code
def yX12_drop : MethodName := ⟨RX12, "drop", "()I"⟩
abbrev cX12_sound : ByteArray := prog_14_method_168_code
def yX12_sound : MethodName := ⟨RX12, "sound", "(I)I"⟩
abbrev cX12_wasThere : ByteArray := prog_14_method_169_code
def yX12_wasThere : MethodName := ⟨RX12, "wasThere", "(I)Z"⟩
abbrev cX12_gained : ByteArray := prog_14_method_170_code
def yX12_gained : MethodName := ⟨RX12, "gained", "()I"⟩
def RJx145de : String := "java/io/Serializable"
def RJx9f9b0 : String := "java/lang/CharSequence"
def RJ11 : String := "java/lang/Character"
abbrev cJ11_isValidCodePoint_9a6ad : ByteArray := prog_15_method_11_code
def yJ11_isValidCodePoint_9a6ad : MethodName := ⟨RJ11, "isValidCodePoint", "(I)Z"⟩
abbrev cJ11_highSurrogate_5068e : ByteArray := prog_15_method_28_code
def yJ11_highSurrogate_5068e : MethodName := ⟨RJ11, "highSurrogate", "(I)C"⟩
abbrev cJ11_lowSurrogate_5068e : ByteArray := prog_15_method_29_code
def yJ11_lowSurrogate_5068e : MethodName := ⟨RJ11, "lowSurrogate", "(I)C"⟩
def RJxb160c : String := "java/lang/Comparable"
def RJ9 : String := "java/lang/Math"
abbrev cJ9_max_7cf53 : ByteArray := prog_16_method_65_code
def yJ9_max_7cf53 : MethodName := ⟨RJ9, "max", "(II)I"⟩
abbrev cJ9_min_7cf53 : ByteArray := prog_16_method_69_code
def yJ9_min_7cf53 : MethodName := ⟨RJ9, "min", "(II)I"⟩
def RJ0 : String := "java/lang/String"
abbrev cJ0_length_8abf5 : ByteArray := prog_17_method_54_code
def yJ0_length_8abf5 : MethodName := ⟨RJ0, "length", "()I"⟩
abbrev cJ0_charAt_5068e : ByteArray := prog_17_method_56_code
def yJ0_charAt_5068e : MethodName := ⟨RJ0, "charAt", "(I)C"⟩
abbrev cJ0_indexOf_0f7a4 : ByteArray := prog_17_method_79_code
def yJ0_indexOf_0f7a4 : MethodName := ⟨RJ0, "indexOf", "(I)I"⟩
abbrev cJ0_indexOf_7cf53 : ByteArray := prog_17_method_80_code
def yJ0_indexOf_7cf53 : MethodName := ⟨RJ0, "indexOf", "(II)I"⟩
abbrev cJ0_coder_7d493 : ByteArray := prog_17_method_152_code
def yJ0_coder_7d493 : MethodName := ⟨RJ0, "coder", "()B"⟩
abbrev cJ0_isLatin1_aae02 : ByteArray := prog_17_method_154_code
def yJ0_isLatin1_aae02 : MethodName := ⟨RJ0, "isLatin1", "()Z"⟩
abbrev cJ0_checkIndex_df160 : ByteArray := prog_17_method_155_code
def yJ0_checkIndex_df160 : MethodName := ⟨RJ0, "checkIndex", "(II)V"⟩
abbrev cJ0_checkBoundsBeginEnd_23922 : ByteArray := prog_17_method_158_code
def yJ0_checkBoundsBeginEnd_23922 : MethodName := ⟨RJ0, "checkBoundsBeginEnd", "(III)V"⟩
def RJ1 : String := "java/lang/StringLatin1"
abbrev cJ1_charAt_3b067 : ByteArray := prog_18_method_2_code
def yJ1_charAt_3b067 : MethodName := ⟨RJ1, "charAt", "([BI)C"⟩
abbrev cJ1_canEncode_9a6ad : ByteArray := prog_18_method_4_code
def yJ1_canEncode_9a6ad : MethodName := ⟨RJ1, "canEncode", "(I)Z"⟩
abbrev cJ1_indexOf_4cfef : ByteArray := prog_18_method_22_code
def yJ1_indexOf_4cfef : MethodName := ⟨RJ1, "indexOf", "([BIII)I"⟩
abbrev cJ1_indexOfChar_4cfef : ByteArray := prog_18_method_23_code
def yJ1_indexOfChar_4cfef : MethodName := ⟨RJ1, "indexOfChar", "([BIII)I"⟩
def RJ2 : String := "java/lang/StringUTF16"
abbrev cJ2_getChar_3b067 : ByteArray := prog_19_method_5_code
def yJ2_getChar_3b067 : MethodName := ⟨RJ2, "getChar", "([BI)C"⟩
abbrev cJ2_length_9d52b : ByteArray := prog_19_method_6_code
def yJ2_length_9d52b : MethodName := ⟨RJ2, "length", "([B)I"⟩
abbrev cJ2_indexOf_4cfef : ByteArray := prog_19_method_40_code
def yJ2_indexOf_4cfef : MethodName := ⟨RJ2, "indexOf", "([BIII)I"⟩
abbrev cJ2_indexOfChar_4cfef : ByteArray := prog_19_method_47_code
def yJ2_indexOfChar_4cfef : MethodName := ⟨RJ2, "indexOfChar", "([BIII)I"⟩
abbrev cJ2_indexOfCharUnsafe_4cfef : ByteArray := prog_19_method_48_code
def yJ2_indexOfCharUnsafe_4cfef : MethodName := ⟨RJ2, "indexOfCharUnsafe", "([BIII)I"⟩
abbrev cJ2_indexOfSupplementary_4cfef : ByteArray := prog_19_method_49_code
def yJ2_indexOfSupplementary_4cfef : MethodName := ⟨RJ2, "indexOfSupplementary", "([BIII)I"⟩
abbrev cJ2_charAt_3b067 : ByteArray := prog_19_method_83_code
def yJ2_charAt_3b067 : MethodName := ⟨RJ2, "charAt", "([BI)C"⟩
abbrev cJ2_checkIndex_2214a : ByteArray := prog_19_method_91_code
def yJ2_checkIndex_2214a : MethodName := ⟨RJ2, "checkIndex", "(I[B)V"⟩
abbrev cJ2_checkBoundsBeginEnd_d044e : ByteArray := prog_19_method_93_code
def yJ2_checkBoundsBeginEnd_d044e : MethodName := ⟨RJ2, "checkBoundsBeginEnd", "(II[B)V"⟩
def RJ10 : String := "java/lang/System"
def RJxfd54e : String := "java/lang/constant/Constable"
def RJx3cf43 : String := "java/lang/constant/ConstantDesc"
def RJ7 : String := "java/util/Arrays"
abbrev cJ7_fill_d0a16 : ByteArray := prog_21_method_101_code
def yJ7_fill_d0a16 : MethodName := ⟨RJ7, "fill", "([JJ)V"⟩
abbrev cJ7_fill_53178 : ByteArray := prog_21_method_103_code
def yJ7_fill_53178 : MethodName := ⟨RJ7, "fill", "([II)V"⟩
def RJ3 : String := "jdk/internal/util/Preconditions"
abbrev cJ3_checkIndex_8e157 : ByteArray := prog_22_method_11_code
def yJ3_checkIndex_8e157 : MethodName := ⟨RJ3, "checkIndex", "(IILjava/util/function/BiFunction;)I"⟩
abbrev cJ3_checkFromToIndex_8c36e : ByteArray := prog_22_method_12_code
def yJ3_checkFromToIndex_8c36e : MethodName := ⟨RJ3, "checkFromToIndex", "(IIILjava/util/function/BiFunction;)I"⟩
def RL : String := "TurnHouseLaw"
abbrev cL_law : ByteArray := code
def yL_law : MethodName := ⟨RL, "law", "([I)Z"⟩
abbrev vwCl : List vw_C := [(RX0, TX0, 7), (RX1, TX1, 11), (RX2, TX2, 14), (RX3, TX3, 13), (RX4, TX4, 5), (RX5, TX5, 14), (RX6, TX6, 15), (RX7, TX7, 6), (RX8, TX8, 5), (RX9, TX9, 12), (RX10, TX10, 20), (RX11, TX11, 15), (RX12, TX12, 155)]
theorem mem_places {big ws : List Cond} (ps : List Nat) (hp : ws.map some = ps.map (fun i => big[i]?)) : ∀ w ∈ ws, w ∈ big := by
  intro w hw
  have h1 : some w ∈ ws.map some := List.mem_map.mpr ⟨w, hw, rfl⟩
  rw [hp] at h1
  obtain ⟨i, -, hi⟩ := List.mem_map.mp h1
  exact List.mem_of_getElem? hi
set_option maxRecDepth 100000 in
theorem inX0 : ∀ w ∈ wsX00, w ∈ lw_tbl := mem_places [615, 617, 619, 621, 623, 625, 627] (by decide +kernel)
set_option maxRecDepth 100000 in
theorem inX1 : ∀ w ∈ wsX10, w ∈ lw_tbl := mem_places [849, 851, 853, 855, 857, 859, 861, 863, 865, 867, 869] (by decide +kernel)
set_option maxRecDepth 100000 in
theorem inX2 : ∀ w ∈ wsX20, w ∈ lw_tbl := mem_places [768, 770, 772, 774, 776, 778, 780, 782, 784, 786, 788, 790, 792, 794] (by decide +kernel)
set_option maxRecDepth 100000 in
theorem inX3 : ∀ w ∈ wsX30, w ∈ lw_tbl := mem_places [572, 574, 576, 578, 580, 582, 584, 586, 588, 590, 592, 594, 596] (by decide +kernel)
set_option maxRecDepth 100000 in
theorem inX4 : ∀ w ∈ wsX40, w ∈ lw_tbl := mem_places [373, 375, 377, 379, 381] (by decide +kernel)
set_option maxRecDepth 100000 in
theorem inX5 : ∀ w ∈ wsX50, w ∈ lw_tbl := mem_places [440, 442, 444, 446, 448, 450, 452, 454, 456, 458, 460, 462, 464, 466] (by decide +kernel)
set_option maxRecDepth 100000 in
theorem inX6 : ∀ w ∈ wsX60, w ∈ lw_tbl := mem_places [497, 499, 501, 503, 505, 507, 509, 511, 513, 515, 517, 519, 521, 523, 525] (by decide +kernel)
set_option maxRecDepth 100000 in
theorem inX7 : ∀ w ∈ wsX70, w ∈ lw_tbl := mem_places [655, 657, 659, 661, 663, 665] (by decide +kernel)
set_option maxRecDepth 100000 in
theorem inX8 : ∀ w ∈ wsX80, w ∈ lw_tbl := mem_places [818, 820, 822, 824, 826] (by decide +kernel)
set_option maxRecDepth 100000 in
theorem inX9 : ∀ w ∈ wsX90, w ∈ lw_tbl := mem_places [330, 332, 334, 336, 338, 340, 342, 344, 346, 348, 350, 352] (by decide +kernel)
set_option maxRecDepth 100000 in
theorem inX10 : ∀ w ∈ wsX100, w ∈ lw_tbl := mem_places [703, 705, 707, 709, 711, 713, 715, 717, 719, 721, 723, 725, 727, 729, 731, 733, 735, 737, 739, 741] (by decide +kernel)
set_option maxRecDepth 100000 in
theorem inX11 : ∀ w ∈ wsX110, w ∈ lw_tbl := mem_places [887, 889, 891, 893, 895, 897, 899, 901, 903, 905, 907, 909, 911, 913, 915] (by decide +kernel)
set_option maxRecDepth 100000 in
theorem inX12 : ∀ w ∈ wsX120, w ∈ lw_tbl := mem_places [2105, 2107, 2109, 2111, 2113, 2115, 2117, 2119, 2121, 2123, 2125, 2127, 2129, 2131, 2133, 2135, 2137, 2139, 2141, 2143, 2145, 2147, 2149, 2151, 2153, 2155, 2157, 2159, 2161, 2163, 2165, 2167, 2169, 2171, 2173, 2175, 2177, 2179, 2181, 2183, 2185, 2187, 2189, 2191, 2193, 2195, 2197, 2199, 2201, 2203, 2205, 2207, 2209, 2211, 2213, 2215, 2217, 2219, 2221, 2223, 2225, 2227, 2229, 2231, 2233, 2235, 2237, 2239, 2241, 2243, 2245, 2247, 2249, 2251, 2253, 2255, 2257, 2259, 2261, 2263, 2265, 2267, 2269, 2271, 2273, 2275, 2277, 2279, 2281, 2283, 2285, 2287, 2289, 2291, 2293, 2295, 2297, 2299, 2301, 2303, 2305, 2307, 2309, 2311, 2313, 2315, 2317, 2319, 2321, 2323, 2325, 2327, 2329, 2331, 2333, 2335, 2337, 2339, 2341, 2343, 2345, 2347, 2349, 2351, 2353, 2355, 2357, 2359, 2361, 2363, 2365, 2367, 2369, 2371, 2373, 2375, 2377, 2379, 2381, 2383, 2385, 2387, 2389, 2391, 2393, 2395, 2397, 2399, 2401, 2403, 2405, 2407, 2409, 2411, 2413] (by decide +kernel)
