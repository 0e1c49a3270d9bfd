/-! THE TABLES OF THE CELLS, by names. -/
theorem allT {p : Nat → Bool} (h : (List.range qNC).all p = true) {t : Nat} (ht : t < qNC) : p t = true := List.all_eq_true.mp h t (List.mem_range.mpr ht)
theorem q_recvOf {a ci : Nat} (h : lc a = ci) (h2 : decide (ci < 13) = true) : q_recv ci (.ref a) = true := decide_eq_true ⟨h, of_decide_eq_true h2⟩
theorem allC {c : Nat} {p : Nat → Bool} (hc : c < 99) (h : (List.range qNC).all (fun t => !(lc t == c) || p t) = true) {t : Nat} (ht : lc t = c) : p t = true := by
  have h1 := allT h (t := t) (lc_lt (by omega))
  simp only [ht, BEq.rfl, Bool.not_true, Bool.false_or] at h1
  exact h1
theorem inB_lt {i : Int32} {n : Nat} (h : p_inB i n = true) : i.toNatClampNeg < n := Nat.not_le.mp fun z => (p_inB_spec h) (Or.inr z)
theorem rowT {n : Nat} {p : Nat → Bool} (h : (List.range n).all p = true) {i : Int32} (hi : p_inB i n = true) : p i.toNatClampNeg = true := List.all_eq_true.mp h _ (List.mem_range.mpr (inB_lt hi))
theorem lc_0 : lc 0 = 11 := by decide +kernel
theorem lc_1 : lc 1 = 9 := by decide +kernel
theorem lc_2 : lc 2 = 23 := by decide +kernel
theorem ln_2 : ln 2 = 4000 := by decide +kernel
theorem lc_3 : lc 3 = 21 := by decide +kernel
theorem ln_3 : ln 3 = 33 := by decide +kernel
theorem lc_4 : lc 4 = 20 := by decide +kernel
theorem ln_4 : ln 4 = 4001 := by decide +kernel
theorem lc_5 : lc 5 = 20 := by decide +kernel
theorem ln_5 : ln 5 = 4001 := by decide +kernel
theorem lc_6 : lc 6 = 21 := by decide +kernel
theorem ln_6 : ln 6 = 4001 := by decide +kernel
theorem lc_7 : lc 7 = 4 := by decide +kernel
theorem lc_8 : lc 8 = 20 := by decide +kernel
theorem ln_8 : ln 8 = 500 := by decide +kernel
theorem lc_9 : lc 9 = 20 := by decide +kernel
theorem ln_9 : ln 9 = 500 := by decide +kernel
theorem lc_10 : lc 10 = 20 := by decide +kernel
theorem ln_10 : ln 10 = 502 := by decide +kernel
theorem lc_11 : lc 11 = 5 := by decide +kernel
theorem lc_12 : lc 12 = 21 := by decide +kernel
theorem ln_12 : ln 12 = 16 := by decide +kernel
theorem lc_13 : lc 13 = 21 := by decide +kernel
theorem ln_13 : ln 13 = 24 := by decide +kernel
theorem lc_14 : lc 14 = 20 := by decide +kernel
theorem ln_14 : ln 14 = 4 := by decide +kernel
theorem lc_15 : lc 15 = 20 := by decide +kernel
theorem ln_15 : ln 15 = 8 := by decide +kernel
theorem lc_16 : lc 16 = 20 := by decide +kernel
theorem ln_16 : ln 16 = 4 := by decide +kernel
theorem lc_17 : lc 17 = 24 := by decide +kernel
theorem ln_17 : ln 17 = 18 := by decide +kernel
theorem lc_18 : lc 18 = 20 := by decide +kernel
theorem ln_18 : ln 18 = 100 := by decide +kernel
theorem lc_19 : lc 19 = 20 := by decide +kernel
theorem ln_19 : ln 19 = 100 := by decide +kernel
theorem lc_20 : lc 20 = 20 := by decide +kernel
theorem ln_20 : ln 20 = 100 := by decide +kernel
theorem lc_21 : lc 21 = 20 := by decide +kernel
theorem ln_21 : ln 21 = 100 := by decide +kernel
theorem lc_22 : lc 22 = 20 := by decide +kernel
theorem ln_22 : ln 22 = 100 := by decide +kernel
theorem lc_23 : lc 23 = 20 := by decide +kernel
theorem ln_23 : ln 23 = 100 := by decide +kernel
theorem lc_24 : lc 24 = 20 := by decide +kernel
theorem ln_24 : ln 24 = 100 := by decide +kernel
theorem lc_25 : lc 25 = 20 := by decide +kernel
theorem ln_25 : ln 25 = 100 := by decide +kernel
theorem lc_26 : lc 26 = 20 := by decide +kernel
theorem ln_26 : ln 26 = 100 := by decide +kernel
theorem lc_27 : lc 27 = 20 := by decide +kernel
theorem ln_27 : ln 27 = 100 := by decide +kernel
theorem lc_28 : lc 28 = 20 := by decide +kernel
theorem ln_28 : ln 28 = 100 := by decide +kernel
theorem lc_29 : lc 29 = 20 := by decide +kernel
theorem ln_29 : ln 29 = 100 := by decide +kernel
theorem lc_30 : lc 30 = 20 := by decide +kernel
theorem ln_30 : ln 30 = 100 := by decide +kernel
theorem lc_31 : lc 31 = 20 := by decide +kernel
theorem ln_31 : ln 31 = 100 := by decide +kernel
theorem lc_32 : lc 32 = 20 := by decide +kernel
theorem ln_32 : ln 32 = 100 := by decide +kernel
theorem lc_33 : lc 33 = 20 := by decide +kernel
theorem ln_33 : ln 33 = 100 := by decide +kernel
theorem lc_34 : lc 34 = 20 := by decide +kernel
theorem ln_34 : ln 34 = 100 := by decide +kernel
theorem lc_35 : lc 35 = 20 := by decide +kernel
theorem ln_35 : ln 35 = 100 := by decide +kernel
theorem lc_36 : lc 36 = 5 := by decide +kernel
theorem lc_37 : lc 37 = 21 := by decide +kernel
theorem ln_37 : ln 37 = 16 := by decide +kernel
theorem lc_38 : lc 38 = 21 := by decide +kernel
theorem ln_38 : ln 38 = 24 := by decide +kernel
theorem lc_39 : lc 39 = 20 := by decide +kernel
theorem ln_39 : ln 39 = 4 := by decide +kernel
theorem lc_40 : lc 40 = 20 := by decide +kernel
theorem ln_40 : ln 40 = 8 := by decide +kernel
theorem lc_41 : lc 41 = 20 := by decide +kernel
theorem ln_41 : ln 41 = 4 := by decide +kernel
theorem lc_42 : lc 42 = 24 := by decide +kernel
theorem ln_42 : ln 42 = 18 := by decide +kernel
theorem lc_43 : lc 43 = 20 := by decide +kernel
theorem ln_43 : ln 43 = 100 := by decide +kernel
theorem lc_44 : lc 44 = 20 := by decide +kernel
theorem ln_44 : ln 44 = 100 := by decide +kernel
theorem lc_45 : lc 45 = 20 := by decide +kernel
theorem ln_45 : ln 45 = 100 := by decide +kernel
theorem lc_46 : lc 46 = 20 := by decide +kernel
theorem ln_46 : ln 46 = 100 := by decide +kernel
theorem lc_47 : lc 47 = 20 := by decide +kernel
theorem ln_47 : ln 47 = 100 := by decide +kernel
theorem lc_48 : lc 48 = 20 := by decide +kernel
theorem ln_48 : ln 48 = 100 := by decide +kernel
theorem lc_49 : lc 49 = 20 := by decide +kernel
theorem ln_49 : ln 49 = 100 := by decide +kernel
theorem lc_50 : lc 50 = 20 := by decide +kernel
theorem ln_50 : ln 50 = 100 := by decide +kernel
theorem lc_51 : lc 51 = 20 := by decide +kernel
theorem ln_51 : ln 51 = 100 := by decide +kernel
theorem lc_52 : lc 52 = 20 := by decide +kernel
theorem ln_52 : ln 52 = 100 := by decide +kernel
theorem lc_53 : lc 53 = 20 := by decide +kernel
theorem ln_53 : ln 53 = 100 := by decide +kernel
theorem lc_54 : lc 54 = 20 := by decide +kernel
theorem ln_54 : ln 54 = 100 := by decide +kernel
theorem lc_55 : lc 55 = 20 := by decide +kernel
theorem ln_55 : ln 55 = 100 := by decide +kernel
theorem lc_56 : lc 56 = 20 := by decide +kernel
theorem ln_56 : ln 56 = 100 := by decide +kernel
theorem lc_57 : lc 57 = 20 := by decide +kernel
theorem ln_57 : ln 57 = 100 := by decide +kernel
theorem lc_58 : lc 58 = 20 := by decide +kernel
theorem ln_58 : ln 58 = 100 := by decide +kernel
theorem lc_59 : lc 59 = 20 := by decide +kernel
theorem ln_59 : ln 59 = 100 := by decide +kernel
theorem lc_60 : lc 60 = 20 := by decide +kernel
theorem ln_60 : ln 60 = 100 := by decide +kernel
theorem lc_61 : lc 61 = 4 := by decide +kernel
theorem lc_62 : lc 62 = 20 := by decide +kernel
theorem ln_62 : ln 62 = 400 := by decide +kernel
theorem lc_63 : lc 63 = 20 := by decide +kernel
theorem ln_63 : ln 63 = 400 := by decide +kernel
theorem lc_64 : lc 64 = 20 := by decide +kernel
theorem ln_64 : ln 64 = 402 := by decide +kernel
theorem lc_65 : lc 65 = 6 := by decide +kernel
theorem lc_66 : lc 66 = 21 := by decide +kernel
theorem ln_66 : ln 66 = 7 := by decide +kernel
theorem lc_67 : lc 67 = 21 := by decide +kernel
theorem ln_67 : ln 67 = 100 := by decide +kernel
theorem lc_68 : lc 68 = 20 := by decide +kernel
theorem ln_68 : ln 68 = 100 := by decide +kernel
theorem lc_69 : lc 69 = 20 := by decide +kernel
theorem ln_69 : ln 69 = 4 := by decide +kernel
theorem lc_70 : lc 70 = 10 := by decide +kernel
theorem lc_71 : lc 71 = 3 := by decide +kernel
theorem lc_72 : lc 72 = 20 := by decide +kernel
theorem ln_72 : ln 72 = 236 := by decide +kernel
theorem lc_73 : lc 73 = 20 := by decide +kernel
theorem ln_73 : ln 73 = 236 := by decide +kernel
theorem lc_74 : lc 74 = 20 := by decide +kernel
theorem ln_74 : ln 74 = 40 := by decide +kernel
theorem lc_75 : lc 75 = 20 := by decide +kernel
theorem ln_75 : ln 75 = 220 := by decide +kernel
theorem lc_76 : lc 76 = 0 := by decide +kernel
theorem lc_77 : lc 77 = 20 := by decide +kernel
theorem ln_77 : ln 77 = 10000 := by decide +kernel
theorem lc_78 : lc 78 = 20 := by decide +kernel
theorem ln_78 : ln 78 = 8 := by decide +kernel
theorem lc_79 : lc 79 = 20 := by decide +kernel
theorem ln_79 : ln 79 = 4 := by decide +kernel
theorem lc_80 : lc 80 = 20 := by decide +kernel
theorem ln_80 : ln 80 = 5 := by decide +kernel
theorem lc_81 : lc 81 = 20 := by decide +kernel
theorem ln_81 : ln 81 = 4 := by decide +kernel
theorem lc_82 : lc 82 = 20 := by decide +kernel
theorem ln_82 : ln 82 = 4 := by decide +kernel
theorem lc_83 : lc 83 = 7 := by decide +kernel
theorem lc_84 : lc 84 = 21 := by decide +kernel
theorem ln_84 : ln 84 = 740000 := by decide +kernel
theorem lc_85 : lc 85 = 20 := by decide +kernel
theorem ln_85 : ln 85 = 20000 := by decide +kernel
theorem lc_86 : lc 86 = 20 := by decide +kernel
theorem ln_86 : ln 86 = 32768 := by decide +kernel
theorem lc_87 : lc 87 = 7 := by decide +kernel
theorem lc_88 : lc 88 = 20 := by decide +kernel
theorem ln_88 : ln 88 = 20000 := by decide +kernel
theorem lc_89 : lc 89 = 20 := by decide +kernel
theorem ln_89 : ln 89 = 32768 := by decide +kernel
theorem lc_90 : lc 90 = 20 := by decide +kernel
theorem ln_90 : ln 90 = 200000 := by decide +kernel
theorem lc_91 : lc 91 = 20 := by decide +kernel
theorem ln_91 : ln 91 = 20000 := by decide +kernel
theorem lc_92 : lc 92 = 20 := by decide +kernel
theorem ln_92 : ln 92 = 20001 := by decide +kernel
theorem lc_93 : lc 93 = 20 := by decide +kernel
theorem ln_93 : ln 93 = 20000 := by decide +kernel
theorem lc_94 : lc 94 = 21 := by decide +kernel
theorem ln_94 : ln 94 = 110 := by decide +kernel
theorem lc_95 : lc 95 = 20 := by decide +kernel
theorem ln_95 : ln 95 = 4 := by decide +kernel
theorem lc_96 : lc 96 = 20 := by decide +kernel
theorem ln_96 : ln 96 = 80000 := by decide +kernel
theorem lc_97 : lc 97 = 20 := by decide +kernel
theorem ln_97 : ln 97 = 80000 := by decide +kernel
theorem lc_98 : lc 98 = 20 := by decide +kernel
theorem ln_98 : ln 98 = 80000 := by decide +kernel
theorem lc_99 : lc 99 = 7 := by decide +kernel
theorem lc_100 : lc 100 = 21 := by decide +kernel
theorem ln_100 : ln 100 = 68000 := by decide +kernel
theorem lc_101 : lc 101 = 20 := by decide +kernel
theorem ln_101 : ln 101 = 4000 := by decide +kernel
theorem lc_102 : lc 102 = 20 := by decide +kernel
theorem ln_102 : ln 102 = 8192 := by decide +kernel
theorem lc_103 : lc 103 = 2 := by decide +kernel
theorem lc_104 : lc 104 = 20 := by decide +kernel
theorem ln_104 : ln 104 = 20000 := by decide +kernel
theorem lc_105 : lc 105 = 20 := by decide +kernel
theorem ln_105 : ln 105 = 20000 := by decide +kernel
theorem lc_106 : lc 106 = 20 := by decide +kernel
theorem ln_106 : ln 106 = 20000 := by decide +kernel
theorem lc_107 : lc 107 = 20 := by decide +kernel
theorem ln_107 : ln 107 = 20000 := by decide +kernel
theorem lc_108 : lc 108 = 20 := by decide +kernel
theorem ln_108 : ln 108 = 20000 := by decide +kernel
theorem lc_109 : lc 109 = 20 := by decide +kernel
theorem ln_109 : ln 109 = 20000 := by decide +kernel
theorem lc_110 : lc 110 = 20 := by decide +kernel
theorem ln_110 : ln 110 = 20000 := by decide +kernel
theorem lc_111 : lc 111 = 8 := by decide +kernel
theorem lc_112 : lc 112 = 3 := by decide +kernel
theorem lc_113 : lc 113 = 20 := by decide +kernel
theorem ln_113 : ln 113 = 236 := by decide +kernel
theorem lc_114 : lc 114 = 20 := by decide +kernel
theorem ln_114 : ln 114 = 236 := by decide +kernel
theorem lc_115 : lc 115 = 20 := by decide +kernel
theorem ln_115 : ln 115 = 40 := by decide +kernel
theorem lc_116 : lc 116 = 20 := by decide +kernel
theorem ln_116 : ln 116 = 220 := by decide +kernel
theorem lc_117 : lc 117 = 24 := by decide +kernel
theorem ln_117 : ln 117 = 6 := by decide +kernel
theorem lc_118 : lc 118 = 20 := by decide +kernel
theorem ln_118 : ln 118 = 200 := by decide +kernel
theorem lc_119 : lc 119 = 20 := by decide +kernel
theorem ln_119 : ln 119 = 200 := by decide +kernel
theorem lc_120 : lc 120 = 20 := by decide +kernel
theorem ln_120 : ln 120 = 200 := by decide +kernel
theorem lc_121 : lc 121 = 20 := by decide +kernel
theorem ln_121 : ln 121 = 200 := by decide +kernel
theorem lc_122 : lc 122 = 20 := by decide +kernel
theorem ln_122 : ln 122 = 200 := by decide +kernel
theorem lc_123 : lc 123 = 20 := by decide +kernel
theorem ln_123 : ln 123 = 200 := by decide +kernel
theorem lc_124 : lc 124 = 21 := by decide +kernel
theorem ln_124 : ln 124 = 800 := by decide +kernel
theorem lc_125 : lc 125 = 1 := by decide +kernel
theorem lc_126 : lc 126 = 24 := by decide +kernel
theorem ln_126 : ln 126 = 6 := by decide +kernel
theorem lc_127 : lc 127 = 20 := by decide +kernel
theorem ln_127 : ln 127 = 200 := by decide +kernel
theorem lc_128 : lc 128 = 20 := by decide +kernel
theorem ln_128 : ln 128 = 200 := by decide +kernel
theorem lc_129 : lc 129 = 20 := by decide +kernel
theorem ln_129 : ln 129 = 200 := by decide +kernel
theorem lc_130 : lc 130 = 20 := by decide +kernel
theorem ln_130 : ln 130 = 200 := by decide +kernel
theorem lc_131 : lc 131 = 20 := by decide +kernel
theorem ln_131 : ln 131 = 200 := by decide +kernel
theorem lc_132 : lc 132 = 20 := by decide +kernel
theorem ln_132 : ln 132 = 200 := by decide +kernel
theorem lc_133 : lc 133 = 24 := by decide +kernel
theorem ln_133 : ln 133 = 13 := by decide +kernel
theorem lc_134 : lc 134 = 20 := by decide +kernel
theorem ln_134 : ln 134 = 13 := by decide +kernel
theorem lc_135 : lc 135 = 20 := by decide +kernel
theorem ln_135 : ln 135 = 13 := by decide +kernel
theorem lc_136 : lc 136 = 20 := by decide +kernel
theorem ln_136 : ln 136 = 13 := by decide +kernel
theorem lc_137 : lc 137 = 20 := by decide +kernel
theorem ln_137 : ln 137 = 13 := by decide +kernel
theorem lc_138 : lc 138 = 20 := by decide +kernel
theorem ln_138 : ln 138 = 13 := by decide +kernel
theorem lc_139 : lc 139 = 20 := by decide +kernel
theorem ln_139 : ln 139 = 13 := by decide +kernel
theorem lc_140 : lc 140 = 20 := by decide +kernel
theorem ln_140 : ln 140 = 13 := by decide +kernel
theorem lc_141 : lc 141 = 20 := by decide +kernel
theorem ln_141 : ln 141 = 13 := by decide +kernel
theorem lc_142 : lc 142 = 20 := by decide +kernel
theorem ln_142 : ln 142 = 13 := by decide +kernel
theorem lc_143 : lc 143 = 20 := by decide +kernel
theorem ln_143 : ln 143 = 13 := by decide +kernel
theorem lc_144 : lc 144 = 20 := by decide +kernel
theorem ln_144 : ln 144 = 13 := by decide +kernel
theorem lc_145 : lc 145 = 20 := by decide +kernel
theorem ln_145 : ln 145 = 13 := by decide +kernel
theorem lc_146 : lc 146 = 20 := by decide +kernel
theorem ln_146 : ln 146 = 13 := by decide +kernel
theorem lc_147 : lc 147 = 20 := by decide +kernel
theorem ln_147 : ln 147 = 13 := by decide +kernel
theorem lc_148 : lc 148 = 20 := by decide +kernel
theorem ln_148 : ln 148 = 4 := by decide +kernel
theorem lc_149 : lc 149 = 20 := by decide +kernel
theorem ln_149 : ln 149 = 12 := by decide +kernel
theorem lc_150 : lc 150 = 20 := by decide +kernel
theorem ln_150 : ln 150 = 12 := by decide +kernel
theorem lr_0_0 : lr 0 0 = 1 := by decide +kernel
theorem lr_0_1 : lr 0 1 = 11 := by decide +kernel
theorem lr_0_2 : lr 0 2 = 36 := by decide +kernel
theorem lr_0_3 : lr 0 3 = 65 := by decide +kernel
theorem lr_0_4 : lr 0 4 = 70 := by decide +kernel
theorem lr_0_5 : lr 0 5 = 99 := by decide +kernel
theorem lr_0_6 : lr 0 6 = 103 := by decide +kernel
theorem lr_0_7 : lr 0 7 = 111 := by decide +kernel
theorem lr_0_8 : lr 0 8 = 125 := by decide +kernel
theorem lr_1_0 : lr 1 0 = 2 := by decide +kernel
theorem lr_1_1 : lr 1 1 = 3 := by decide +kernel
theorem lr_1_2 : lr 1 2 = 4 := by decide +kernel
theorem lr_1_3 : lr 1 3 = 5 := by decide +kernel
theorem lr_1_4 : lr 1 4 = 6 := by decide +kernel
theorem lr_7_0 : lr 7 0 = 8 := by decide +kernel
theorem lr_7_1 : lr 7 1 = 9 := by decide +kernel
theorem lr_7_2 : lr 7 2 = 10 := by decide +kernel
theorem lr_11_0 : lr 11 0 = 7 := by decide +kernel
theorem lr_11_1 : lr 11 1 = 12 := by decide +kernel
theorem lr_11_2 : lr 11 2 = 13 := by decide +kernel
theorem lr_11_3 : lr 11 3 = 14 := by decide +kernel
theorem lr_11_4 : lr 11 4 = 15 := by decide +kernel
theorem lr_11_5 : lr 11 5 = 16 := by decide +kernel
theorem lr_11_6 : lr 11 6 = 17 := by decide +kernel
theorem lr_17_0 : lr 17 0 = 18 := by decide +kernel
theorem lr_36_0 : lr 36 0 = 7 := by decide +kernel
theorem lr_36_1 : lr 36 1 = 37 := by decide +kernel
theorem lr_36_2 : lr 36 2 = 38 := by decide +kernel
theorem lr_36_3 : lr 36 3 = 39 := by decide +kernel
theorem lr_36_4 : lr 36 4 = 40 := by decide +kernel
theorem lr_36_5 : lr 36 5 = 41 := by decide +kernel
theorem lr_36_6 : lr 36 6 = 42 := by decide +kernel
theorem lr_42_0 : lr 42 0 = 43 := by decide +kernel
theorem lr_61_0 : lr 61 0 = 62 := by decide +kernel
theorem lr_61_1 : lr 61 1 = 63 := by decide +kernel
theorem lr_61_2 : lr 61 2 = 64 := by decide +kernel
theorem lr_65_0 : lr 65 0 = 1 := by decide +kernel
theorem lr_65_1 : lr 65 1 = 11 := by decide +kernel
theorem lr_65_2 : lr 65 2 = 61 := by decide +kernel
theorem lr_65_3 : lr 65 3 = 66 := by decide +kernel
theorem lr_65_4 : lr 65 4 = 67 := by decide +kernel
theorem lr_65_5 : lr 65 5 = 68 := by decide +kernel
theorem lr_65_6 : lr 65 6 = 69 := by decide +kernel
theorem lr_70_0 : lr 70 0 = 71 := by decide +kernel
theorem lr_70_1 : lr 70 1 = 76 := by decide +kernel
theorem lr_70_2 : lr 70 2 = 83 := by decide +kernel
theorem lr_70_3 : lr 70 3 = 87 := by decide +kernel
theorem lr_70_4 : lr 70 4 = 90 := by decide +kernel
theorem lr_70_5 : lr 70 5 = 91 := by decide +kernel
theorem lr_70_6 : lr 70 6 = 92 := by decide +kernel
theorem lr_70_7 : lr 70 7 = 93 := by decide +kernel
theorem lr_70_8 : lr 70 8 = 94 := by decide +kernel
theorem lr_70_9 : lr 70 9 = 95 := by decide +kernel
theorem lr_70_10 : lr 70 10 = 96 := by decide +kernel
theorem lr_70_11 : lr 70 11 = 97 := by decide +kernel
theorem lr_70_12 : lr 70 12 = 98 := by decide +kernel
theorem lr_71_0 : lr 71 0 = 72 := by decide +kernel
theorem lr_71_1 : lr 71 1 = 73 := by decide +kernel
theorem lr_71_2 : lr 71 2 = 74 := by decide +kernel
theorem lr_71_4 : lr 71 4 = 75 := by decide +kernel
theorem lr_76_0 : lr 76 0 = 77 := by decide +kernel
theorem lr_76_1 : lr 76 1 = 78 := by decide +kernel
theorem lr_76_2 : lr 76 2 = 79 := by decide +kernel
theorem lr_76_3 : lr 76 3 = 80 := by decide +kernel
theorem lr_76_4 : lr 76 4 = 81 := by decide +kernel
theorem lr_76_5 : lr 76 5 = 82 := by decide +kernel
theorem lr_83_0 : lr 83 0 = 84 := by decide +kernel
theorem lr_83_1 : lr 83 1 = 85 := by decide +kernel
theorem lr_83_2 : lr 83 2 = 86 := by decide +kernel
theorem lr_87_0 : lr 87 0 = 84 := by decide +kernel
theorem lr_87_1 : lr 87 1 = 88 := by decide +kernel
theorem lr_87_2 : lr 87 2 = 89 := by decide +kernel
theorem lr_99_0 : lr 99 0 = 100 := by decide +kernel
theorem lr_99_1 : lr 99 1 = 101 := by decide +kernel
theorem lr_99_2 : lr 99 2 = 102 := by decide +kernel
theorem lr_103_0 : lr 103 0 = 70 := by decide +kernel
theorem lr_103_1 : lr 103 1 = 61 := by decide +kernel
theorem lr_103_2 : lr 103 2 = 104 := by decide +kernel
theorem lr_103_3 : lr 103 3 = 105 := by decide +kernel
theorem lr_103_4 : lr 103 4 = 106 := by decide +kernel
theorem lr_103_5 : lr 103 5 = 107 := by decide +kernel
theorem lr_103_6 : lr 103 6 = 108 := by decide +kernel
theorem lr_103_7 : lr 103 7 = 109 := by decide +kernel
theorem lr_103_8 : lr 103 8 = 110 := by decide +kernel
theorem lr_111_0 : lr 111 0 = 112 := by decide +kernel
theorem lr_111_1 : lr 111 1 = 117 := by decide +kernel
theorem lr_111_2 : lr 111 2 = 124 := by decide +kernel
theorem lr_112_0 : lr 112 0 = 113 := by decide +kernel
theorem lr_112_1 : lr 112 1 = 114 := by decide +kernel
theorem lr_112_2 : lr 112 2 = 115 := by decide +kernel
theorem lr_112_4 : lr 112 4 = 116 := by decide +kernel
theorem lr_117_0 : lr 117 0 = 118 := by decide +kernel
theorem lr_125_0 : lr 125 0 = 126 := by decide +kernel
theorem lr_125_1 : lr 125 1 = 133 := by decide +kernel
theorem lr_125_2 : lr 125 2 = 147 := by decide +kernel
theorem lr_125_3 : lr 125 3 = 148 := by decide +kernel
theorem lr_125_4 : lr 125 4 = 149 := by decide +kernel
theorem lr_125_5 : lr 125 5 = 150 := by decide +kernel
theorem lr_126_0 : lr 126 0 = 127 := by decide +kernel
theorem lr_133_0 : lr 133 0 = 134 := by decide +kernel
theorem fo_3_0 {t : Nat} (h : lc t = 3) : lr t 0 = t + 1 := of_decide_eq_true (allC (p := fun t => decide (lr t 0 = t + 1)) (by decide) (by decide +kernel) h)
theorem fc_3_0 {t : Nat} (h : lc t = 3) : lc (t + 1) = 20 := of_decide_eq_true (allC (p := fun t => decide (lc (t + 1) = 20)) (by decide) (by decide +kernel) h)
theorem fl_3_0 {t : Nat} (h : lc t = 3) : ln (t + 1) = 236 := of_decide_eq_true (allC (p := fun t => decide (ln (t + 1) = 236)) (by decide) (by decide +kernel) h)
theorem fo_3_1 {t : Nat} (h : lc t = 3) : lr t 1 = t + 2 := of_decide_eq_true (allC (p := fun t => decide (lr t 1 = t + 2)) (by decide) (by decide +kernel) h)
theorem fc_3_1 {t : Nat} (h : lc t = 3) : lc (t + 2) = 20 := of_decide_eq_true (allC (p := fun t => decide (lc (t + 2) = 20)) (by decide) (by decide +kernel) h)
theorem fl_3_1 {t : Nat} (h : lc t = 3) : ln (t + 2) = 236 := of_decide_eq_true (allC (p := fun t => decide (ln (t + 2) = 236)) (by decide) (by decide +kernel) h)
theorem fo_3_2 {t : Nat} (h : lc t = 3) : lr t 2 = t + 3 := of_decide_eq_true (allC (p := fun t => decide (lr t 2 = t + 3)) (by decide) (by decide +kernel) h)
theorem fc_3_2 {t : Nat} (h : lc t = 3) : lc (t + 3) = 20 := of_decide_eq_true (allC (p := fun t => decide (lc (t + 3) = 20)) (by decide) (by decide +kernel) h)
theorem fl_3_2 {t : Nat} (h : lc t = 3) : ln (t + 3) = 40 := of_decide_eq_true (allC (p := fun t => decide (ln (t + 3) = 40)) (by decide) (by decide +kernel) h)
theorem fo_3_4 {t : Nat} (h : lc t = 3) : lr t 4 = t + 4 := of_decide_eq_true (allC (p := fun t => decide (lr t 4 = t + 4)) (by decide) (by decide +kernel) h)
theorem fc_3_4 {t : Nat} (h : lc t = 3) : lc (t + 4) = 20 := of_decide_eq_true (allC (p := fun t => decide (lc (t + 4) = 20)) (by decide) (by decide +kernel) h)
theorem fl_3_4 {t : Nat} (h : lc t = 3) : ln (t + 4) = 220 := of_decide_eq_true (allC (p := fun t => decide (ln (t + 4) = 220)) (by decide) (by decide +kernel) h)
theorem fo_4_0 {t : Nat} (h : lc t = 4) : lr t 0 = t + 1 := of_decide_eq_true (allC (p := fun t => decide (lr t 0 = t + 1)) (by decide) (by decide +kernel) h)
theorem fc_4_0 {t : Nat} (h : lc t = 4) : lc (t + 1) = 20 := of_decide_eq_true (allC (p := fun t => decide (lc (t + 1) = 20)) (by decide) (by decide +kernel) h)
theorem fo_4_1 {t : Nat} (h : lc t = 4) : lr t 1 = t + 2 := of_decide_eq_true (allC (p := fun t => decide (lr t 1 = t + 2)) (by decide) (by decide +kernel) h)
theorem fc_4_1 {t : Nat} (h : lc t = 4) : lc (t + 2) = 20 := of_decide_eq_true (allC (p := fun t => decide (lc (t + 2) = 20)) (by decide) (by decide +kernel) h)
theorem fo_4_2 {t : Nat} (h : lc t = 4) : lr t 2 = t + 3 := of_decide_eq_true (allC (p := fun t => decide (lr t 2 = t + 3)) (by decide) (by decide +kernel) h)
theorem fc_4_2 {t : Nat} (h : lc t = 4) : lc (t + 3) = 20 := of_decide_eq_true (allC (p := fun t => decide (lc (t + 3) = 20)) (by decide) (by decide +kernel) h)
theorem fo_5_0 {t : Nat} (h : lc t = 5) : lr t 0 = 7 := of_decide_eq_true (allC (p := fun t => decide (lr t 0 = 7)) (by decide) (by decide +kernel) h)
theorem fo_5_1 {t : Nat} (h : lc t = 5) : lr t 1 = t + 1 := of_decide_eq_true (allC (p := fun t => decide (lr t 1 = t + 1)) (by decide) (by decide +kernel) h)
theorem fc_5_1 {t : Nat} (h : lc t = 5) : lc (t + 1) = 21 := of_decide_eq_true (allC (p := fun t => decide (lc (t + 1) = 21)) (by decide) (by decide +kernel) h)
theorem fl_5_1 {t : Nat} (h : lc t = 5) : ln (t + 1) = 16 := of_decide_eq_true (allC (p := fun t => decide (ln (t + 1) = 16)) (by decide) (by decide +kernel) h)
theorem fo_5_2 {t : Nat} (h : lc t = 5) : lr t 2 = t + 2 := of_decide_eq_true (allC (p := fun t => decide (lr t 2 = t + 2)) (by decide) (by decide +kernel) h)
theorem fc_5_2 {t : Nat} (h : lc t = 5) : lc (t + 2) = 21 := of_decide_eq_true (allC (p := fun t => decide (lc (t + 2) = 21)) (by decide) (by decide +kernel) h)
theorem fl_5_2 {t : Nat} (h : lc t = 5) : ln (t + 2) = 24 := of_decide_eq_true (allC (p := fun t => decide (ln (t + 2) = 24)) (by decide) (by decide +kernel) h)
theorem fo_5_3 {t : Nat} (h : lc t = 5) : lr t 3 = t + 3 := of_decide_eq_true (allC (p := fun t => decide (lr t 3 = t + 3)) (by decide) (by decide +kernel) h)
theorem fc_5_3 {t : Nat} (h : lc t = 5) : lc (t + 3) = 20 := of_decide_eq_true (allC (p := fun t => decide (lc (t + 3) = 20)) (by decide) (by decide +kernel) h)
theorem fl_5_3 {t : Nat} (h : lc t = 5) : ln (t + 3) = 4 := of_decide_eq_true (allC (p := fun t => decide (ln (t + 3) = 4)) (by decide) (by decide +kernel) h)
theorem fo_5_4 {t : Nat} (h : lc t = 5) : lr t 4 = t + 4 := of_decide_eq_true (allC (p := fun t => decide (lr t 4 = t + 4)) (by decide) (by decide +kernel) h)
theorem fc_5_4 {t : Nat} (h : lc t = 5) : lc (t + 4) = 20 := of_decide_eq_true (allC (p := fun t => decide (lc (t + 4) = 20)) (by decide) (by decide +kernel) h)
theorem fl_5_4 {t : Nat} (h : lc t = 5) : ln (t + 4) = 8 := of_decide_eq_true (allC (p := fun t => decide (ln (t + 4) = 8)) (by decide) (by decide +kernel) h)
theorem fo_5_5 {t : Nat} (h : lc t = 5) : lr t 5 = t + 5 := of_decide_eq_true (allC (p := fun t => decide (lr t 5 = t + 5)) (by decide) (by decide +kernel) h)
theorem fc_5_5 {t : Nat} (h : lc t = 5) : lc (t + 5) = 20 := of_decide_eq_true (allC (p := fun t => decide (lc (t + 5) = 20)) (by decide) (by decide +kernel) h)
theorem fl_5_5 {t : Nat} (h : lc t = 5) : ln (t + 5) = 4 := of_decide_eq_true (allC (p := fun t => decide (ln (t + 5) = 4)) (by decide) (by decide +kernel) h)
theorem fo_5_6 {t : Nat} (h : lc t = 5) : lr t 6 = t + 6 := of_decide_eq_true (allC (p := fun t => decide (lr t 6 = t + 6)) (by decide) (by decide +kernel) h)
theorem fc_5_6 {t : Nat} (h : lc t = 5) : lc (t + 6) = 24 := of_decide_eq_true (allC (p := fun t => decide (lc (t + 6) = 24)) (by decide) (by decide +kernel) h)
theorem fl_5_6 {t : Nat} (h : lc t = 5) : ln (t + 6) = 18 := of_decide_eq_true (allC (p := fun t => decide (ln (t + 6) = 18)) (by decide) (by decide +kernel) h)
theorem fc_7_0 {t : Nat} (h : lc t = 7) : lc (lr t 0) = 21 := of_decide_eq_true (allC (p := fun t => decide (lc (lr t 0) = 21)) (by decide) (by decide +kernel) h)
theorem fc_7_1 {t : Nat} (h : lc t = 7) : lc (lr t 1) = 20 := of_decide_eq_true (allC (p := fun t => decide (lc (lr t 1) = 20)) (by decide) (by decide +kernel) h)
theorem fc_7_2 {t : Nat} (h : lc t = 7) : lc (lr t 2) = 20 := of_decide_eq_true (allC (p := fun t => decide (lc (lr t 2) = 20)) (by decide) (by decide +kernel) h)
theorem pes0 {t : Nat} (h : lc t = 5) : lr (t + 6) 0 = t + 7 := of_decide_eq_true (allC (p := fun t => decide (lr (t + 6) 0 = t + 7)) (by decide) (by decide +kernel) h)
theorem pes {t : Nat} (h : lc t = 5) (n : Nat) : lr (t + 6) 0 + n = t + 7 + n := by rw [pes0 h]
theorem pes_all {t : Nat} (h : lc t = 5) : ((List.range 18).all fun j => decide (lc (t + 7 + j) = 20 ∧ ln (t + 7 + j) = 100)) = true := allC (p := fun t => (List.range 18).all fun j => decide (lc (t + 7 + j) = 20 ∧ ln (t + 7 + j) = 100)) (by decide) (by decide +kernel) h
theorem pes_c {t : Nat} {i : Int32} (h : lc t = 5) (hi : p_inB i 18 = true) : lc (t + 7 + i.toNatClampNeg) = 20 := (of_decide_eq_true (rowT (pes_all h) hi)).1
theorem pes_l {t : Nat} {i : Int32} (h : lc t = 5) (hi : p_inB i 18 = true) : ln (t + 7 + i.toNatClampNeg) = 100 := (of_decide_eq_true (rowT (pes_all h) hi)).2
theorem pe_0 {t : Nat} (h : lc t = 5) : lr (t + 6) 0 + (0 : Int32).toNatClampNeg = t + 7 := by rw [pes0 h, show (0 : Int32).toNatClampNeg = 0 by decide +kernel]
theorem pe_c_0 {t : Nat} (h : lc t = 5) : lc (t + 7) = 20 := of_decide_eq_true (allC (p := fun t => decide (lc (t + 7) = 20)) (by decide) (by decide +kernel) h)
theorem pe_l_0 {t : Nat} (h : lc t = 5) : ln (t + 7) = 100 := of_decide_eq_true (allC (p := fun t => decide (ln (t + 7) = 100)) (by decide) (by decide +kernel) h)
theorem pe_1 {t : Nat} (h : lc t = 5) : lr (t + 6) 0 + (1 : Int32).toNatClampNeg = t + 8 := by rw [pes0 h, show (1 : Int32).toNatClampNeg = 1 by decide +kernel]
theorem pe_c_1 {t : Nat} (h : lc t = 5) : lc (t + 8) = 20 := of_decide_eq_true (allC (p := fun t => decide (lc (t + 8) = 20)) (by decide) (by decide +kernel) h)
theorem pe_l_1 {t : Nat} (h : lc t = 5) : ln (t + 8) = 100 := of_decide_eq_true (allC (p := fun t => decide (ln (t + 8) = 100)) (by decide) (by decide +kernel) h)
theorem pe_2 {t : Nat} (h : lc t = 5) : lr (t + 6) 0 + (2 : Int32).toNatClampNeg = t + 9 := by rw [pes0 h, show (2 : Int32).toNatClampNeg = 2 by decide +kernel]
theorem pe_c_2 {t : Nat} (h : lc t = 5) : lc (t + 9) = 20 := of_decide_eq_true (allC (p := fun t => decide (lc (t + 9) = 20)) (by decide) (by decide +kernel) h)
theorem pe_l_2 {t : Nat} (h : lc t = 5) : ln (t + 9) = 100 := of_decide_eq_true (allC (p := fun t => decide (ln (t + 9) = 100)) (by decide) (by decide +kernel) h)
theorem pe_3 {t : Nat} (h : lc t = 5) : lr (t + 6) 0 + (3 : Int32).toNatClampNeg = t + 10 := by rw [pes0 h, show (3 : Int32).toNatClampNeg = 3 by decide +kernel]
theorem pe_c_3 {t : Nat} (h : lc t = 5) : lc (t + 10) = 20 := of_decide_eq_true (allC (p := fun t => decide (lc (t + 10) = 20)) (by decide) (by decide +kernel) h)
theorem pe_l_3 {t : Nat} (h : lc t = 5) : ln (t + 10) = 100 := of_decide_eq_true (allC (p := fun t => decide (ln (t + 10) = 100)) (by decide) (by decide +kernel) h)
theorem pe_4 {t : Nat} (h : lc t = 5) : lr (t + 6) 0 + (4 : Int32).toNatClampNeg = t + 11 := by rw [pes0 h, show (4 : Int32).toNatClampNeg = 4 by decide +kernel]
theorem pe_c_4 {t : Nat} (h : lc t = 5) : lc (t + 11) = 20 := of_decide_eq_true (allC (p := fun t => decide (lc (t + 11) = 20)) (by decide) (by decide +kernel) h)
theorem pe_l_4 {t : Nat} (h : lc t = 5) : ln (t + 11) = 100 := of_decide_eq_true (allC (p := fun t => decide (ln (t + 11) = 100)) (by decide) (by decide +kernel) h)
theorem pe_5 {t : Nat} (h : lc t = 5) : lr (t + 6) 0 + (5 : Int32).toNatClampNeg = t + 12 := by rw [pes0 h, show (5 : Int32).toNatClampNeg = 5 by decide +kernel]
theorem pe_c_5 {t : Nat} (h : lc t = 5) : lc (t + 12) = 20 := of_decide_eq_true (allC (p := fun t => decide (lc (t + 12) = 20)) (by decide) (by decide +kernel) h)
theorem pe_l_5 {t : Nat} (h : lc t = 5) : ln (t + 12) = 100 := of_decide_eq_true (allC (p := fun t => decide (ln (t + 12) = 100)) (by decide) (by decide +kernel) h)
theorem pe_6 {t : Nat} (h : lc t = 5) : lr (t + 6) 0 + (6 : Int32).toNatClampNeg = t + 13 := by rw [pes0 h, show (6 : Int32).toNatClampNeg = 6 by decide +kernel]
theorem pe_c_6 {t : Nat} (h : lc t = 5) : lc (t + 13) = 20 := of_decide_eq_true (allC (p := fun t => decide (lc (t + 13) = 20)) (by decide) (by decide +kernel) h)
theorem pe_l_6 {t : Nat} (h : lc t = 5) : ln (t + 13) = 100 := of_decide_eq_true (allC (p := fun t => decide (ln (t + 13) = 100)) (by decide) (by decide +kernel) h)
theorem pe_7 {t : Nat} (h : lc t = 5) : lr (t + 6) 0 + (7 : Int32).toNatClampNeg = t + 14 := by rw [pes0 h, show (7 : Int32).toNatClampNeg = 7 by decide +kernel]
theorem pe_c_7 {t : Nat} (h : lc t = 5) : lc (t + 14) = 20 := of_decide_eq_true (allC (p := fun t => decide (lc (t + 14) = 20)) (by decide) (by decide +kernel) h)
theorem pe_l_7 {t : Nat} (h : lc t = 5) : ln (t + 14) = 100 := of_decide_eq_true (allC (p := fun t => decide (ln (t + 14) = 100)) (by decide) (by decide +kernel) h)
theorem pe_8 {t : Nat} (h : lc t = 5) : lr (t + 6) 0 + (8 : Int32).toNatClampNeg = t + 15 := by rw [pes0 h, show (8 : Int32).toNatClampNeg = 8 by decide +kernel]
theorem pe_c_8 {t : Nat} (h : lc t = 5) : lc (t + 15) = 20 := of_decide_eq_true (allC (p := fun t => decide (lc (t + 15) = 20)) (by decide) (by decide +kernel) h)
theorem pe_l_8 {t : Nat} (h : lc t = 5) : ln (t + 15) = 100 := of_decide_eq_true (allC (p := fun t => decide (ln (t + 15) = 100)) (by decide) (by decide +kernel) h)
theorem pe_9 {t : Nat} (h : lc t = 5) : lr (t + 6) 0 + (9 : Int32).toNatClampNeg = t + 16 := by rw [pes0 h, show (9 : Int32).toNatClampNeg = 9 by decide +kernel]
theorem pe_c_9 {t : Nat} (h : lc t = 5) : lc (t + 16) = 20 := of_decide_eq_true (allC (p := fun t => decide (lc (t + 16) = 20)) (by decide) (by decide +kernel) h)
theorem pe_l_9 {t : Nat} (h : lc t = 5) : ln (t + 16) = 100 := of_decide_eq_true (allC (p := fun t => decide (ln (t + 16) = 100)) (by decide) (by decide +kernel) h)
theorem pe_10 {t : Nat} (h : lc t = 5) : lr (t + 6) 0 + (10 : Int32).toNatClampNeg = t + 17 := by rw [pes0 h, show (10 : Int32).toNatClampNeg = 10 by decide +kernel]
theorem pe_c_10 {t : Nat} (h : lc t = 5) : lc (t + 17) = 20 := of_decide_eq_true (allC (p := fun t => decide (lc (t + 17) = 20)) (by decide) (by decide +kernel) h)
theorem pe_l_10 {t : Nat} (h : lc t = 5) : ln (t + 17) = 100 := of_decide_eq_true (allC (p := fun t => decide (ln (t + 17) = 100)) (by decide) (by decide +kernel) h)
theorem pe_11 {t : Nat} (h : lc t = 5) : lr (t + 6) 0 + (11 : Int32).toNatClampNeg = t + 18 := by rw [pes0 h, show (11 : Int32).toNatClampNeg = 11 by decide +kernel]
theorem pe_c_11 {t : Nat} (h : lc t = 5) : lc (t + 18) = 20 := of_decide_eq_true (allC (p := fun t => decide (lc (t + 18) = 20)) (by decide) (by decide +kernel) h)
theorem pe_l_11 {t : Nat} (h : lc t = 5) : ln (t + 18) = 100 := of_decide_eq_true (allC (p := fun t => decide (ln (t + 18) = 100)) (by decide) (by decide +kernel) h)
theorem pe_12 {t : Nat} (h : lc t = 5) : lr (t + 6) 0 + (12 : Int32).toNatClampNeg = t + 19 := by rw [pes0 h, show (12 : Int32).toNatClampNeg = 12 by decide +kernel]
theorem pe_c_12 {t : Nat} (h : lc t = 5) : lc (t + 19) = 20 := of_decide_eq_true (allC (p := fun t => decide (lc (t + 19) = 20)) (by decide) (by decide +kernel) h)
theorem pe_l_12 {t : Nat} (h : lc t = 5) : ln (t + 19) = 100 := of_decide_eq_true (allC (p := fun t => decide (ln (t + 19) = 100)) (by decide) (by decide +kernel) h)
theorem pe_13 {t : Nat} (h : lc t = 5) : lr (t + 6) 0 + (13 : Int32).toNatClampNeg = t + 20 := by rw [pes0 h, show (13 : Int32).toNatClampNeg = 13 by decide +kernel]
theorem pe_c_13 {t : Nat} (h : lc t = 5) : lc (t + 20) = 20 := of_decide_eq_true (allC (p := fun t => decide (lc (t + 20) = 20)) (by decide) (by decide +kernel) h)
theorem pe_l_13 {t : Nat} (h : lc t = 5) : ln (t + 20) = 100 := of_decide_eq_true (allC (p := fun t => decide (ln (t + 20) = 100)) (by decide) (by decide +kernel) h)
theorem pe_14 {t : Nat} (h : lc t = 5) : lr (t + 6) 0 + (14 : Int32).toNatClampNeg = t + 21 := by rw [pes0 h, show (14 : Int32).toNatClampNeg = 14 by decide +kernel]
theorem pe_c_14 {t : Nat} (h : lc t = 5) : lc (t + 21) = 20 := of_decide_eq_true (allC (p := fun t => decide (lc (t + 21) = 20)) (by decide) (by decide +kernel) h)
theorem pe_l_14 {t : Nat} (h : lc t = 5) : ln (t + 21) = 100 := of_decide_eq_true (allC (p := fun t => decide (ln (t + 21) = 100)) (by decide) (by decide +kernel) h)
theorem pe_15 {t : Nat} (h : lc t = 5) : lr (t + 6) 0 + (15 : Int32).toNatClampNeg = t + 22 := by rw [pes0 h, show (15 : Int32).toNatClampNeg = 15 by decide +kernel]
theorem pe_c_15 {t : Nat} (h : lc t = 5) : lc (t + 22) = 20 := of_decide_eq_true (allC (p := fun t => decide (lc (t + 22) = 20)) (by decide) (by decide +kernel) h)
theorem pe_l_15 {t : Nat} (h : lc t = 5) : ln (t + 22) = 100 := of_decide_eq_true (allC (p := fun t => decide (ln (t + 22) = 100)) (by decide) (by decide +kernel) h)
theorem pe_16 {t : Nat} (h : lc t = 5) : lr (t + 6) 0 + (16 : Int32).toNatClampNeg = t + 23 := by rw [pes0 h, show (16 : Int32).toNatClampNeg = 16 by decide +kernel]
theorem pe_c_16 {t : Nat} (h : lc t = 5) : lc (t + 23) = 20 := of_decide_eq_true (allC (p := fun t => decide (lc (t + 23) = 20)) (by decide) (by decide +kernel) h)
theorem pe_l_16 {t : Nat} (h : lc t = 5) : ln (t + 23) = 100 := of_decide_eq_true (allC (p := fun t => decide (ln (t + 23) = 100)) (by decide) (by decide +kernel) h)
theorem pe_17 {t : Nat} (h : lc t = 5) : lr (t + 6) 0 + (17 : Int32).toNatClampNeg = t + 24 := by rw [pes0 h, show (17 : Int32).toNatClampNeg = 17 by decide +kernel]
theorem pe_c_17 {t : Nat} (h : lc t = 5) : lc (t + 24) = 20 := of_decide_eq_true (allC (p := fun t => decide (lc (t + 24) = 20)) (by decide) (by decide +kernel) h)
theorem pe_l_17 {t : Nat} (h : lc t = 5) : ln (t + 24) = 100 := of_decide_eq_true (allC (p := fun t => decide (ln (t + 24) = 100)) (by decide) (by decide +kernel) h)
theorem row_e_17 (n : Nat) : lr 17 0 + n = 18 + n := by rw [lr_17_0]
theorem row_c_17 {i : Int32} (hi : p_inB i 18 = true) : lc (18 + i.toNatClampNeg) = 20 := of_decide_eq_true (rowT (p := fun j => decide (lc (18 + j) = 20)) (by decide +kernel) hi)
theorem row_l_17 {i : Int32} (hi : p_inB i 18 = true) : ln (18 + i.toNatClampNeg) = 100 := of_decide_eq_true (rowT (p := fun j => decide (ln (18 + j) = 100)) (by decide +kernel) hi)
theorem row_e_42 (n : Nat) : lr 42 0 + n = 43 + n := by rw [lr_42_0]
theorem row_c_42 {i : Int32} (hi : p_inB i 18 = true) : lc (43 + i.toNatClampNeg) = 20 := of_decide_eq_true (rowT (p := fun j => decide (lc (43 + j) = 20)) (by decide +kernel) hi)
theorem row_l_42 {i : Int32} (hi : p_inB i 18 = true) : ln (43 + i.toNatClampNeg) = 100 := of_decide_eq_true (rowT (p := fun j => decide (ln (43 + j) = 100)) (by decide +kernel) hi)
theorem row_e_117 (n : Nat) : lr 117 0 + n = 118 + n := by rw [lr_117_0]
theorem row_c_117 {i : Int32} (hi : p_inB i 6 = true) : lc (118 + i.toNatClampNeg) = 20 := of_decide_eq_true (rowT (p := fun j => decide (lc (118 + j) = 20)) (by decide +kernel) hi)
theorem row_l_117 {i : Int32} (hi : p_inB i 6 = true) : ln (118 + i.toNatClampNeg) = 200 := of_decide_eq_true (rowT (p := fun j => decide (ln (118 + j) = 200)) (by decide +kernel) hi)
theorem row_e_126 (n : Nat) : lr 126 0 + n = 127 + n := by rw [lr_126_0]
theorem row_c_126 {i : Int32} (hi : p_inB i 6 = true) : lc (127 + i.toNatClampNeg) = 20 := of_decide_eq_true (rowT (p := fun j => decide (lc (127 + j) = 20)) (by decide +kernel) hi)
theorem row_l_126 {i : Int32} (hi : p_inB i 6 = true) : ln (127 + i.toNatClampNeg) = 200 := of_decide_eq_true (rowT (p := fun j => decide (ln (127 + j) = 200)) (by decide +kernel) hi)
theorem row_e_133 (n : Nat) : lr 133 0 + n = 134 + n := by rw [lr_133_0]
theorem row_c_133 {i : Int32} (hi : p_inB i 13 = true) : lc (134 + i.toNatClampNeg) = 20 := of_decide_eq_true (rowT (p := fun j => decide (lc (134 + j) = 20)) (by decide +kernel) hi)
theorem row_l_133 {i : Int32} (hi : p_inB i 13 = true) : ln (134 + i.toNatClampNeg) = 13 := of_decide_eq_true (rowT (p := fun j => decide (ln (134 + j) = 13)) (by decide +kernel) hi)
