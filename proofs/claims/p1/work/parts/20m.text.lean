/-! what methods do, printed by program out of their tables: X12_ordered .. -/
set_option maxRecDepth 100000 in
set_option maxHeartbeats 4000000 in
theorem le_X12_ordered (en : pN) (d : Nat) (a1 : Int32) (s : qS) : qle (if a1 < (0 : Int32) then some (some (.int (-2 : Int32)), s) else if a1 < (s.1 151 96) then gd (p_inB a1 12 = true) (some (some (.int (s.1 208 a1.toNatClampNeg)), s)) else some (some (.int (-2 : Int32)), s)) (qev en (d + 1) 354 [.ref 151, .int a1] s) := by
  refine e_enter ix_X12_ordered (Nat.le_of_ble_eq_true rfl) ?_
  show qle _ (qE (qev en d) en (some .int) tb_X12_ordered (0, [(0, .ref 151), (1, .int a1)], []) s)
  refine e_L 1 (f' := (1, [(0, .ref 151), (1, .int a1)], [.int a1])) rfl ?_
  refine e_ifz 12 rfl rfl rfl (fun c1 => ?_) (fun c1 => ?_)
  · refine e_L 2 (f' := (23, [(0, .ref 151), (1, .int a1)], [.int (-2 : Int32)])) rfl ?_
    exact e_rI rfl rfl
  · refine e_L 2 (f' := (6, [(0, .ref 151), (1, .int a1)], [.ref 151, .int a1])) rfl ?_
    refine e_gI 12 96 rfl rfl lc_151 ?_
    refine e_icmp 17 rfl rfl rfl (fun c2 => ?_) (fun c2 => ?_)
    · refine e_L 1 (f' := (18, [(0, .ref 151), (1, .int a1)], [.ref 151])) rfl ?_
      refine e_gR (q := 208) 12 95 rfl rfl lc_151 lr_151_95 ?_
      refine e_L 1 (f' := (22, [(0, .ref 151), (1, .int a1)], [.int a1, .ref 208])) rfl ?_
      refine qle_gd fun h3 => ?_
      refine e_ial (n := 12) (k := a1.toNatClampNeg) rfl lc_208 ln_208 h3 rfl ?_
      exact e_rI rfl rfl
    · refine e_L 2 (f' := (23, [(0, .ref 151), (1, .int a1)], [.int (-2 : Int32)])) rfl ?_
      exact e_rI rfl rfl
noncomputable def L_X12_hashOfState_5 (en : pN) (d : Nat) (v1 : Int32) (v2 : Int32) (s : qS) : Option qR := qE (qev en d) en (some .int) tb_X12_hashOfState (5, [(0, .ref 151), (1, .int v1), (2, .int v2)], []) s
set_option maxRecDepth 100000 in
set_option maxHeartbeats 4000000 in
theorem le_X12_hashOfState_5 (en : pN) (d : Nat) (v1 : Int32) (v2 : Int32) (s : qS) : qle (if (s.1 151 60) ≤ v2 then some (some (.int (v1 * (625341585 : Int32))), s) else gd (p_inB v2 216 = true) (nm (((31 : Int32) * v1) + (s.1 187 v2.toNatClampNeg)) (fun z3 => nm (z3 ^^^ (z3.toUInt32 >>> ((15 : Int32).toUInt32 &&& Int32.toUInt32 31)).toInt32) (fun z4 => L_X12_hashOfState_5 en d z4 (v2 + (1 : Int32)) s)))) (L_X12_hashOfState_5 en d v1 v2 s) := by
  show qle _ (qE (qev en d) en (some .int) tb_X12_hashOfState (5, [(0, .ref 151), (1, .int v1), (2, .int v2)], []) s)
  refine e_L 2 (f' := (7, [(0, .ref 151), (1, .int v1), (2, .int v2)], [.ref 151, .int v2])) rfl ?_
  refine e_gI 12 60 rfl rfl lc_151 ?_
  refine e_icmp 38 rfl rfl rfl (fun c1 => ?_) (fun c1 => ?_)
  · refine e_L 1 (f' := (39, [(0, .ref 151), (1, .int v1), (2, .int v2)], [.int v1])) rfl ?_
    refine e_ldcw (v := (625341585 : Int32)) rfl (by decide +kernel) ?_
    refine e_L 1 (f' := (43, [(0, .ref 151), (1, .int v1), (2, .int v2)], [.int (v1 * (625341585 : Int32))])) rfl ?_
    exact e_rI rfl rfl
  · refine e_L 4 (f' := (18, [(0, .ref 151), (1, .int v1), (2, .int v2)], [.ref 151, .int ((31 : Int32) * v1)])) rfl ?_
    refine e_gR (q := 187) 12 57 rfl rfl lc_151 lr_151_57 ?_
    refine e_L 1 (f' := (22, [(0, .ref 151), (1, .int v1), (2, .int v2)], [.int v2, .ref 187, .int ((31 : Int32) * v1)])) rfl ?_
    refine qle_gd fun h2 => ?_
    refine e_ial (n := 216) (k := v2.toNatClampNeg) rfl lc_187 ln_187 h2 rfl ?_
    refine e_L 1 (f' := (24, [(0, .ref 151), (1, .int v1), (2, .int v2)], [.int (((31 : Int32) * v1) + (s.1 187 v2.toNatClampNeg))])) rfl ?_
    refine e_nI fun z3 => ?_
    refine e_L 6 (f' := (31, [(1, .int z3), (0, .ref 151), (2, .int v2)], [.int (z3 ^^^ (z3.toUInt32 >>> ((15 : Int32).toUInt32 &&& Int32.toUInt32 31)).toInt32)])) rfl ?_
    refine e_nI fun z4 => ?_
    refine e_L 3 (f' := (5, [(2, .int (v2 + (1 : Int32))), (1, .int z4), (0, .ref 151)], [])) rfl ?_
    exact qE_sub (qsubL [2, 1, 0] rfl (ks := [2, 1, 0]) rfl (by decide))
set_option maxRecDepth 100000 in
set_option maxHeartbeats 4000000 in
theorem le_X12_hashOfState (en : pN) (d : Nat) (s : qS) : qle (L_X12_hashOfState_5 en d (17 : Int32) (0 : Int32) s) (qev en (d + 1) 355 [.ref 151] s) := by
  refine e_enter ix_X12_hashOfState (Nat.le_of_ble_eq_true rfl) ?_
  show qle _ (qE (qev en d) en (some .int) tb_X12_hashOfState (0, [(0, .ref 151)], []) s)
  refine e_L 4 (f' := (5, [(2, .int (0 : Int32)), (1, .int (17 : Int32)), (0, .ref 151)], [])) rfl ?_
  exact qE_sub (qsubL [2, 1, 0] rfl (ks := [2, 1, 0]) rfl (by decide))
noncomputable def L_X12_isStateAt_12 (en : pN) (d : Nat) (v2 : Int32) (v3 : Int32) (v4 : Int32) (s : qS) : Option qR := qE (qev en d) en (some .boolean) tb_X12_isStateAt (12, [(0, .ref 151), (2, .int v2), (3, .int v3), (4, .int v4)], []) s
set_option maxRecDepth 100000 in
set_option maxHeartbeats 4000000 in
theorem le_X12_isStateAt_12 (en : pN) (d : Nat) (v2 : Int32) (v3 : Int32) (v4 : Int32) (s : qS) : qle (if (s.1 151 60) ≤ v4 then gd (v2 = 0 ∨ v2 = 1) (some (some (.int v2), s)) else if v2 = (0 : Int32) then gd (v2 = 0 ∨ v2 = 1) (some (some (.int v2), s)) else gd (p_inB (v3 + v4) 1610000 = true) (gd (p_inB v4 216 = true) (if ¬ (s.1 210 (v3 + v4).toNatClampNeg) = (s.1 187 v4.toNatClampNeg) then L_X12_isStateAt_12 en d (0 : Int32) v3 (v4 + (1 : Int32)) s else L_X12_isStateAt_12 en d (1 : Int32) v3 (v4 + (1 : Int32)) s))) (L_X12_isStateAt_12 en d v2 v3 v4 s) := by
  show qle _ (qE (qev en d) en (some .boolean) tb_X12_isStateAt (12, [(0, .ref 151), (2, .int v2), (3, .int v3), (4, .int v4)], []) s)
  refine e_L 2 (f' := (15, [(0, .ref 151), (2, .int v2), (3, .int v3), (4, .int v4)], [.ref 151, .int v4])) rfl ?_
  refine e_gI 12 60 rfl rfl lc_151 ?_
  refine e_icmp 56 rfl rfl rfl (fun c1 => ?_) (fun c1 => ?_)
  · refine e_L 1 (f' := (57, [(0, .ref 151), (2, .int v2), (3, .int v3), (4, .int v4)], [.int v2])) rfl ?_
    exact qle_gd fun h2 => e_rZ rfl rfl h2
  · refine e_L 1 (f' := (22, [(0, .ref 151), (2, .int v2), (3, .int v3), (4, .int v4)], [.int v2])) rfl ?_
    refine e_ifz 56 rfl rfl rfl (fun c3 => ?_) (fun c3 => ?_)
    · refine e_L 1 (f' := (57, [(0, .ref 151), (2, .int v2), (3, .int v3), (4, .int v4)], [.int v2])) rfl ?_
      exact qle_gd fun h4 => e_rZ rfl rfl h4
    · refine e_L 1 (f' := (26, [(0, .ref 151), (2, .int v2), (3, .int v3), (4, .int v4)], [.ref 151])) rfl ?_
      refine e_gR (q := 210) 12 104 rfl rfl lc_151 lr_151_104 ?_
      refine e_L 3 (f' := (33, [(0, .ref 151), (2, .int v2), (3, .int v3), (4, .int v4)], [.int (v3 + v4), .ref 210])) rfl ?_
      refine qle_gd fun h5 => ?_
      refine e_ial (n := 1610000) (k := (v3 + v4).toNatClampNeg) rfl lc_210 ln_210 h5 rfl ?_
      refine e_L 1 (f' := (35, [(0, .ref 151), (2, .int v2), (3, .int v3), (4, .int v4)], [.ref 151, .int (s.1 210 (v3 + v4).toNatClampNeg)])) rfl ?_
      refine e_gR (q := 187) 12 57 rfl rfl lc_151 lr_151_57 ?_
      refine e_L 1 (f' := (40, [(0, .ref 151), (2, .int v2), (3, .int v3), (4, .int v4)], [.int v4, .ref 187, .int (s.1 210 (v3 + v4).toNatClampNeg)])) rfl ?_
      refine qle_gd fun h6 => ?_
      refine e_ial (n := 216) (k := v4.toNatClampNeg) rfl lc_187 ln_187 h6 rfl ?_
      refine e_icmp 48 rfl rfl rfl (fun c7 => ?_) (fun c7 => ?_)
      · refine e_L 4 (f' := (12, [(4, .int (v4 + (1 : Int32))), (2, .int (0 : Int32)), (0, .ref 151), (3, .int v3)], [])) rfl ?_
        exact qE_sub (qsubL [2, 1, 3, 0] rfl (ks := [4, 2, 0, 3]) rfl (by decide))
      · refine e_L 5 (f' := (12, [(4, .int (v4 + (1 : Int32))), (2, .int (1 : Int32)), (0, .ref 151), (3, .int v3)], [])) rfl ?_
        exact qE_sub (qsubL [2, 1, 3, 0] rfl (ks := [4, 2, 0, 3]) rfl (by decide))
set_option maxRecDepth 100000 in
set_option maxHeartbeats 4000000 in
theorem le_X12_isStateAt (en : pN) (d : Nat) (a1 : Int32) (s : qS) : qle (L_X12_isStateAt_12 en d (1 : Int32) (a1 * (s.1 151 60)) (0 : Int32) s) (qev en (d + 1) 356 [.ref 151, .int a1] s) := by
  refine e_enter ix_X12_isStateAt (Nat.le_of_ble_eq_true rfl) ?_
  show qle _ (qE (qev en d) en (some .boolean) tb_X12_isStateAt (0, [(0, .ref 151), (1, .int a1)], []) s)
  refine e_L 4 (f' := (4, [(2, .int (1 : Int32)), (0, .ref 151), (1, .int a1)], [.ref 151, .int a1])) rfl ?_
  refine e_gI 12 60 rfl rfl lc_151 ?_
  refine e_L 4 (f' := (12, [(4, .int (0 : Int32)), (3, .int (a1 * (s.1 151 60))), (2, .int (1 : Int32)), (0, .ref 151), (1, .int a1)], [])) rfl ?_
  exact qE_sub (qsubL [3, 2, 1, 0] rfl (ks := [4, 3, 2, 0, 1]) rfl (by decide))
noncomputable def L_X12_loadState_9 (en : pN) (d : Nat) (v2 : Int32) (v3 : Int32) (s : qS) : Option qR := qE (qev en d) en none tb_X12_loadState (9, [(0, .ref 151), (2, .int v2), (3, .int v3)], []) s
set_option maxRecDepth 100000 in
set_option maxHeartbeats 4000000 in
theorem le_X12_loadState_9 (en : pN) (d : Nat) (v2 : Int32) (v3 : Int32) (s : qS) : qle (if (s.1 151 60) ≤ v3 then some (none, s) else gd (p_inB (v2 + v3) 1610000 = true) (gd (p_inB v3 216 = true) (nm (uI s 187 (v3.toNatClampNeg) (s.1 210 (v2 + v3).toNatClampNeg)) (fun s4 => L_X12_loadState_9 en d v2 (v3 + (1 : Int32)) s4)))) (L_X12_loadState_9 en d v2 v3 s) := by
  show qle _ (qE (qev en d) en none tb_X12_loadState (9, [(0, .ref 151), (2, .int v2), (3, .int v3)], []) s)
  refine e_L 2 (f' := (11, [(0, .ref 151), (2, .int v2), (3, .int v3)], [.ref 151, .int v3])) rfl ?_
  refine e_gI 12 60 rfl rfl lc_151 ?_
  refine e_icmp 37 rfl rfl rfl (fun c1 => ?_) (fun c1 => ?_)
  · exact e_rV rfl rfl
  · refine e_L 1 (f' := (18, [(0, .ref 151), (2, .int v2), (3, .int v3)], [.ref 151])) rfl ?_
    refine e_gR (q := 187) 12 57 rfl rfl lc_151 lr_151_57 ?_
    refine e_L 2 (f' := (23, [(0, .ref 151), (2, .int v2), (3, .int v3)], [.ref 151, .int v3, .ref 187])) rfl ?_
    refine e_gR (q := 210) 12 104 rfl rfl lc_151 lr_151_104 ?_
    refine e_L 3 (f' := (29, [(0, .ref 151), (2, .int v2), (3, .int v3)], [.int (v2 + v3), .ref 210, .int v3, .ref 187])) rfl ?_
    refine qle_gd fun h2 => ?_
    refine e_ial (n := 1610000) (k := (v2 + v3).toNatClampNeg) rfl lc_210 ln_210 h2 rfl ?_
    refine qle_gd fun h3 => ?_
    refine e_ias (n := 216) (k := v3.toNatClampNeg) rfl lc_187 ln_187 h3 rfl ?_
    refine e_nS fun s4 => ?_
    refine e_L 2 (f' := (9, [(3, .int (v3 + (1 : Int32))), (0, .ref 151), (2, .int v2)], [])) rfl ?_
    exact qE_sub (qsubL [1, 2, 0] rfl (ks := [3, 0, 2]) rfl (by decide))
set_option maxRecDepth 100000 in
set_option maxHeartbeats 4000000 in
theorem le_X12_loadState (en : pN) (d : Nat) (a1 : Int32) (s : qS) : qle (L_X12_loadState_9 en d (a1 * (s.1 151 60)) (0 : Int32) s) (qev en (d + 1) 357 [.ref 151, .int a1] s) := by
  refine e_enter ix_X12_loadState (Nat.le_of_ble_eq_true rfl) ?_
  show qle _ (qE (qev en d) en none tb_X12_loadState (0, [(0, .ref 151), (1, .int a1)], []) s)
  refine e_L 2 (f' := (2, [(0, .ref 151), (1, .int a1)], [.ref 151, .int a1])) rfl ?_
  refine e_gI 12 60 rfl rfl lc_151 ?_
  refine e_L 4 (f' := (9, [(3, .int (0 : Int32)), (2, .int (a1 * (s.1 151 60))), (0, .ref 151), (1, .int a1)], [])) rfl ?_
  exact qE_sub (qsubL [2, 1, 0] rfl (ks := [3, 2, 0, 1]) rfl (by decide))
noncomputable def L_X12_numberOf_9 (en : pN) (d : Nat) (v1 : Int32) (v2 : Int32) (v3 : Int32) (v4 : Int32) (s : qS) : Option qR := qE (qev en d) en (some .int) tb_X12_numberOf (9, [(0, .ref 151), (1, .int v1), (2, .int v2), (3, .int v3), (4, .int v4)], []) s
noncomputable def L_X12_numberOf_48 (en : pN) (d : Nat) (v1 : Int32) (v2 : Int32) (v3 : Int32) (v4 : Int32) (s : qS) : Option qR := qE (qev en d) en (some .int) tb_X12_numberOf (48, [(0, .ref 151), (1, .int v1), (2, .int v2), (3, .int v3), (4, .int v4)], []) s
noncomputable def L_X12_numberOf_89 (en : pN) (d : Nat) (v1 : Int32) (v2 : Int32) (v3 : Int32) (v4 : Int32) (vs0 : Int32) (vs1 : Int32) (s : qS) : Option qR := qE (qev en d) en (some .int) tb_X12_numberOf (89, [(0, .ref 151), (1, .int v1), (2, .int v2), (3, .int v3), (4, .int v4)], [.int vs1, .int vs0]) s
noncomputable def L_X12_numberOf_111 (en : pN) (d : Nat) (v1 : Int32) (v2 : Int32) (v3 : Int32) (v5 : Int32) (s : qS) : Option qR := qE (qev en d) en (some .int) tb_X12_numberOf (111, [(0, .ref 151), (1, .int v1), (2, .int v2), (3, .int v3), (5, .int v5)], []) s
set_option maxRecDepth 100000 in
set_option maxHeartbeats 4000000 in
theorem le_X12_numberOf_9 (en : pN) (d : Nat) (v1 : Int32) (v2 : Int32) (v3 : Int32) (v4 : Int32) (s : qS) : qle (gd (p_inB v4 65536 = true) (if (s.1 211 v4.toNatClampNeg) = (0 : Int32) then L_X12_numberOf_48 en d v1 v2 v3 v4 s else bI (qev en d 356 [.ref 151, .int ((s.1 211 v4.toNatClampNeg) - (1 : Int32))] s) (fun w3 s4 => if ¬ w3 = (0 : Int32) then L_X12_numberOf_48 en d v1 v2 v3 v4 s4 else nm ((v4 + (1 : Int32)) &&& (65535 : Int32)) (fun z7 => L_X12_numberOf_9 en d v1 v2 v3 z7 s4)))) (L_X12_numberOf_9 en d v1 v2 v3 v4 s) := by
  show qle _ (qE (qev en d) en (some .int) tb_X12_numberOf (9, [(0, .ref 151), (1, .int v1), (2, .int v2), (3, .int v3), (4, .int v4)], []) s)
  refine e_L 1 (f' := (10, [(0, .ref 151), (1, .int v1), (2, .int v2), (3, .int v3), (4, .int v4)], [.ref 151])) rfl ?_
  refine e_gR (q := 211) 12 105 rfl rfl lc_151 lr_151_105 ?_
  refine e_L 1 (f' := (15, [(0, .ref 151), (1, .int v1), (2, .int v2), (3, .int v3), (4, .int v4)], [.int v4, .ref 211])) rfl ?_
  refine qle_gd fun h1 => ?_
  refine e_ial (n := 65536) (k := v4.toNatClampNeg) rfl lc_211 ln_211 h1 rfl ?_
  refine e_ifz 48 rfl rfl rfl (fun c2 => ?_) (fun c2 => ?_)
  · exact qE_sub (qsubL [0, 1, 2, 3, 4] rfl (ks := [0, 1, 2, 3, 4]) rfl (by decide))
  · refine e_L 2 (f' := (21, [(0, .ref 151), (1, .int v1), (2, .int v2), (3, .int v3), (4, .int v4)], [.ref 151, .ref 151])) rfl ?_
    refine e_gR (q := 211) 12 105 rfl rfl lc_151 lr_151_105 ?_
    refine e_L 1 (f' := (26, [(0, .ref 151), (1, .int v1), (2, .int v2), (3, .int v3), (4, .int v4)], [.int v4, .ref 211, .ref 151])) rfl ?_
    refine e_ial (n := 65536) (k := v4.toNatClampNeg) rfl lc_211 ln_211 h1 rfl ?_
    refine e_L 2 (f' := (29, [(0, .ref 151), (1, .int v1), (2, .int v2), (3, .int v3), (4, .int v4)], [.int ((s.1 211 v4.toNatClampNeg) - (1 : Int32)), .ref 151])) rfl ?_
    refine e_vI 356 rfl rfl ix_X12_isStateAt rfl (q_recvOf lc_151 rfl) (Nat.le_of_ble_eq_true rfl) (fun w3 s4 e5 => ?_)
    refine e_ifz 48 rfl rfl rfl (fun c6 => ?_) (fun c6 => ?_)
    · exact qE_sub (qsubL [0, 1, 2, 3, 4] rfl (ks := [0, 1, 2, 3, 4]) rfl (by decide))
    · refine e_L 3 (f' := (39, [(0, .ref 151), (1, .int v1), (2, .int v2), (3, .int v3), (4, .int v4)], [.int (v4 + (1 : Int32))])) rfl ?_
      refine e_ldcw (v := (65535 : Int32)) rfl (by decide +kernel) ?_
      refine e_L 1 (f' := (43, [(0, .ref 151), (1, .int v1), (2, .int v2), (3, .int v3), (4, .int v4)], [.int ((v4 + (1 : Int32)) &&& (65535 : Int32))])) rfl ?_
      refine e_nI fun z7 => ?_
      refine e_L 2 (f' := (9, [(4, .int z7), (0, .ref 151), (1, .int v1), (2, .int v2), (3, .int v3)], [])) rfl ?_
      exact qE_sub (qsubL [1, 2, 3, 4, 0] rfl (ks := [4, 0, 1, 2, 3]) rfl (by decide))
set_option maxRecDepth 100000 in
set_option maxHeartbeats 4000000 in
theorem le_X12_numberOf_48 (en : pN) (d : Nat) (v1 : Int32) (v2 : Int32) (v3 : Int32) (v4 : Int32) (s : qS) : qle (gd (p_inB v4 65536 = true) (if (s.1 211 v4.toNatClampNeg) = (0 : Int32) then if ¬ (s.1 151 58) = (2 : Int32) then L_X12_numberOf_89 en d v1 v2 v3 v4 (s.1 151 101) (20000 : Int32) s else L_X12_numberOf_89 en d v1 v2 v3 v4 (s.1 151 101) (6000 : Int32) s else some (some (.int ((s.1 211 v4.toNatClampNeg) - (1 : Int32))), s))) (L_X12_numberOf_48 en d v1 v2 v3 v4 s) := by
  show qle _ (qE (qev en d) en (some .int) tb_X12_numberOf (48, [(0, .ref 151), (1, .int v1), (2, .int v2), (3, .int v3), (4, .int v4)], []) s)
  refine e_L 1 (f' := (49, [(0, .ref 151), (1, .int v1), (2, .int v2), (3, .int v3), (4, .int v4)], [.ref 151])) rfl ?_
  refine e_gR (q := 211) 12 105 rfl rfl lc_151 lr_151_105 ?_
  refine e_L 1 (f' := (54, [(0, .ref 151), (1, .int v1), (2, .int v2), (3, .int v3), (4, .int v4)], [.int v4, .ref 211])) rfl ?_
  refine qle_gd fun h1 => ?_
  refine e_ial (n := 65536) (k := v4.toNatClampNeg) rfl lc_211 ln_211 h1 rfl ?_
  refine e_ifz 68 rfl rfl rfl (fun c2 => ?_) (fun c2 => ?_)
  · refine e_L 1 (f' := (69, [(0, .ref 151), (1, .int v1), (2, .int v2), (3, .int v3), (4, .int v4)], [.ref 151])) rfl ?_
    refine e_gI 12 101 rfl rfl lc_151 ?_
    refine e_L 1 (f' := (73, [(0, .ref 151), (1, .int v1), (2, .int v2), (3, .int v3), (4, .int v4)], [.ref 151, .int (s.1 151 101)])) rfl ?_
    refine e_gI 12 58 rfl rfl lc_151 ?_
    refine e_L 1 (f' := (77, [(0, .ref 151), (1, .int v1), (2, .int v2), (3, .int v3), (4, .int v4)], [.int (2 : Int32), .int (s.1 151 58), .int (s.1 151 101)])) rfl ?_
    refine e_icmp 86 rfl rfl rfl (fun c3 => ?_) (fun c3 => ?_)
    · refine e_L 1 (f' := (89, [(0, .ref 151), (1, .int v1), (2, .int v2), (3, .int v3), (4, .int v4)], [.int (20000 : Int32), .int (s.1 151 101)])) rfl ?_
      exact qE_sub (qsubL [0, 1, 2, 3, 4] rfl (ks := [0, 1, 2, 3, 4]) rfl (by decide))
    · refine e_L 2 (f' := (89, [(0, .ref 151), (1, .int v1), (2, .int v2), (3, .int v3), (4, .int v4)], [.int (6000 : Int32), .int (s.1 151 101)])) rfl ?_
      exact qE_sub (qsubL [0, 1, 2, 3, 4] rfl (ks := [0, 1, 2, 3, 4]) rfl (by decide))
  · refine e_L 1 (f' := (59, [(0, .ref 151), (1, .int v1), (2, .int v2), (3, .int v3), (4, .int v4)], [.ref 151])) rfl ?_
    refine e_gR (q := 211) 12 105 rfl rfl lc_151 lr_151_105 ?_
    refine e_L 1 (f' := (64, [(0, .ref 151), (1, .int v1), (2, .int v2), (3, .int v3), (4, .int v4)], [.int v4, .ref 211])) rfl ?_
    refine e_ial (n := 65536) (k := v4.toNatClampNeg) rfl lc_211 ln_211 h1 rfl ?_
    refine e_L 2 (f' := (67, [(0, .ref 151), (1, .int v1), (2, .int v2), (3, .int v3), (4, .int v4)], [.int ((s.1 211 v4.toNatClampNeg) - (1 : Int32))])) rfl ?_
    exact e_rI rfl rfl
set_option maxRecDepth 100000 in
set_option maxHeartbeats 4000000 in
theorem le_X12_numberOf_89 (en : pN) (d : Nat) (v1 : Int32) (v2 : Int32) (v3 : Int32) (v4 : Int32) (vs0 : Int32) (vs1 : Int32) (s : qS) : qle (if ¬ vs0 = vs1 then gd (p_inB v4 65536 = true) (nm (uI s 211 (v4.toNatClampNeg) ((s.1 151 101) + (1 : Int32))) (fun s3 => L_X12_numberOf_111 en d v1 v2 v3 (0 : Int32) s3)) else some (some (.int (-3 : Int32)), s)) (L_X12_numberOf_89 en d v1 v2 v3 v4 vs0 vs1 s) := by
  show qle _ (qE (qev en d) en (some .int) tb_X12_numberOf (89, [(0, .ref 151), (1, .int v1), (2, .int v2), (3, .int v3), (4, .int v4)], [.int vs1, .int vs0]) s)
  refine e_icmp 95 rfl rfl rfl (fun c1 => ?_) (fun c1 => ?_)
  · refine e_L 1 (f' := (96, [(0, .ref 151), (1, .int v1), (2, .int v2), (3, .int v3), (4, .int v4)], [.ref 151])) rfl ?_
    refine e_gR (q := 211) 12 105 rfl rfl lc_151 lr_151_105 ?_
    refine e_L 2 (f' := (102, [(0, .ref 151), (1, .int v1), (2, .int v2), (3, .int v3), (4, .int v4)], [.ref 151, .int v4, .ref 211])) rfl ?_
    refine e_gI 12 101 rfl rfl lc_151 ?_
    refine e_L 2 (f' := (107, [(0, .ref 151), (1, .int v1), (2, .int v2), (3, .int v3), (4, .int v4)], [.int ((s.1 151 101) + (1 : Int32)), .int v4, .ref 211])) rfl ?_
    refine qle_gd fun h2 => ?_
    refine e_ias (n := 65536) (k := v4.toNatClampNeg) rfl lc_211 ln_211 h2 rfl ?_
    refine e_nS fun s3 => ?_
    refine e_L 2 (f' := (111, [(5, .int (0 : Int32)), (0, .ref 151), (1, .int v1), (2, .int v2), (3, .int v3), (4, .int v4)], [])) rfl ?_
    exact qE_sub (qsubL [1, 2, 3, 4, 0] rfl (ks := [5, 0, 1, 2, 3, 4]) rfl (by decide))
  · refine e_L 1 (f' := (94, [(0, .ref 151), (1, .int v1), (2, .int v2), (3, .int v3), (4, .int v4)], [.int (-3 : Int32)])) rfl ?_
    exact e_rI rfl rfl
set_option maxRecDepth 100000 in
set_option maxHeartbeats 4000000 in
theorem le_X12_numberOf_111 (en : pN) (d : Nat) (v1 : Int32) (v2 : Int32) (v3 : Int32) (v5 : Int32) (s : qS) : qle (if (s.1 151 60) ≤ v5 then gd (p_inB (s.1 151 101) 20001 = true) (nm (uI s 212 ((s.1 151 101).toNatClampNeg) v1) (fun s3 => gd (p_inB (s3.1 151 101) 20001 = true) (nm (uI s3 213 ((s3.1 151 101).toNatClampNeg) v2) (fun s5 => gd (p_inB (s5.1 151 101) 20001 = true) (nm (uI s5 214 ((s5.1 151 101).toNatClampNeg) (vp_nar .boolean v3)) (fun s7 => gd (p_inB (s7.1 151 101) 20001 = true) (nm (uI s7 216 ((s7.1 151 101).toNatClampNeg) (vp_nar .boolean (0 : Int32))) (fun s9 => gd (p_inB (s9.1 151 101) 20001 = true) (nm (uI s9 217 ((s9.1 151 101).toNatClampNeg) (-2 : Int32)) (fun s11 => nm (uI s11 151 101 ((s11.1 151 101) + (1 : Int32))) (fun s12 => some (some (.int ((s12.1 151 101) - (1 : Int32))), s12)))))))))))) else gd (p_inB v5 216 = true) (gd (p_inB (((s.1 151 101) * (s.1 151 60)) + v5) 1610000 = true) (nm (uI s 210 ((((s.1 151 101) * (s.1 151 60)) + v5).toNatClampNeg) (s.1 187 v5.toNatClampNeg)) (fun s15 => L_X12_numberOf_111 en d v1 v2 v3 (v5 + (1 : Int32)) s15)))) (L_X12_numberOf_111 en d v1 v2 v3 v5 s) := by
  show qle _ (qE (qev en d) en (some .int) tb_X12_numberOf (111, [(0, .ref 151), (1, .int v1), (2, .int v2), (3, .int v3), (5, .int v5)], []) s)
  refine e_L 2 (f' := (114, [(0, .ref 151), (1, .int v1), (2, .int v2), (3, .int v3), (5, .int v5)], [.ref 151, .int v5])) rfl ?_
  refine e_gI 12 60 rfl rfl lc_151 ?_
  refine e_icmp 150 rfl rfl rfl (fun c1 => ?_) (fun c1 => ?_)
  · refine e_L 1 (f' := (151, [(0, .ref 151), (1, .int v1), (2, .int v2), (3, .int v3), (5, .int v5)], [.ref 151])) rfl ?_
    refine e_gR (q := 212) 12 106 rfl rfl lc_151 lr_151_106 ?_
    refine e_L 1 (f' := (155, [(0, .ref 151), (1, .int v1), (2, .int v2), (3, .int v3), (5, .int v5)], [.ref 151, .ref 212])) rfl ?_
    refine e_gI 12 101 rfl rfl lc_151 ?_
    refine e_L 1 (f' := (159, [(0, .ref 151), (1, .int v1), (2, .int v2), (3, .int v3), (5, .int v5)], [.int v1, .int (s.1 151 101), .ref 212])) rfl ?_
    refine qle_gd fun h2 => ?_
    refine e_ias (n := 20001) (k := (s.1 151 101).toNatClampNeg) rfl lc_212 ln_212 h2 rfl ?_
    refine e_nS fun s3 => ?_
    refine e_L 1 (f' := (161, [(0, .ref 151), (1, .int v1), (2, .int v2), (3, .int v3), (5, .int v5)], [.ref 151])) rfl ?_
    refine e_gR (q := 213) 12 107 rfl rfl lc_151 lr_151_107 ?_
    refine e_L 1 (f' := (165, [(0, .ref 151), (1, .int v1), (2, .int v2), (3, .int v3), (5, .int v5)], [.ref 151, .ref 213])) rfl ?_
    refine e_gI 12 101 rfl rfl lc_151 ?_
    refine e_L 1 (f' := (169, [(0, .ref 151), (1, .int v1), (2, .int v2), (3, .int v3), (5, .int v5)], [.int v2, .int (s3.1 151 101), .ref 213])) rfl ?_
    refine qle_gd fun h4 => ?_
    refine e_ias (n := 20001) (k := (s3.1 151 101).toNatClampNeg) rfl lc_213 ln_213 h4 rfl ?_
    refine e_nS fun s5 => ?_
    refine e_L 1 (f' := (171, [(0, .ref 151), (1, .int v1), (2, .int v2), (3, .int v3), (5, .int v5)], [.ref 151])) rfl ?_
    refine e_gR (q := 214) 12 108 rfl rfl lc_151 lr_151_108 ?_
    refine e_L 1 (f' := (175, [(0, .ref 151), (1, .int v1), (2, .int v2), (3, .int v3), (5, .int v5)], [.ref 151, .ref 214])) rfl ?_
    refine e_gI 12 101 rfl rfl lc_151 ?_
    refine e_L 1 (f' := (179, [(0, .ref 151), (1, .int v1), (2, .int v2), (3, .int v3), (5, .int v5)], [.int v3, .int (s5.1 151 101), .ref 214])) rfl ?_
    refine qle_gd fun h6 => ?_
    refine e_bas (n := 20001) (k := (s5.1 151 101).toNatClampNeg) rfl lc_214 ln_214 h6 rfl ?_
    refine e_nS fun s7 => ?_
    refine e_L 1 (f' := (181, [(0, .ref 151), (1, .int v1), (2, .int v2), (3, .int v3), (5, .int v5)], [.ref 151])) rfl ?_
    refine e_gR (q := 216) 12 110 rfl rfl lc_151 lr_151_110 ?_
    refine e_L 1 (f' := (185, [(0, .ref 151), (1, .int v1), (2, .int v2), (3, .int v3), (5, .int v5)], [.ref 151, .ref 216])) rfl ?_
    refine e_gI 12 101 rfl rfl lc_151 ?_
    refine e_L 1 (f' := (189, [(0, .ref 151), (1, .int v1), (2, .int v2), (3, .int v3), (5, .int v5)], [.int (0 : Int32), .int (s7.1 151 101), .ref 216])) rfl ?_
    refine qle_gd fun h8 => ?_
    refine e_bas (n := 20001) (k := (s7.1 151 101).toNatClampNeg) rfl lc_216 ln_216 h8 rfl ?_
    refine e_nS fun s9 => ?_
    refine e_L 1 (f' := (191, [(0, .ref 151), (1, .int v1), (2, .int v2), (3, .int v3), (5, .int v5)], [.ref 151])) rfl ?_
    refine e_gR (q := 217) 12 111 rfl rfl lc_151 lr_151_111 ?_
    refine e_L 1 (f' := (195, [(0, .ref 151), (1, .int v1), (2, .int v2), (3, .int v3), (5, .int v5)], [.ref 151, .ref 217])) rfl ?_
    refine e_gI 12 101 rfl rfl lc_151 ?_
    refine e_L 1 (f' := (200, [(0, .ref 151), (1, .int v1), (2, .int v2), (3, .int v3), (5, .int v5)], [.int (-2 : Int32), .int (s9.1 151 101), .ref 217])) rfl ?_
    refine qle_gd fun h10 => ?_
    refine e_ias (n := 20001) (k := (s9.1 151 101).toNatClampNeg) rfl lc_217 ln_217 h10 rfl ?_
    refine e_nS fun s11 => ?_
    refine e_L 2 (f' := (203, [(0, .ref 151), (1, .int v1), (2, .int v2), (3, .int v3), (5, .int v5)], [.ref 151, .ref 151])) rfl ?_
    refine e_gI 12 101 rfl rfl lc_151 ?_
    refine e_L 2 (f' := (208, [(0, .ref 151), (1, .int v1), (2, .int v2), (3, .int v3), (5, .int v5)], [.int ((s11.1 151 101) + (1 : Int32)), .ref 151])) rfl ?_
    refine e_pI 12 101 rfl rfl lc_151 rfl ?_
    refine e_nS fun s12 => ?_
    refine e_L 1 (f' := (212, [(0, .ref 151), (1, .int v1), (2, .int v2), (3, .int v3), (5, .int v5)], [.ref 151])) rfl ?_
    refine e_gI 12 101 rfl rfl lc_151 ?_
    refine e_L 2 (f' := (217, [(0, .ref 151), (1, .int v1), (2, .int v2), (3, .int v3), (5, .int v5)], [.int ((s12.1 151 101) - (1 : Int32))])) rfl ?_
    exact e_rI rfl rfl
  · refine e_L 1 (f' := (121, [(0, .ref 151), (1, .int v1), (2, .int v2), (3, .int v3), (5, .int v5)], [.ref 151])) rfl ?_
    refine e_gR (q := 210) 12 104 rfl rfl lc_151 lr_151_104 ?_
    refine e_L 1 (f' := (125, [(0, .ref 151), (1, .int v1), (2, .int v2), (3, .int v3), (5, .int v5)], [.ref 151, .ref 210])) rfl ?_
    refine e_gI 12 101 rfl rfl lc_151 ?_
    refine e_L 1 (f' := (129, [(0, .ref 151), (1, .int v1), (2, .int v2), (3, .int v3), (5, .int v5)], [.ref 151, .int (s.1 151 101), .ref 210])) rfl ?_
    refine e_gI 12 60 rfl rfl lc_151 ?_
    refine e_L 4 (f' := (137, [(0, .ref 151), (1, .int v1), (2, .int v2), (3, .int v3), (5, .int v5)], [.ref 151, .int (((s.1 151 101) * (s.1 151 60)) + v5), .ref 210])) rfl ?_
    refine e_gR (q := 187) 12 57 rfl rfl lc_151 lr_151_57 ?_
    refine e_L 1 (f' := (142, [(0, .ref 151), (1, .int v1), (2, .int v2), (3, .int v3), (5, .int v5)], [.int v5, .ref 187, .int (((s.1 151 101) * (s.1 151 60)) + v5), .ref 210])) rfl ?_
    refine qle_gd fun h13 => ?_
    refine e_ial (n := 216) (k := v5.toNatClampNeg) rfl lc_187 ln_187 h13 rfl ?_
    refine qle_gd fun h14 => ?_
    refine e_ias (n := 1610000) (k := (((s.1 151 101) * (s.1 151 60)) + v5).toNatClampNeg) rfl lc_210 ln_210 h14 rfl ?_
    refine e_nS fun s15 => ?_
    refine e_L 2 (f' := (111, [(5, .int (v5 + (1 : Int32))), (0, .ref 151), (1, .int v1), (2, .int v2), (3, .int v3)], [])) rfl ?_
    exact qE_sub (qsubL [1, 2, 3, 4, 0] rfl (ks := [5, 0, 1, 2, 3]) rfl (by decide))
set_option maxRecDepth 100000 in
set_option maxHeartbeats 4000000 in
theorem le_X12_numberOf (en : pN) (d : Nat) (a1 : Int32) (a2 : Int32) (a3 : Int32) (s : qS) : qle (bI (qev en d 355 [.ref 151] s) (fun w1 s2 => nm (w1.toUInt32 >>> ((16 : Int32).toUInt32 &&& Int32.toUInt32 31)).toInt32 (fun z4 => L_X12_numberOf_9 en d a1 a2 a3 z4 s2))) (qev en (d + 1) 358 [.ref 151, .int a1, .int a2, .int a3] s) := by
  refine e_enter ix_X12_numberOf (Nat.le_of_ble_eq_true rfl) ?_
  show qle _ (qE (qev en d) en (some .int) tb_X12_numberOf (0, [(0, .ref 151), (1, .int a1), (2, .int a2), (3, .int a3)], []) s)
  refine e_L 1 (f' := (1, [(0, .ref 151), (1, .int a1), (2, .int a2), (3, .int a3)], [.ref 151])) rfl ?_
  refine e_vI 355 rfl rfl ix_X12_hashOfState rfl (q_recvOf lc_151 rfl) (Nat.le_of_ble_eq_true rfl) (fun w1 s2 e3 => ?_)
  refine e_L 2 (f' := (7, [(0, .ref 151), (1, .int a1), (2, .int a2), (3, .int a3)], [.int (w1.toUInt32 >>> ((16 : Int32).toUInt32 &&& Int32.toUInt32 31)).toInt32])) rfl ?_
  refine e_nI fun z4 => ?_
  refine e_L 1 (f' := (9, [(4, .int z4), (0, .ref 151), (1, .int a1), (2, .int a2), (3, .int a3)], [])) rfl ?_
  exact qE_sub (qsubL [1, 2, 3, 4, 0] rfl (ks := [4, 0, 1, 2, 3]) rfl (by decide))
noncomputable def L_X12_sortOfEnd_6 (en : pN) (d : Nat) (v1 : Int32) (v2 : Int32) (v3 : Int32) (s : qS) : Option qR := qE (qev en d) en (some .int) tb_X12_sortOfEnd (6, [(0, .ref 151), (1, .int v1), (2, .int v2), (3, .int v3)], []) s
noncomputable def L_X12_sortOfEnd_46 (en : pN) (d : Nat) (v2 : Int32) (v3 : Int32) (vs0 : Int32) (s : qS) : Option qR := qE (qev en d) en (some .int) tb_X12_sortOfEnd (46, [(0, .ref 151), (2, .int v2), (3, .int v3)], [.int vs0]) s
set_option maxRecDepth 100000 in
set_option maxHeartbeats 4000000 in
theorem le_X12_sortOfEnd_6 (en : pN) (d : Nat) (v1 : Int32) (v2 : Int32) (v3 : Int32) (s : qS) : qle (if (s.1 151 18) ≤ v3 then if v1 = (0 : Int32) then if v2 = (0 : Int32) then some (some (.int (1 : Int32)), s) else some (some (.int (2 : Int32)), s) else some (some (.int (0 : Int32)), s) else if v1 = (0 : Int32) then L_X12_sortOfEnd_46 en d v2 v3 (0 : Int32) s else gd (p_inB ((0 : Int32) + v3) 216 = true) (if (s.1 187 ((0 : Int32) + v3).toNatClampNeg) = (4 : Int32) then L_X12_sortOfEnd_46 en d v2 v3 (1 : Int32) s else if ¬ (s.1 187 ((0 : Int32) + v3).toNatClampNeg) = (0 : Int32) then L_X12_sortOfEnd_46 en d v2 v3 (0 : Int32) s else L_X12_sortOfEnd_46 en d v2 v3 (1 : Int32) s)) (L_X12_sortOfEnd_6 en d v1 v2 v3 s) := by
  show qle _ (qE (qev en d) en (some .int) tb_X12_sortOfEnd (6, [(0, .ref 151), (1, .int v1), (2, .int v2), (3, .int v3)], []) s)
  refine e_L 2 (f' := (8, [(0, .ref 151), (1, .int v1), (2, .int v2), (3, .int v3)], [.ref 151, .int v3])) rfl ?_
  refine e_gI 12 18 rfl rfl lc_151 ?_
  refine e_icmp 75 rfl rfl rfl (fun c1 => ?_) (fun c1 => ?_)
  · refine e_L 1 (f' := (76, [(0, .ref 151), (1, .int v1), (2, .int v2), (3, .int v3)], [.int v1])) rfl ?_
    refine e_ifz 83 rfl rfl rfl (fun c2 => ?_) (fun c2 => ?_)
    · refine e_L 1 (f' := (84, [(0, .ref 151), (1, .int v1), (2, .int v2), (3, .int v3)], [.int v2])) rfl ?_
      refine e_ifz 91 rfl rfl rfl (fun c3 => ?_) (fun c3 => ?_)
      · refine e_L 1 (f' := (92, [(0, .ref 151), (1, .int v1), (2, .int v2), (3, .int v3)], [.int (1 : Int32)])) rfl ?_
        exact e_rI rfl rfl
      · refine e_L 2 (f' := (92, [(0, .ref 151), (1, .int v1), (2, .int v2), (3, .int v3)], [.int (2 : Int32)])) rfl ?_
        exact e_rI rfl rfl
    · refine e_L 2 (f' := (92, [(0, .ref 151), (1, .int v1), (2, .int v2), (3, .int v3)], [.int (0 : Int32)])) rfl ?_
      exact e_rI rfl rfl
  · refine e_L 1 (f' := (15, [(0, .ref 151), (1, .int v1), (2, .int v2), (3, .int v3)], [.int v1])) rfl ?_
    refine e_ifz 45 rfl rfl rfl (fun c4 => ?_) (fun c4 => ?_)
    · refine e_L 1 (f' := (46, [(0, .ref 151), (1, .int v1), (2, .int v2), (3, .int v3)], [.int (0 : Int32)])) rfl ?_
      exact qE_sub (qsubL [0, 2, 3] rfl (ks := [0, 1, 2, 3]) rfl (by decide))
    · refine e_L 1 (f' := (19, [(0, .ref 151), (1, .int v1), (2, .int v2), (3, .int v3)], [.ref 151])) rfl ?_
      refine e_gR (q := 187) 12 57 rfl rfl lc_151 lr_151_57 ?_
      refine e_L 3 (f' := (25, [(0, .ref 151), (1, .int v1), (2, .int v2), (3, .int v3)], [.int ((0 : Int32) + v3), .ref 187])) rfl ?_
      refine qle_gd fun h5 => ?_
      refine e_ial (n := 216) (k := ((0 : Int32) + v3).toNatClampNeg) rfl lc_187 ln_187 h5 rfl ?_
      refine e_L 1 (f' := (27, [(0, .ref 151), (1, .int v1), (2, .int v2), (3, .int v3)], [.int (4 : Int32), .int (s.1 187 ((0 : Int32) + v3).toNatClampNeg)])) rfl ?_
      refine e_icmp 41 rfl rfl rfl (fun c6 => ?_) (fun c6 => ?_)
      · refine e_L 2 (f' := (46, [(0, .ref 151), (1, .int v1), (2, .int v2), (3, .int v3)], [.int (1 : Int32)])) rfl ?_
        exact qE_sub (qsubL [0, 2, 3] rfl (ks := [0, 1, 2, 3]) rfl (by decide))
      · refine e_L 1 (f' := (31, [(0, .ref 151), (1, .int v1), (2, .int v2), (3, .int v3)], [.ref 151])) rfl ?_
        refine e_gR (q := 187) 12 57 rfl rfl lc_151 lr_151_57 ?_
        refine e_L 3 (f' := (37, [(0, .ref 151), (1, .int v1), (2, .int v2), (3, .int v3)], [.int ((0 : Int32) + v3), .ref 187])) rfl ?_
        refine e_ial (n := 216) (k := ((0 : Int32) + v3).toNatClampNeg) rfl lc_187 ln_187 h5 rfl ?_
        refine e_ifz 45 rfl rfl rfl (fun c7 => ?_) (fun c7 => ?_)
        · refine e_L 1 (f' := (46, [(0, .ref 151), (1, .int v1), (2, .int v2), (3, .int v3)], [.int (0 : Int32)])) rfl ?_
          exact qE_sub (qsubL [0, 2, 3] rfl (ks := [0, 1, 2, 3]) rfl (by decide))
        · refine e_L 2 (f' := (46, [(0, .ref 151), (1, .int v1), (2, .int v2), (3, .int v3)], [.int (1 : Int32)])) rfl ?_
          exact qE_sub (qsubL [0, 2, 3] rfl (ks := [0, 1, 2, 3]) rfl (by decide))
set_option maxRecDepth 100000 in
set_option maxHeartbeats 4000000 in
theorem le_X12_sortOfEnd_46 (en : pN) (d : Nat) (v2 : Int32) (v3 : Int32) (vs0 : Int32) (s : qS) : qle (if ¬ v2 = (0 : Int32) then L_X12_sortOfEnd_6 en d vs0 (1 : Int32) (v3 + (1 : Int32)) s else gd (p_inB ((0 : Int32) + v3) 216 = true) (if ¬ (s.1 187 ((0 : Int32) + v3).toNatClampNeg) = (5 : Int32) then L_X12_sortOfEnd_6 en d vs0 (0 : Int32) (v3 + (1 : Int32)) s else L_X12_sortOfEnd_6 en d vs0 (1 : Int32) (v3 + (1 : Int32)) s)) (L_X12_sortOfEnd_46 en d v2 v3 vs0 s) := by
  show qle _ (qE (qev en d) en (some .int) tb_X12_sortOfEnd (46, [(0, .ref 151), (2, .int v2), (3, .int v3)], [.int vs0]) s)
  refine e_L 2 (f' := (48, [(1, .int vs0), (0, .ref 151), (2, .int v2), (3, .int v3)], [.int v2])) rfl ?_
  refine e_ifz 63 rfl rfl rfl (fun c1 => ?_) (fun c1 => ?_)
  · refine e_L 5 (f' := (6, [(3, .int (v3 + (1 : Int32))), (2, .int (1 : Int32)), (1, .int vs0), (0, .ref 151)], [])) rfl ?_
    exact qE_sub (qsubL [3, 2, 1, 0] rfl (ks := [3, 2, 1, 0]) rfl (by decide))
  · refine e_L 1 (f' := (52, [(1, .int vs0), (0, .ref 151), (2, .int v2), (3, .int v3)], [.ref 151])) rfl ?_
    refine e_gR (q := 187) 12 57 rfl rfl lc_151 lr_151_57 ?_
    refine e_L 3 (f' := (58, [(1, .int vs0), (0, .ref 151), (2, .int v2), (3, .int v3)], [.int ((0 : Int32) + v3), .ref 187])) rfl ?_
    refine qle_gd fun h2 => ?_
    refine e_ial (n := 216) (k := ((0 : Int32) + v3).toNatClampNeg) rfl lc_187 ln_187 h2 rfl ?_
    refine e_L 1 (f' := (60, [(1, .int vs0), (0, .ref 151), (2, .int v2), (3, .int v3)], [.int (5 : Int32), .int (s.1 187 ((0 : Int32) + v3).toNatClampNeg)])) rfl ?_
    refine e_icmp 67 rfl rfl rfl (fun c3 => ?_) (fun c3 => ?_)
    · refine e_L 4 (f' := (6, [(3, .int (v3 + (1 : Int32))), (2, .int (0 : Int32)), (1, .int vs0), (0, .ref 151)], [])) rfl ?_
      exact qE_sub (qsubL [3, 2, 1, 0] rfl (ks := [3, 2, 1, 0]) rfl (by decide))
    · refine e_L 5 (f' := (6, [(3, .int (v3 + (1 : Int32))), (2, .int (1 : Int32)), (1, .int vs0), (0, .ref 151)], [])) rfl ?_
      exact qE_sub (qsubL [3, 2, 1, 0] rfl (ks := [3, 2, 1, 0]) rfl (by decide))
set_option maxRecDepth 100000 in
set_option maxHeartbeats 4000000 in
theorem le_X12_sortOfEnd (en : pN) (d : Nat) (s : qS) : qle (L_X12_sortOfEnd_6 en d (1 : Int32) (0 : Int32) (0 : Int32) s) (qev en (d + 1) 359 [.ref 151] s) := by
  refine e_enter ix_X12_sortOfEnd (Nat.le_of_ble_eq_true rfl) ?_
  show qle _ (qE (qev en d) en (some .int) tb_X12_sortOfEnd (0, [(0, .ref 151)], []) s)
  refine e_L 6 (f' := (6, [(3, .int (0 : Int32)), (2, .int (0 : Int32)), (1, .int (1 : Int32)), (0, .ref 151)], [])) rfl ?_
  exact qE_sub (qsubL [3, 2, 1, 0] rfl (ks := [3, 2, 1, 0]) rfl (by decide))
noncomputable def L_X12_isOutcome_34 (en : pN) (d : Nat) (v2 : Int32) (v3 : Int32) (v4 : Int32) (s : qS) : Option qR := qE (qev en d) en (some .boolean) tb_X12_isOutcome (34, [(0, .ref 151), (2, .int v2), (3, .int v3), (4, .int v4)], []) s
noncomputable def L_X12_isOutcome_85 (en : pN) (d : Nat) (v2 : Int32) (v3 : Int32) (v4 : Int32) (s : qS) : Option qR := qE (qev en d) en (some .boolean) tb_X12_isOutcome (85, [(0, .ref 151), (2, .int v2), (3, .int v3), (4, .int v4)], []) s
set_option maxRecDepth 100000 in
set_option maxHeartbeats 4000000 in
theorem le_X12_isOutcome_34 (en : pN) (d : Nat) (v2 : Int32) (v3 : Int32) (v4 : Int32) (s : qS) : qle (if (24 : Int32) ≤ v4 then L_X12_isOutcome_85 en d v2 v3 (0 : Int32) s else if v3 = (0 : Int32) then L_X12_isOutcome_85 en d v2 v3 (0 : Int32) s else gd (p_inB ((v2 + (12 : Int32)) + v4) 1610000 = true) (gd (p_inB ((12 : Int32) + v4) 216 = true) (if ¬ (s.1 210 ((v2 + (12 : Int32)) + v4).toNatClampNeg) = (s.1 187 ((12 : Int32) + v4).toNatClampNeg) then L_X12_isOutcome_34 en d v2 (0 : Int32) (v4 + (1 : Int32)) s else L_X12_isOutcome_34 en d v2 (1 : Int32) (v4 + (1 : Int32)) s))) (L_X12_isOutcome_34 en d v2 v3 v4 s) := by
  show qle _ (qE (qev en d) en (some .boolean) tb_X12_isOutcome (34, [(0, .ref 151), (2, .int v2), (3, .int v3), (4, .int v4)], []) s)
  refine e_L 2 (f' := (38, [(0, .ref 151), (2, .int v2), (3, .int v3), (4, .int v4)], [.int (24 : Int32), .int v4])) rfl ?_
  refine e_icmp 82 rfl rfl rfl (fun c1 => ?_) (fun c1 => ?_)
  · refine e_L 2 (f' := (85, [(4, .int (0 : Int32)), (0, .ref 151), (2, .int v2), (3, .int v3)], [])) rfl ?_
    exact qE_sub (qsubL [1, 2, 3, 0] rfl (ks := [4, 0, 2, 3]) rfl (by decide))
  · refine e_L 1 (f' := (42, [(0, .ref 151), (2, .int v2), (3, .int v3), (4, .int v4)], [.int v3])) rfl ?_
    refine e_ifz 82 rfl rfl rfl (fun c2 => ?_) (fun c2 => ?_)
    · refine e_L 2 (f' := (85, [(4, .int (0 : Int32)), (0, .ref 151), (2, .int v2), (3, .int v3)], [])) rfl ?_
      exact qE_sub (qsubL [1, 2, 3, 0] rfl (ks := [4, 0, 2, 3]) rfl (by decide))
    · refine e_L 1 (f' := (46, [(0, .ref 151), (2, .int v2), (3, .int v3), (4, .int v4)], [.ref 151])) rfl ?_
      refine e_gR (q := 210) 12 104 rfl rfl lc_151 lr_151_104 ?_
      refine e_L 5 (f' := (56, [(0, .ref 151), (2, .int v2), (3, .int v3), (4, .int v4)], [.int ((v2 + (12 : Int32)) + v4), .ref 210])) rfl ?_
      refine qle_gd fun h3 => ?_
      refine e_ial (n := 1610000) (k := ((v2 + (12 : Int32)) + v4).toNatClampNeg) rfl lc_210 ln_210 h3 rfl ?_
      refine e_L 1 (f' := (58, [(0, .ref 151), (2, .int v2), (3, .int v3), (4, .int v4)], [.ref 151, .int (s.1 210 ((v2 + (12 : Int32)) + v4).toNatClampNeg)])) rfl ?_
      refine e_gR (q := 187) 12 57 rfl rfl lc_151 lr_151_57 ?_
      refine e_L 3 (f' := (66, [(0, .ref 151), (2, .int v2), (3, .int v3), (4, .int v4)], [.int ((12 : Int32) + v4), .ref 187, .int (s.1 210 ((v2 + (12 : Int32)) + v4).toNatClampNeg)])) rfl ?_
      refine qle_gd fun h4 => ?_
      refine e_ial (n := 216) (k := ((12 : Int32) + v4).toNatClampNeg) rfl lc_187 ln_187 h4 rfl ?_
      refine e_icmp 74 rfl rfl rfl (fun c5 => ?_) (fun c5 => ?_)
      · refine e_L 4 (f' := (34, [(4, .int (v4 + (1 : Int32))), (3, .int (0 : Int32)), (0, .ref 151), (2, .int v2)], [])) rfl ?_
        exact qE_sub (qsubL [2, 3, 1, 0] rfl (ks := [4, 3, 0, 2]) rfl (by decide))
      · refine e_L 5 (f' := (34, [(4, .int (v4 + (1 : Int32))), (3, .int (1 : Int32)), (0, .ref 151), (2, .int v2)], [])) rfl ?_
        exact qE_sub (qsubL [2, 3, 1, 0] rfl (ks := [4, 3, 0, 2]) rfl (by decide))
set_option maxRecDepth 100000 in
set_option maxHeartbeats 4000000 in
theorem le_X12_isOutcome_85 (en : pN) (d : Nat) (v2 : Int32) (v3 : Int32) (v4 : Int32) (s : qS) : qle (if (8 : Int32) ≤ v4 then gd (v3 = 0 ∨ v3 = 1) (some (some (.int v3), s)) else if v3 = (0 : Int32) then gd (v3 = 0 ∨ v3 = 1) (some (some (.int v3), s)) else gd (p_inB ((v2 + (44 : Int32)) + v4) 1610000 = true) (gd (p_inB ((44 : Int32) + v4) 216 = true) (if ¬ (s.1 210 ((v2 + (44 : Int32)) + v4).toNatClampNeg) = (s.1 187 ((44 : Int32) + v4).toNatClampNeg) then L_X12_isOutcome_85 en d v2 (0 : Int32) (v4 + (1 : Int32)) s else L_X12_isOutcome_85 en d v2 (1 : Int32) (v4 + (1 : Int32)) s))) (L_X12_isOutcome_85 en d v2 v3 v4 s) := by
  show qle _ (qE (qev en d) en (some .boolean) tb_X12_isOutcome (85, [(0, .ref 151), (2, .int v2), (3, .int v3), (4, .int v4)], []) s)
  refine e_L 2 (f' := (89, [(0, .ref 151), (2, .int v2), (3, .int v3), (4, .int v4)], [.int (8 : Int32), .int v4])) rfl ?_
  refine e_icmp 133 rfl rfl rfl (fun c1 => ?_) (fun c1 => ?_)
  · refine e_L 1 (f' := (134, [(0, .ref 151), (2, .int v2), (3, .int v3), (4, .int v4)], [.int v3])) rfl ?_
    exact qle_gd fun h2 => e_rZ rfl rfl h2
  · refine e_L 1 (f' := (93, [(0, .ref 151), (2, .int v2), (3, .int v3), (4, .int v4)], [.int v3])) rfl ?_
    refine e_ifz 133 rfl rfl rfl (fun c3 => ?_) (fun c3 => ?_)
    · refine e_L 1 (f' := (134, [(0, .ref 151), (2, .int v2), (3, .int v3), (4, .int v4)], [.int v3])) rfl ?_
      exact qle_gd fun h4 => e_rZ rfl rfl h4
    · refine e_L 1 (f' := (97, [(0, .ref 151), (2, .int v2), (3, .int v3), (4, .int v4)], [.ref 151])) rfl ?_
      refine e_gR (q := 210) 12 104 rfl rfl lc_151 lr_151_104 ?_
      refine e_L 5 (f' := (107, [(0, .ref 151), (2, .int v2), (3, .int v3), (4, .int v4)], [.int ((v2 + (44 : Int32)) + v4), .ref 210])) rfl ?_
      refine qle_gd fun h5 => ?_
      refine e_ial (n := 1610000) (k := ((v2 + (44 : Int32)) + v4).toNatClampNeg) rfl lc_210 ln_210 h5 rfl ?_
      refine e_L 1 (f' := (109, [(0, .ref 151), (2, .int v2), (3, .int v3), (4, .int v4)], [.ref 151, .int (s.1 210 ((v2 + (44 : Int32)) + v4).toNatClampNeg)])) rfl ?_
      refine e_gR (q := 187) 12 57 rfl rfl lc_151 lr_151_57 ?_
      refine e_L 3 (f' := (117, [(0, .ref 151), (2, .int v2), (3, .int v3), (4, .int v4)], [.int ((44 : Int32) + v4), .ref 187, .int (s.1 210 ((v2 + (44 : Int32)) + v4).toNatClampNeg)])) rfl ?_
      refine qle_gd fun h6 => ?_
      refine e_ial (n := 216) (k := ((44 : Int32) + v4).toNatClampNeg) rfl lc_187 ln_187 h6 rfl ?_
      refine e_icmp 125 rfl rfl rfl (fun c7 => ?_) (fun c7 => ?_)
      · refine e_L 4 (f' := (85, [(4, .int (v4 + (1 : Int32))), (3, .int (0 : Int32)), (0, .ref 151), (2, .int v2)], [])) rfl ?_
        exact qE_sub (qsubL [2, 3, 1, 0] rfl (ks := [4, 3, 0, 2]) rfl (by decide))
      · refine e_L 5 (f' := (85, [(4, .int (v4 + (1 : Int32))), (3, .int (1 : Int32)), (0, .ref 151), (2, .int v2)], [])) rfl ?_
        exact qE_sub (qsubL [2, 3, 1, 0] rfl (ks := [4, 3, 0, 2]) rfl (by decide))
set_option maxRecDepth 100000 in
set_option maxHeartbeats 4000000 in
theorem le_X12_isOutcome (en : pN) (d : Nat) (a1 : Int32) (s : qS) : qle (gd (p_inB a1 20001 = true) (nm ((s.1 221 a1.toNatClampNeg) * (s.1 151 60)) (fun z2 => bI (qev en d 359 [.ref 151] s) (fun w3 s4 => if ¬ (s.1 225 a1.toNatClampNeg) = w3 then L_X12_isOutcome_34 en d z2 (0 : Int32) (0 : Int32) s4 else L_X12_isOutcome_34 en d z2 (1 : Int32) (0 : Int32) s4)))) (qev en (d + 1) 360 [.ref 151, .int a1] s) := by
  refine e_enter ix_X12_isOutcome (Nat.le_of_ble_eq_true rfl) ?_
  show qle _ (qE (qev en d) en (some .boolean) tb_X12_isOutcome (0, [(0, .ref 151), (1, .int a1)], []) s)
  refine e_L 1 (f' := (1, [(0, .ref 151), (1, .int a1)], [.ref 151])) rfl ?_
  refine e_gR (q := 221) 12 116 rfl rfl lc_151 lr_151_116 ?_
  refine e_L 1 (f' := (5, [(0, .ref 151), (1, .int a1)], [.int a1, .ref 221])) rfl ?_
  refine qle_gd fun h1 => ?_
  refine e_ial (n := 20001) (k := a1.toNatClampNeg) rfl lc_221 ln_221 h1 rfl ?_
  refine e_L 1 (f' := (7, [(0, .ref 151), (1, .int a1)], [.ref 151, .int (s.1 221 a1.toNatClampNeg)])) rfl ?_
  refine e_gI 12 60 rfl rfl lc_151 ?_
  refine e_L 1 (f' := (11, [(0, .ref 151), (1, .int a1)], [.int ((s.1 221 a1.toNatClampNeg) * (s.1 151 60))])) rfl ?_
  refine e_nI fun z2 => ?_
  refine e_L 2 (f' := (13, [(2, .int z2), (0, .ref 151), (1, .int a1)], [.ref 151])) rfl ?_
  refine e_gR (q := 225) 12 122 rfl rfl lc_151 lr_151_122 ?_
  refine e_L 1 (f' := (17, [(2, .int z2), (0, .ref 151), (1, .int a1)], [.int a1, .ref 225])) rfl ?_
  refine e_ial (n := 20001) (k := a1.toNatClampNeg) rfl lc_225 ln_225 h1 rfl ?_
  refine e_L 1 (f' := (19, [(2, .int z2), (0, .ref 151), (1, .int a1)], [.ref 151, .int (s.1 225 a1.toNatClampNeg)])) rfl ?_
  refine e_vI 359 rfl rfl ix_X12_sortOfEnd rfl (q_recvOf lc_151 rfl) (Nat.le_of_ble_eq_true rfl) (fun w3 s4 e5 => ?_)
  refine e_icmp 29 rfl rfl rfl (fun c6 => ?_) (fun c6 => ?_)
  · refine e_L 4 (f' := (34, [(4, .int (0 : Int32)), (3, .int (0 : Int32)), (2, .int z2), (0, .ref 151), (1, .int a1)], [])) rfl ?_
    exact qE_sub (qsubL [3, 2, 1, 0] rfl (ks := [4, 3, 2, 0, 1]) rfl (by decide))
  · refine e_L 5 (f' := (34, [(4, .int (0 : Int32)), (3, .int (1 : Int32)), (2, .int z2), (0, .ref 151), (1, .int a1)], [])) rfl ?_
    exact qE_sub (qsubL [3, 2, 1, 0] rfl (ks := [4, 3, 2, 0, 1]) rfl (by decide))
noncomputable def L_X12_outcomeOf_5 (en : pN) (d : Nat) (v1 : Int32) (v2 : Int32) (v3 : Int32) (s : qS) : Option qR := qE (qev en d) en (some .int) tb_X12_outcomeOf (5, [(0, .ref 151), (1, .int v1), (2, .int v2), (3, .int v3)], []) s
noncomputable def L_X12_outcomeOf_41 (en : pN) (d : Nat) (v1 : Int32) (v2 : Int32) (v3 : Int32) (s : qS) : Option qR := qE (qev en d) en (some .int) tb_X12_outcomeOf (41, [(0, .ref 151), (1, .int v1), (2, .int v2), (3, .int v3)], []) s
noncomputable def L_X12_outcomeOf_77 (en : pN) (d : Nat) (v1 : Int32) (v2 : Int32) (s : qS) : Option qR := qE (qev en d) en (some .int) tb_X12_outcomeOf (77, [(0, .ref 151), (1, .int v1), (2, .int v2)], []) s
noncomputable def L_X12_outcomeOf_112 (en : pN) (d : Nat) (v1 : Int32) (v2 : Int32) (s : qS) : Option qR := qE (qev en d) en (some .int) tb_X12_outcomeOf (112, [(0, .ref 151), (1, .int v1), (2, .int v2)], []) s
noncomputable def L_X12_outcomeOf_164 (en : pN) (d : Nat) (v2 : Int32) (s : qS) : Option qR := qE (qev en d) en (some .int) tb_X12_outcomeOf (164, [(0, .ref 151), (2, .int v2)], []) s
set_option maxRecDepth 100000 in
set_option maxHeartbeats 4000000 in
theorem le_X12_outcomeOf_5 (en : pN) (d : Nat) (v1 : Int32) (v2 : Int32) (v3 : Int32) (s : qS) : qle (if (24 : Int32) ≤ v3 then L_X12_outcomeOf_41 en d v1 v2 (0 : Int32) s else gd (p_inB ((12 : Int32) + v3) 216 = true) (nm (((31 : Int32) * v2) + (s.1 187 ((12 : Int32) + v3).toNatClampNeg)) (fun z3 => nm (z3 ^^^ (z3.toUInt32 >>> ((13 : Int32).toUInt32 &&& Int32.toUInt32 31)).toInt32) (fun z4 => L_X12_outcomeOf_5 en d v1 z4 (v3 + (1 : Int32)) s)))) (L_X12_outcomeOf_5 en d v1 v2 v3 s) := by
  show qle _ (qE (qev en d) en (some .int) tb_X12_outcomeOf (5, [(0, .ref 151), (1, .int v1), (2, .int v2), (3, .int v3)], []) s)
  refine e_L 2 (f' := (8, [(0, .ref 151), (1, .int v1), (2, .int v2), (3, .int v3)], [.int (24 : Int32), .int v3])) rfl ?_
  refine e_icmp 39 rfl rfl rfl (fun c1 => ?_) (fun c1 => ?_)
  · refine e_L 2 (f' := (41, [(3, .int (0 : Int32)), (0, .ref 151), (1, .int v1), (2, .int v2)], [])) rfl ?_
    exact qE_sub (qsubL [1, 2, 3, 0] rfl (ks := [3, 0, 1, 2]) rfl (by decide))
  · refine e_L 4 (f' := (16, [(0, .ref 151), (1, .int v1), (2, .int v2), (3, .int v3)], [.ref 151, .int ((31 : Int32) * v2)])) rfl ?_
    refine e_gR (q := 187) 12 57 rfl rfl lc_151 lr_151_57 ?_
    refine e_L 3 (f' := (23, [(0, .ref 151), (1, .int v1), (2, .int v2), (3, .int v3)], [.int ((12 : Int32) + v3), .ref 187, .int ((31 : Int32) * v2)])) rfl ?_
    refine qle_gd fun h2 => ?_
    refine e_ial (n := 216) (k := ((12 : Int32) + v3).toNatClampNeg) rfl lc_187 ln_187 h2 rfl ?_
    refine e_L 1 (f' := (25, [(0, .ref 151), (1, .int v1), (2, .int v2), (3, .int v3)], [.int (((31 : Int32) * v2) + (s.1 187 ((12 : Int32) + v3).toNatClampNeg))])) rfl ?_
    refine e_nI fun z3 => ?_
    refine e_L 6 (f' := (32, [(2, .int z3), (0, .ref 151), (1, .int v1), (3, .int v3)], [.int (z3 ^^^ (z3.toUInt32 >>> ((13 : Int32).toUInt32 &&& Int32.toUInt32 31)).toInt32)])) rfl ?_
    refine e_nI fun z4 => ?_
    refine e_L 3 (f' := (5, [(3, .int (v3 + (1 : Int32))), (2, .int z4), (0, .ref 151), (1, .int v1)], [])) rfl ?_
    exact qE_sub (qsubL [2, 3, 1, 0] rfl (ks := [3, 2, 0, 1]) rfl (by decide))
set_option maxRecDepth 100000 in
set_option maxHeartbeats 4000000 in
theorem le_X12_outcomeOf_41 (en : pN) (d : Nat) (v1 : Int32) (v2 : Int32) (v3 : Int32) (s : qS) : qle (if (8 : Int32) ≤ v3 then nm ((v2 * (625341585 : Int32)).toUInt32 >>> ((17 : Int32).toUInt32 &&& Int32.toUInt32 31)).toInt32 (fun z2 => L_X12_outcomeOf_77 en d v1 z2 s) else gd (p_inB ((44 : Int32) + v3) 216 = true) (nm (((37 : Int32) * v2) + (s.1 187 ((44 : Int32) + v3).toNatClampNeg)) (fun z4 => L_X12_outcomeOf_41 en d v1 z4 (v3 + (1 : Int32)) s))) (L_X12_outcomeOf_41 en d v1 v2 v3 s) := by
  show qle _ (qE (qev en d) en (some .int) tb_X12_outcomeOf (41, [(0, .ref 151), (1, .int v1), (2, .int v2), (3, .int v3)], []) s)
  refine e_L 2 (f' := (44, [(0, .ref 151), (1, .int v1), (2, .int v2), (3, .int v3)], [.int (8 : Int32), .int v3])) rfl ?_
  refine e_icmp 68 rfl rfl rfl (fun c1 => ?_) (fun c1 => ?_)
  · refine e_L 1 (f' := (69, [(0, .ref 151), (1, .int v1), (2, .int v2), (3, .int v3)], [.int v2])) rfl ?_
    refine e_ldcw (v := (625341585 : Int32)) rfl (by decide +kernel) ?_
    refine e_L 3 (f' := (76, [(0, .ref 151), (1, .int v1), (2, .int v2), (3, .int v3)], [.int ((v2 * (625341585 : Int32)).toUInt32 >>> ((17 : Int32).toUInt32 &&& Int32.toUInt32 31)).toInt32])) rfl ?_
    refine e_nI fun z2 => ?_
    refine e_L 1 (f' := (77, [(2, .int z2), (0, .ref 151), (1, .int v1), (3, .int v3)], [])) rfl ?_
    exact qE_sub (qsubL [1, 2, 0] rfl (ks := [2, 0, 1, 3]) rfl (by decide))
  · refine e_L 4 (f' := (52, [(0, .ref 151), (1, .int v1), (2, .int v2), (3, .int v3)], [.ref 151, .int ((37 : Int32) * v2)])) rfl ?_
    refine e_gR (q := 187) 12 57 rfl rfl lc_151 lr_151_57 ?_
    refine e_L 3 (f' := (59, [(0, .ref 151), (1, .int v1), (2, .int v2), (3, .int v3)], [.int ((44 : Int32) + v3), .ref 187, .int ((37 : Int32) * v2)])) rfl ?_
    refine qle_gd fun h3 => ?_
    refine e_ial (n := 216) (k := ((44 : Int32) + v3).toNatClampNeg) rfl lc_187 ln_187 h3 rfl ?_
    refine e_L 1 (f' := (61, [(0, .ref 151), (1, .int v1), (2, .int v2), (3, .int v3)], [.int (((37 : Int32) * v2) + (s.1 187 ((44 : Int32) + v3).toNatClampNeg))])) rfl ?_
    refine e_nI fun z4 => ?_
    refine e_L 3 (f' := (41, [(3, .int (v3 + (1 : Int32))), (2, .int z4), (0, .ref 151), (1, .int v1)], [])) rfl ?_
    exact qE_sub (qsubL [2, 3, 1, 0] rfl (ks := [3, 2, 0, 1]) rfl (by decide))
set_option maxRecDepth 100000 in
set_option maxHeartbeats 4000000 in
theorem le_X12_outcomeOf_77 (en : pN) (d : Nat) (v1 : Int32) (v2 : Int32) (s : qS) : qle (gd (p_inB v2 32768 = true) (if (s.1 222 v2.toNatClampNeg) = (0 : Int32) then L_X12_outcomeOf_112 en d v1 v2 s else bI (qev en d 360 [.ref 151, .int ((s.1 222 v2.toNatClampNeg) - (1 : Int32))] s) (fun w3 s4 => if ¬ w3 = (0 : Int32) then L_X12_outcomeOf_112 en d v1 v2 s4 else nm ((v2 + (1 : Int32)) &&& (32767 : Int32)) (fun z7 => L_X12_outcomeOf_77 en d v1 z7 s4)))) (L_X12_outcomeOf_77 en d v1 v2 s) := by
  show qle _ (qE (qev en d) en (some .int) tb_X12_outcomeOf (77, [(0, .ref 151), (1, .int v1), (2, .int v2)], []) s)
  refine e_L 1 (f' := (78, [(0, .ref 151), (1, .int v1), (2, .int v2)], [.ref 151])) rfl ?_
  refine e_gR (q := 222) 12 117 rfl rfl lc_151 lr_151_117 ?_
  refine e_L 1 (f' := (82, [(0, .ref 151), (1, .int v1), (2, .int v2)], [.int v2, .ref 222])) rfl ?_
  refine qle_gd fun h1 => ?_
  refine e_ial (n := 32768) (k := v2.toNatClampNeg) rfl lc_222 ln_222 h1 rfl ?_
  refine e_ifz 112 rfl rfl rfl (fun c2 => ?_) (fun c2 => ?_)
  · exact qE_sub (qsubL [0, 1, 2] rfl (ks := [0, 1, 2]) rfl (by decide))
  · refine e_L 2 (f' := (88, [(0, .ref 151), (1, .int v1), (2, .int v2)], [.ref 151, .ref 151])) rfl ?_
    refine e_gR (q := 222) 12 117 rfl rfl lc_151 lr_151_117 ?_
    refine e_L 1 (f' := (92, [(0, .ref 151), (1, .int v1), (2, .int v2)], [.int v2, .ref 222, .ref 151])) rfl ?_
    refine e_ial (n := 32768) (k := v2.toNatClampNeg) rfl lc_222 ln_222 h1 rfl ?_
    refine e_L 2 (f' := (95, [(0, .ref 151), (1, .int v1), (2, .int v2)], [.int ((s.1 222 v2.toNatClampNeg) - (1 : Int32)), .ref 151])) rfl ?_
    refine e_vI 360 rfl rfl ix_X12_isOutcome rfl (q_recvOf lc_151 rfl) (Nat.le_of_ble_eq_true rfl) (fun w3 s4 e5 => ?_)
    refine e_ifz 112 rfl rfl rfl (fun c6 => ?_) (fun c6 => ?_)
    · exact qE_sub (qsubL [0, 1, 2] rfl (ks := [0, 1, 2]) rfl (by decide))
    · refine e_L 5 (f' := (108, [(0, .ref 151), (1, .int v1), (2, .int v2)], [.int ((v2 + (1 : Int32)) &&& (32767 : Int32))])) rfl ?_
      refine e_nI fun z7 => ?_
      refine e_L 2 (f' := (77, [(2, .int z7), (0, .ref 151), (1, .int v1)], [])) rfl ?_
      exact qE_sub (qsubL [1, 2, 0] rfl (ks := [2, 0, 1]) rfl (by decide))
set_option maxRecDepth 100000 in
set_option maxHeartbeats 4000000 in
theorem le_X12_outcomeOf_112 (en : pN) (d : Nat) (v1 : Int32) (v2 : Int32) (s : qS) : qle (gd (p_inB v2 32768 = true) (if ¬ (s.1 222 v2.toNatClampNeg) = (0 : Int32) then L_X12_outcomeOf_164 en d v2 s else bI (qev en d 359 [.ref 151] s) (fun w3 s4 => gd (p_inB (s.1 151 115) 20001 = true) (nm (uI s4 225 ((s.1 151 115).toNatClampNeg) w3) (fun s7 => gd (p_inB (s7.1 151 115) 20001 = true) (nm (uI s7 221 ((s7.1 151 115).toNatClampNeg) v1) (fun s9 => nm (uI s9 151 115 ((s9.1 151 115) + (1 : Int32))) (fun s10 => nm (uI s10 222 (v2.toNatClampNeg) (s10.1 151 115)) (fun s11 => L_X12_outcomeOf_164 en d v2 s11))))))))) (L_X12_outcomeOf_112 en d v1 v2 s) := by
  show qle _ (qE (qev en d) en (some .int) tb_X12_outcomeOf (112, [(0, .ref 151), (1, .int v1), (2, .int v2)], []) s)
  refine e_L 1 (f' := (113, [(0, .ref 151), (1, .int v1), (2, .int v2)], [.ref 151])) rfl ?_
  refine e_gR (q := 222) 12 117 rfl rfl lc_151 lr_151_117 ?_
  refine e_L 1 (f' := (117, [(0, .ref 151), (1, .int v1), (2, .int v2)], [.int v2, .ref 222])) rfl ?_
  refine qle_gd fun h1 => ?_
  refine e_ial (n := 32768) (k := v2.toNatClampNeg) rfl lc_222 ln_222 h1 rfl ?_
  refine e_ifz 164 rfl rfl rfl (fun c2 => ?_) (fun c2 => ?_)
  · exact qE_sub (qsubL [0, 2] rfl (ks := [0, 1, 2]) rfl (by decide))
  · refine e_L 1 (f' := (122, [(0, .ref 151), (1, .int v1), (2, .int v2)], [.ref 151])) rfl ?_
    refine e_gR (q := 225) 12 122 rfl rfl lc_151 lr_151_122 ?_
    refine e_L 1 (f' := (126, [(0, .ref 151), (1, .int v1), (2, .int v2)], [.ref 151, .ref 225])) rfl ?_
    refine e_gI 12 115 rfl rfl lc_151 ?_
    refine e_L 1 (f' := (130, [(0, .ref 151), (1, .int v1), (2, .int v2)], [.ref 151, .int (s.1 151 115), .ref 225])) rfl ?_
    refine e_vI 359 rfl rfl ix_X12_sortOfEnd rfl (q_recvOf lc_151 rfl) (Nat.le_of_ble_eq_true rfl) (fun w3 s4 e5 => ?_)
    refine qle_gd fun h6 => ?_
    refine e_ias (n := 20001) (k := (s.1 151 115).toNatClampNeg) rfl lc_225 ln_225 h6 rfl ?_
    refine e_nS fun s7 => ?_
    refine e_L 1 (f' := (135, [(0, .ref 151), (1, .int v1), (2, .int v2)], [.ref 151])) rfl ?_
    refine e_gR (q := 221) 12 116 rfl rfl lc_151 lr_151_116 ?_
    refine e_L 1 (f' := (139, [(0, .ref 151), (1, .int v1), (2, .int v2)], [.ref 151, .ref 221])) rfl ?_
    refine e_gI 12 115 rfl rfl lc_151 ?_
    refine e_L 1 (f' := (143, [(0, .ref 151), (1, .int v1), (2, .int v2)], [.int v1, .int (s7.1 151 115), .ref 221])) rfl ?_
    refine qle_gd fun h8 => ?_
    refine e_ias (n := 20001) (k := (s7.1 151 115).toNatClampNeg) rfl lc_221 ln_221 h8 rfl ?_
    refine e_nS fun s9 => ?_
    refine e_L 2 (f' := (146, [(0, .ref 151), (1, .int v1), (2, .int v2)], [.ref 151, .ref 151])) rfl ?_
    refine e_gI 12 115 rfl rfl lc_151 ?_
    refine e_L 2 (f' := (151, [(0, .ref 151), (1, .int v1), (2, .int v2)], [.int ((s9.1 151 115) + (1 : Int32)), .ref 151])) rfl ?_
    refine e_pI 12 115 rfl rfl lc_151 rfl ?_
    refine e_nS fun s10 => ?_
    refine e_L 1 (f' := (155, [(0, .ref 151), (1, .int v1), (2, .int v2)], [.ref 151])) rfl ?_
    refine e_gR (q := 222) 12 117 rfl rfl lc_151 lr_151_117 ?_
    refine e_L 2 (f' := (160, [(0, .ref 151), (1, .int v1), (2, .int v2)], [.ref 151, .int v2, .ref 222])) rfl ?_
    refine e_gI 12 115 rfl rfl lc_151 ?_
    refine e_ias (n := 32768) (k := v2.toNatClampNeg) rfl lc_222 ln_222 h1 rfl ?_
    refine e_nS fun s11 => ?_
    exact qE_sub (qsubL [0, 2] rfl (ks := [0, 1, 2]) rfl (by decide))
set_option maxRecDepth 100000 in
set_option maxHeartbeats 4000000 in
theorem le_X12_outcomeOf_164 (en : pN) (d : Nat) (v2 : Int32) (s : qS) : qle (gd (p_inB v2 32768 = true) (some (some (.int ((s.1 222 v2.toNatClampNeg) - (1 : Int32))), s))) (L_X12_outcomeOf_164 en d v2 s) := by
  show qle _ (qE (qev en d) en (some .int) tb_X12_outcomeOf (164, [(0, .ref 151), (2, .int v2)], []) s)
  refine e_L 1 (f' := (165, [(0, .ref 151), (2, .int v2)], [.ref 151])) rfl ?_
  refine e_gR (q := 222) 12 117 rfl rfl lc_151 lr_151_117 ?_
  refine e_L 1 (f' := (169, [(0, .ref 151), (2, .int v2)], [.int v2, .ref 222])) rfl ?_
  refine qle_gd fun h1 => ?_
  refine e_ial (n := 32768) (k := v2.toNatClampNeg) rfl lc_222 ln_222 h1 rfl ?_
  refine e_L 2 (f' := (172, [(0, .ref 151), (2, .int v2)], [.int ((s.1 222 v2.toNatClampNeg) - (1 : Int32))])) rfl ?_
  exact e_rI rfl rfl
set_option maxRecDepth 100000 in
set_option maxHeartbeats 4000000 in
theorem le_X12_outcomeOf (en : pN) (d : Nat) (a1 : Int32) (s : qS) : qle (L_X12_outcomeOf_5 en d a1 (7 : Int32) (0 : Int32) s) (qev en (d + 1) 361 [.ref 151, .int a1] s) := by
  refine e_enter ix_X12_outcomeOf (Nat.le_of_ble_eq_true rfl) ?_
  show qle _ (qE (qev en d) en (some .int) tb_X12_outcomeOf (0, [(0, .ref 151), (1, .int a1)], []) s)
  refine e_L 4 (f' := (5, [(3, .int (0 : Int32)), (2, .int (7 : Int32)), (0, .ref 151), (1, .int a1)], [])) rfl ?_
  exact qE_sub (qsubL [2, 3, 1, 0] rfl (ks := [3, 2, 0, 1]) rfl (by decide))
set_option maxRecDepth 100000 in
set_option maxHeartbeats 4000000 in
theorem le_X12_isQuiet (en : pN) (d : Nat) (a1 : Int32) (s : qS) : qle (if a1 = (0 : Int32) then some (some (.int (1 : Int32)), s) else if a1 = (17 : Int32) then some (some (.int (1 : Int32)), s) else if a1 = (14 : Int32) then some (some (.int (1 : Int32)), s) else if a1 = (15 : Int32) then some (some (.int (1 : Int32)), s) else if a1 = (16 : Int32) then some (some (.int (1 : Int32)), s) else if ¬ a1 = (13 : Int32) then some (some (.int (0 : Int32)), s) else some (some (.int (1 : Int32)), s)) (qev en (d + 1) 362 [.int a1] s) := by
  refine e_enter ix_X12_isQuiet (Nat.le_of_ble_eq_true rfl) ?_
  show qle _ (qE (qev en d) en (some .boolean) tb_X12_isQuiet (0, [(0, .int a1)], []) s)
  refine e_L 1 (f' := (1, [(0, .int a1)], [.int a1])) rfl ?_
  refine e_ifz 34 rfl rfl rfl (fun c1 => ?_) (fun c1 => ?_)
  · refine e_L 2 (f' := (39, [(0, .int a1)], [.int (1 : Int32)])) rfl ?_
    exact e_rZ rfl rfl (by decide)
  · refine e_L 2 (f' := (7, [(0, .int a1)], [.int (17 : Int32), .int a1])) rfl ?_
    refine e_icmp 34 rfl rfl rfl (fun c2 => ?_) (fun c2 => ?_)
    · refine e_L 2 (f' := (39, [(0, .int a1)], [.int (1 : Int32)])) rfl ?_
      exact e_rZ rfl rfl (by decide)
    · refine e_L 2 (f' := (13, [(0, .int a1)], [.int (14 : Int32), .int a1])) rfl ?_
      refine e_icmp 34 rfl rfl rfl (fun c3 => ?_) (fun c3 => ?_)
      · refine e_L 2 (f' := (39, [(0, .int a1)], [.int (1 : Int32)])) rfl ?_
        exact e_rZ rfl rfl (by decide)
      · refine e_L 2 (f' := (19, [(0, .int a1)], [.int (15 : Int32), .int a1])) rfl ?_
        refine e_icmp 34 rfl rfl rfl (fun c4 => ?_) (fun c4 => ?_)
        · refine e_L 2 (f' := (39, [(0, .int a1)], [.int (1 : Int32)])) rfl ?_
          exact e_rZ rfl rfl (by decide)
        · refine e_L 2 (f' := (25, [(0, .int a1)], [.int (16 : Int32), .int a1])) rfl ?_
          refine e_icmp 34 rfl rfl rfl (fun c5 => ?_) (fun c5 => ?_)
          · refine e_L 2 (f' := (39, [(0, .int a1)], [.int (1 : Int32)])) rfl ?_
            exact e_rZ rfl rfl (by decide)
          · refine e_L 2 (f' := (31, [(0, .int a1)], [.int (13 : Int32), .int a1])) rfl ?_
            refine e_icmp 38 rfl rfl rfl (fun c6 => ?_) (fun c6 => ?_)
            · refine e_L 1 (f' := (39, [(0, .int a1)], [.int (0 : Int32)])) rfl ?_
              exact e_rZ rfl rfl (by decide)
            · refine e_L 2 (f' := (39, [(0, .int a1)], [.int (1 : Int32)])) rfl ?_
              exact e_rZ rfl rfl (by decide)
noncomputable def L_X12_quietThread_2 (en : pN) (d : Nat) (v1 : Int32) (s : qS) : Option qR := qE (qev en d) en (some .int) tb_X12_quietThread (2, [(0, .ref 151), (1, .int v1)], []) s
set_option maxRecDepth 100000 in
set_option maxHeartbeats 4000000 in
theorem le_X12_quietThread_2 (en : pN) (d : Nat) (v1 : Int32) (s : qS) : qle (if (s.1 151 18) ≤ v1 then some (some (.int (-2 : Int32)), s) else gd (p_inB ((0 : Int32) + v1) 216 = true) (if ¬ (s.1 187 ((0 : Int32) + v1).toNatClampNeg) = (1 : Int32) then L_X12_quietThread_2 en d (v1 + (1 : Int32)) s else bI (qev en d 303 [.ref 151, .int v1] s) (fun w4 s5 => gd (p_inB w4 400 = true) (bI (qev en d 362 [.int (s5.1 164 w4.toNatClampNeg)] s5) (fun w8 s9 => if w8 = (0 : Int32) then L_X12_quietThread_2 en d (v1 + (1 : Int32)) s9 else some (some (.int v1), s9)))))) (L_X12_quietThread_2 en d v1 s) := by
  show qle _ (qE (qev en d) en (some .int) tb_X12_quietThread (2, [(0, .ref 151), (1, .int v1)], []) s)
  refine e_L 2 (f' := (4, [(0, .ref 151), (1, .int v1)], [.ref 151, .int v1])) rfl ?_
  refine e_gI 12 18 rfl rfl lc_151 ?_
  refine e_icmp 46 rfl rfl rfl (fun c1 => ?_) (fun c1 => ?_)
  · refine e_L 1 (f' := (48, [(0, .ref 151), (1, .int v1)], [.int (-2 : Int32)])) rfl ?_
    exact e_rI rfl rfl
  · refine e_L 1 (f' := (11, [(0, .ref 151), (1, .int v1)], [.ref 151])) rfl ?_
    refine e_gR (q := 187) 12 57 rfl rfl lc_151 lr_151_57 ?_
    refine e_L 3 (f' := (17, [(0, .ref 151), (1, .int v1)], [.int ((0 : Int32) + v1), .ref 187])) rfl ?_
    refine qle_gd fun h2 => ?_
    refine e_ial (n := 216) (k := ((0 : Int32) + v1).toNatClampNeg) rfl lc_187 ln_187 h2 rfl ?_
    refine e_L 1 (f' := (19, [(0, .ref 151), (1, .int v1)], [.int (1 : Int32), .int (s.1 187 ((0 : Int32) + v1).toNatClampNeg)])) rfl ?_
    refine e_icmp 40 rfl rfl rfl (fun c3 => ?_) (fun c3 => ?_)
    · refine e_L 2 (f' := (2, [(1, .int (v1 + (1 : Int32))), (0, .ref 151)], [])) rfl ?_
      exact qE_sub (qsubL [1, 0] rfl (ks := [1, 0]) rfl (by decide))
    · refine e_L 1 (f' := (23, [(0, .ref 151), (1, .int v1)], [.ref 151])) rfl ?_
      refine e_gR (q := 164) 12 33 rfl rfl lc_151 lr_151_33 ?_
      refine e_L 2 (f' := (28, [(0, .ref 151), (1, .int v1)], [.int v1, .ref 151, .ref 164])) rfl ?_
      refine e_vI 303 rfl rfl ix_X12_lineOf rfl (q_recvOf lc_151 rfl) (Nat.le_of_ble_eq_true rfl) (fun w4 s5 e6 => ?_)
      refine qle_gd fun h7 => ?_
      refine e_ial (n := 400) (k := w4.toNatClampNeg) rfl lc_164 ln_164 h7 rfl ?_
      refine e_sI 362 rfl rfl rfl ix_X12_isQuiet rfl (Nat.le_of_ble_eq_true rfl) (fun w8 s9 e10 => ?_)
      refine e_ifz 40 rfl rfl rfl (fun c11 => ?_) (fun c11 => ?_)
      · refine e_L 2 (f' := (2, [(1, .int (v1 + (1 : Int32))), (0, .ref 151)], [])) rfl ?_
        exact qE_sub (qsubL [1, 0] rfl (ks := [1, 0]) rfl (by decide))
      · refine e_L 1 (f' := (39, [(0, .ref 151), (1, .int v1)], [.int v1])) rfl ?_
        exact e_rI rfl rfl
set_option maxRecDepth 100000 in
set_option maxHeartbeats 4000000 in
theorem le_X12_quietThread (en : pN) (d : Nat) (s : qS) : qle (L_X12_quietThread_2 en d (0 : Int32) s) (qev en (d + 1) 363 [.ref 151] s) := by
  refine e_enter ix_X12_quietThread (Nat.le_of_ble_eq_true rfl) ?_
  show qle _ (qE (qev en d) en (some .int) tb_X12_quietThread (0, [(0, .ref 151)], []) s)
  refine e_L 2 (f' := (2, [(1, .int (0 : Int32)), (0, .ref 151)], [])) rfl ?_
  exact qE_sub (qsubL [1, 0] rfl (ks := [1, 0]) rfl (by decide))
noncomputable def L_X12_findIn_2 (en : pN) (d : Nat) (v1 : Int32) (v2 : Int32) (s : qS) : Option qR := qE (qev en d) en none tb_X12_findIn (2, [(0, .ref 151), (1, .int v1), (2, .int v2)], []) s
noncomputable def L_X12_findIn_73 (en : pN) (d : Nat) (v1 : Int32) (v2 : Int32) (v3 : Int32) (v4 : Int32) (v5 : Int32) (v6 : Int32) (s : qS) : Option qR := qE (qev en d) en none tb_X12_findIn (73, [(0, .ref 151), (1, .int v1), (2, .int v2), (3, .int v3), (4, .int v4), (5, .int v5), (6, .int v6)], []) s
noncomputable def L_X12_findIn_138 (en : pN) (d : Nat) (v1 : Int32) (v2 : Int32) (v3 : Int32) (v4 : Int32) (v5 : Int32) (s : qS) : Option qR := qE (qev en d) en none tb_X12_findIn (138, [(0, .ref 151), (1, .int v1), (2, .int v2), (3, .int v3), (4, .int v4), (5, .int v5)], []) s
noncomputable def L_X12_findIn_213 (en : pN) (d : Nat) (v1 : Int32) (v2 : Int32) (v3 : Int32) (v4 : Int32) (v5 : Int32) (v6 : Int32) (vs0 : Int32) (s : qS) : Option qR := qE (qev en d) en none tb_X12_findIn (213, [(0, .ref 151), (1, .int v1), (2, .int v2), (3, .int v3), (4, .int v4), (5, .int v5), (6, .int v6)], [.int vs0]) s
noncomputable def L_X12_findIn_283 (en : pN) (d : Nat) (v1 : Int32) (v2 : Int32) (v3 : Int32) (v4 : Int32) (v5 : Int32) (vs0 : Int32) (s : qS) : Option qR := qE (qev en d) en none tb_X12_findIn (283, [(0, .ref 151), (1, .int v1), (2, .int v2), (3, .int v3), (4, .int v4), (5, .int v5)], [.int vs0]) s
noncomputable def L_X12_findIn_314 (en : pN) (d : Nat) (v1 : Int32) (v2 : Int32) (v3 : Int32) (v4 : Int32) (v5 : Int32) (vs1 : Int32) (vs2 : Int32) (s : qS) : Option qR := qE (qev en d) en none tb_X12_findIn (314, [(0, .ref 151), (1, .int v1), (2, .int v2), (3, .int v3), (4, .int v4), (5, .int v5)], [.int vs2, .int vs1, .ref 223]) s
set_option maxRecDepth 100000 in
set_option maxHeartbeats 4000000 in
theorem le_X12_findIn_2 (en : pN) (d : Nat) (v1 : Int32) (v2 : Int32) (s : qS) : qle (if (s.1 151 18) ≤ v2 then some (none, s) else gd (p_inB ((0 : Int32) + v2) 216 = true) (if ¬ (s.1 187 ((0 : Int32) + v2).toNatClampNeg) = (1 : Int32) then L_X12_findIn_2 en d v1 (v2 + (1 : Int32)) s else bI (qev en d 312 [.ref 151, .int v2] s) (fun w4 s5 => if ¬ w4 = (0 : Int32) then bI (qev en d 303 [.ref 151, .int v2] s5) (fun w8 s9 => gd (p_inB w8 400 = true) (nm (s9.1 164 w8.toNatClampNeg) (fun z12 => if z12 = (1 : Int32) then L_X12_findIn_73 en d v1 v2 w8 z12 (0 : Int32) (0 : Int32) s9 else if z12 = (2 : Int32) then L_X12_findIn_73 en d v1 v2 w8 z12 (0 : Int32) (0 : Int32) s9 else bI (qev en d 343 [.int z12] s9) (fun w15 s16 => if w15 = (0 : Int32) then L_X12_findIn_138 en d v1 v2 w8 z12 (v2 + (1 : Int32)) s16 else L_X12_findIn_73 en d v1 v2 w8 z12 (0 : Int32) (0 : Int32) s16)))) else L_X12_findIn_2 en d v1 (v2 + (1 : Int32)) s5))) (L_X12_findIn_2 en d v1 v2 s) := by
  show qle _ (qE (qev en d) en none tb_X12_findIn (2, [(0, .ref 151), (1, .int v1), (2, .int v2)], []) s)
  refine e_L 2 (f' := (4, [(0, .ref 151), (1, .int v1), (2, .int v2)], [.ref 151, .int v2])) rfl ?_
  refine e_gI 12 18 rfl rfl lc_151 ?_
  refine e_icmp 327 rfl rfl rfl (fun c1 => ?_) (fun c1 => ?_)
  · exact e_rV rfl rfl
  · refine e_L 1 (f' := (11, [(0, .ref 151), (1, .int v1), (2, .int v2)], [.ref 151])) rfl ?_
    refine e_gR (q := 187) 12 57 rfl rfl lc_151 lr_151_57 ?_
    refine e_L 3 (f' := (17, [(0, .ref 151), (1, .int v1), (2, .int v2)], [.int ((0 : Int32) + v2), .ref 187])) rfl ?_
    refine qle_gd fun h2 => ?_
    refine e_ial (n := 216) (k := ((0 : Int32) + v2).toNatClampNeg) rfl lc_187 ln_187 h2 rfl ?_
    refine e_L 1 (f' := (19, [(0, .ref 151), (1, .int v1), (2, .int v2)], [.int (1 : Int32), .int (s.1 187 ((0 : Int32) + v2).toNatClampNeg)])) rfl ?_
    refine e_icmp 321 rfl rfl rfl (fun c3 => ?_) (fun c3 => ?_)
    · refine e_L 2 (f' := (2, [(2, .int (v2 + (1 : Int32))), (0, .ref 151), (1, .int v1)], [])) rfl ?_
      exact qE_sub (qsubL [1, 2, 0] rfl (ks := [2, 0, 1]) rfl (by decide))
    · refine e_L 2 (f' := (24, [(0, .ref 151), (1, .int v1), (2, .int v2)], [.int v2, .ref 151])) rfl ?_
      refine e_vI 312 rfl rfl ix_X12_choices rfl (q_recvOf lc_151 rfl) (Nat.le_of_ble_eq_true rfl) (fun w4 s5 e6 => ?_)
      refine e_ifz 33 rfl rfl rfl (fun c7 => ?_) (fun c7 => ?_)
      · refine e_L 2 (f' := (35, [(0, .ref 151), (1, .int v1), (2, .int v2)], [.int v2, .ref 151])) rfl ?_
        refine e_vI 303 rfl rfl ix_X12_lineOf rfl (q_recvOf lc_151 rfl) (Nat.le_of_ble_eq_true rfl) (fun w8 s9 e10 => ?_)
        refine e_L 2 (f' := (40, [(3, .int w8), (0, .ref 151), (1, .int v1), (2, .int v2)], [.ref 151])) rfl ?_
        refine e_gR (q := 164) 12 33 rfl rfl lc_151 lr_151_33 ?_
        refine e_L 1 (f' := (44, [(3, .int w8), (0, .ref 151), (1, .int v1), (2, .int v2)], [.int w8, .ref 164])) rfl ?_
        refine qle_gd fun h11 => ?_
        refine e_ial (n := 400) (k := w8.toNatClampNeg) rfl lc_164 ln_164 h11 rfl ?_
        refine e_nI fun z12 => ?_
        refine e_L 3 (f' := (50, [(4, .int z12), (3, .int w8), (0, .ref 151), (1, .int v1), (2, .int v2)], [.int (1 : Int32), .int z12])) rfl ?_
        refine e_icmp 67 rfl rfl rfl (fun c13 => ?_) (fun c13 => ?_)
        · refine e_L 4 (f' := (73, [(6, .int (0 : Int32)), (5, .int (0 : Int32)), (4, .int z12), (3, .int w8), (0, .ref 151), (1, .int v1), (2, .int v2)], [])) rfl ?_
          exact qE_sub (qsubL [4, 5, 6, 3, 2, 1, 0] rfl (ks := [6, 5, 4, 3, 0, 1, 2]) rfl (by decide))
        · refine e_L 2 (f' := (56, [(4, .int z12), (3, .int w8), (0, .ref 151), (1, .int v1), (2, .int v2)], [.int (2 : Int32), .int z12])) rfl ?_
          refine e_icmp 67 rfl rfl rfl (fun c14 => ?_) (fun c14 => ?_)
          · refine e_L 4 (f' := (73, [(6, .int (0 : Int32)), (5, .int (0 : Int32)), (4, .int z12), (3, .int w8), (0, .ref 151), (1, .int v1), (2, .int v2)], [])) rfl ?_
            exact qE_sub (qsubL [4, 5, 6, 3, 2, 1, 0] rfl (ks := [6, 5, 4, 3, 0, 1, 2]) rfl (by decide))
          · refine e_L 1 (f' := (61, [(4, .int z12), (3, .int w8), (0, .ref 151), (1, .int v1), (2, .int v2)], [.int z12])) rfl ?_
            refine e_sI 343 rfl rfl rfl ix_X12_isAtOnce rfl (Nat.le_of_ble_eq_true rfl) (fun w15 s16 e17 => ?_)
            refine e_ifz 133 rfl rfl rfl (fun c18 => ?_) (fun c18 => ?_)
            · refine e_L 4 (f' := (138, [(5, .int (v2 + (1 : Int32))), (4, .int z12), (3, .int w8), (0, .ref 151), (1, .int v1), (2, .int v2)], [])) rfl ?_
              exact qE_sub (qsubL [3, 4, 5, 2, 1, 0] rfl (ks := [5, 4, 3, 0, 1, 2]) rfl (by decide))
            · refine e_L 4 (f' := (73, [(6, .int (0 : Int32)), (5, .int (0 : Int32)), (4, .int z12), (3, .int w8), (0, .ref 151), (1, .int v1), (2, .int v2)], [])) rfl ?_
              exact qE_sub (qsubL [4, 5, 6, 3, 2, 1, 0] rfl (ks := [6, 5, 4, 3, 0, 1, 2]) rfl (by decide))
      · refine e_L 3 (f' := (2, [(2, .int (v2 + (1 : Int32))), (0, .ref 151), (1, .int v1)], [])) rfl ?_
        exact qE_sub (qsubL [1, 2, 0] rfl (ks := [2, 0, 1]) rfl (by decide))
set_option maxRecDepth 100000 in
set_option maxHeartbeats 4000000 in
theorem le_X12_findIn_73 (en : pN) (d : Nat) (v1 : Int32) (v2 : Int32) (v3 : Int32) (v4 : Int32) (v5 : Int32) (v6 : Int32) (s : qS) : qle (if (s.1 151 16) ≤ v6 then gd (p_inB v3 400 = true) (gd (p_inB (s.1 166 v3.toNatClampNeg) 8 = true) (nm (uI s 224 ((s.1 166 v3.toNatClampNeg).toNatClampNeg) ((s.1 224 (s.1 166 v3.toNatClampNeg).toNatClampNeg) &&& v5)) (fun s4 => L_X12_findIn_138 en d v1 v2 v3 v4 (v2 + (1 : Int32)) s4))) else gd (p_inB ((36 : Int32) + v6) 216 = true) (if ¬ (s.1 187 ((36 : Int32) + v6).toNatClampNeg) = (v2 + (1 : Int32)) then L_X12_findIn_73 en d v1 v2 v3 v4 (v5 ||| (0 : Int32)) (v6 + (1 : Int32)) s else nm (v5 ||| ((1 : Int32) <<< (v6 &&& 31))) (fun z7 => L_X12_findIn_73 en d v1 v2 v3 v4 z7 (v6 + (1 : Int32)) s))) (L_X12_findIn_73 en d v1 v2 v3 v4 v5 v6 s) := by
  show qle _ (qE (qev en d) en none tb_X12_findIn (73, [(0, .ref 151), (1, .int v1), (2, .int v2), (3, .int v3), (4, .int v4), (5, .int v5), (6, .int v6)], []) s)
  refine e_L 2 (f' := (76, [(0, .ref 151), (1, .int v1), (2, .int v2), (3, .int v3), (4, .int v4), (5, .int v5), (6, .int v6)], [.ref 151, .int v6])) rfl ?_
  refine e_gI 12 16 rfl rfl lc_151 ?_
  refine e_icmp 117 rfl rfl rfl (fun c1 => ?_) (fun c1 => ?_)
  · refine e_L 1 (f' := (118, [(0, .ref 151), (1, .int v1), (2, .int v2), (3, .int v3), (4, .int v4), (5, .int v5), (6, .int v6)], [.ref 151])) rfl ?_
    refine e_gR (q := 224) 12 119 rfl rfl lc_151 lr_151_119 ?_
    refine e_L 1 (f' := (122, [(0, .ref 151), (1, .int v1), (2, .int v2), (3, .int v3), (4, .int v4), (5, .int v5), (6, .int v6)], [.ref 151, .ref 224])) rfl ?_
    refine e_gR (q := 166) 12 35 rfl rfl lc_151 lr_151_35 ?_
    refine e_L 1 (f' := (126, [(0, .ref 151), (1, .int v1), (2, .int v2), (3, .int v3), (4, .int v4), (5, .int v5), (6, .int v6)], [.int v3, .ref 166, .ref 224])) rfl ?_
    refine qle_gd fun h2 => ?_
    refine e_ial (n := 400) (k := v3.toNatClampNeg) rfl lc_166 ln_166 h2 rfl ?_
    refine e_L 1 (f' := (128, [(0, .ref 151), (1, .int v1), (2, .int v2), (3, .int v3), (4, .int v4), (5, .int v5), (6, .int v6)], [.int (s.1 166 v3.toNatClampNeg), .ref 224, .int (s.1 166 v3.toNatClampNeg), .ref 224])) rfl ?_
    refine qle_gd fun h3 => ?_
    refine e_ial (n := 8) (k := (s.1 166 v3.toNatClampNeg).toNatClampNeg) rfl lc_224 ln_224 h3 rfl ?_
    refine e_L 2 (f' := (132, [(0, .ref 151), (1, .int v1), (2, .int v2), (3, .int v3), (4, .int v4), (5, .int v5), (6, .int v6)], [.int ((s.1 224 (s.1 166 v3.toNatClampNeg).toNatClampNeg) &&& v5), .int (s.1 166 v3.toNatClampNeg), .ref 224])) rfl ?_
    refine e_ias (n := 8) (k := (s.1 166 v3.toNatClampNeg).toNatClampNeg) rfl lc_224 ln_224 h3 rfl ?_
    refine e_nS fun s4 => ?_
    refine e_L 4 (f' := (138, [(5, .int (v2 + (1 : Int32))), (0, .ref 151), (1, .int v1), (2, .int v2), (3, .int v3), (4, .int v4), (6, .int v6)], [])) rfl ?_
    exact qE_sub (qsubL [1, 2, 3, 4, 5, 0] rfl (ks := [5, 0, 1, 2, 3, 4, 6]) rfl (by decide))
  · refine e_L 2 (f' := (85, [(0, .ref 151), (1, .int v1), (2, .int v2), (3, .int v3), (4, .int v4), (5, .int v5), (6, .int v6)], [.ref 151, .int v5])) rfl ?_
    refine e_gR (q := 187) 12 57 rfl rfl lc_151 lr_151_57 ?_
    refine e_L 3 (f' := (93, [(0, .ref 151), (1, .int v1), (2, .int v2), (3, .int v3), (4, .int v4), (5, .int v5), (6, .int v6)], [.int ((36 : Int32) + v6), .ref 187, .int v5])) rfl ?_
    refine qle_gd fun h5 => ?_
    refine e_ial (n := 216) (k := ((36 : Int32) + v6).toNatClampNeg) rfl lc_187 ln_187 h5 rfl ?_
    refine e_L 3 (f' := (97, [(0, .ref 151), (1, .int v1), (2, .int v2), (3, .int v3), (4, .int v4), (5, .int v5), (6, .int v6)], [.int (v2 + (1 : Int32)), .int (s.1 187 ((36 : Int32) + v6).toNatClampNeg), .int v5])) rfl ?_
    refine e_icmp 107 rfl rfl rfl (fun c6 => ?_) (fun c6 => ?_)
    · refine e_L 5 (f' := (73, [(6, .int (v6 + (1 : Int32))), (5, .int (v5 ||| (0 : Int32))), (0, .ref 151), (1, .int v1), (2, .int v2), (3, .int v3), (4, .int v4)], [])) rfl ?_
      exact qE_sub (qsubL [2, 3, 4, 5, 6, 1, 0] rfl (ks := [6, 5, 0, 1, 2, 3, 4]) rfl (by decide))
    · refine e_L 5 (f' := (109, [(0, .ref 151), (1, .int v1), (2, .int v2), (3, .int v3), (4, .int v4), (5, .int v5), (6, .int v6)], [.int (v5 ||| ((1 : Int32) <<< (v6 &&& 31)))])) rfl ?_
      refine e_nI fun z7 => ?_
      refine e_L 3 (f' := (73, [(6, .int (v6 + (1 : Int32))), (5, .int z7), (0, .ref 151), (1, .int v1), (2, .int v2), (3, .int v3), (4, .int v4)], [])) rfl ?_
      exact qE_sub (qsubL [2, 3, 4, 5, 6, 1, 0] rfl (ks := [6, 5, 0, 1, 2, 3, 4]) rfl (by decide))
set_option maxRecDepth 100000 in
set_option maxHeartbeats 4000000 in
theorem le_X12_findIn_138 (en : pN) (d : Nat) (v1 : Int32) (v2 : Int32) (v3 : Int32) (v4 : Int32) (v5 : Int32) (s : qS) : qle (if (s.1 151 18) ≤ v5 then L_X12_findIn_2 en d v1 (v2 + (1 : Int32)) s else gd (p_inB ((0 : Int32) + v5) 216 = true) (if ¬ (s.1 187 ((0 : Int32) + v5).toNatClampNeg) = (1 : Int32) then L_X12_findIn_138 en d v1 v2 v3 v4 (v5 + (1 : Int32)) s else bI (qev en d 312 [.ref 151, .int v5] s) (fun w4 s5 => if w4 ≤ (0 : Int32) then L_X12_findIn_138 en d v1 v2 v3 v4 (v5 + (1 : Int32)) s5 else bI (qev en d 303 [.ref 151, .int v5] s5) (fun w8 s9 => gd (p_inB w8 400 = true) (bI (qev en d 347 [.int v4, .int (s9.1 164 w8.toNatClampNeg)] s9) (fun w12 s13 => if w12 = (0 : Int32) then L_X12_findIn_213 en d v1 v2 v3 v4 v5 w8 (0 : Int32) s13 else gd (p_inB v3 400 = true) (if ¬ (s13.1 166 v3.toNatClampNeg) = (s13.1 166 w8.toNatClampNeg) then L_X12_findIn_213 en d v1 v2 v3 v4 v5 w8 (0 : Int32) s13 else L_X12_findIn_213 en d v1 v2 v3 v4 v5 w8 (1 : Int32) s13))))))) (L_X12_findIn_138 en d v1 v2 v3 v4 v5 s) := by
  show qle _ (qE (qev en d) en none tb_X12_findIn (138, [(0, .ref 151), (1, .int v1), (2, .int v2), (3, .int v3), (4, .int v4), (5, .int v5)], []) s)
  refine e_L 2 (f' := (141, [(0, .ref 151), (1, .int v1), (2, .int v2), (3, .int v3), (4, .int v4), (5, .int v5)], [.ref 151, .int v5])) rfl ?_
  refine e_gI 12 18 rfl rfl lc_151 ?_
  refine e_icmp 321 rfl rfl rfl (fun c1 => ?_) (fun c1 => ?_)
  · refine e_L 2 (f' := (2, [(2, .int (v2 + (1 : Int32))), (0, .ref 151), (1, .int v1), (3, .int v3), (4, .int v4), (5, .int v5)], [])) rfl ?_
    exact qE_sub (qsubL [1, 2, 0] rfl (ks := [2, 0, 1, 3, 4, 5]) rfl (by decide))
  · refine e_L 1 (f' := (148, [(0, .ref 151), (1, .int v1), (2, .int v2), (3, .int v3), (4, .int v4), (5, .int v5)], [.ref 151])) rfl ?_
    refine e_gR (q := 187) 12 57 rfl rfl lc_151 lr_151_57 ?_
    refine e_L 3 (f' := (155, [(0, .ref 151), (1, .int v1), (2, .int v2), (3, .int v3), (4, .int v4), (5, .int v5)], [.int ((0 : Int32) + v5), .ref 187])) rfl ?_
    refine qle_gd fun h2 => ?_
    refine e_ial (n := 216) (k := ((0 : Int32) + v5).toNatClampNeg) rfl lc_187 ln_187 h2 rfl ?_
    refine e_L 1 (f' := (157, [(0, .ref 151), (1, .int v1), (2, .int v2), (3, .int v3), (4, .int v4), (5, .int v5)], [.int (1 : Int32), .int (s.1 187 ((0 : Int32) + v5).toNatClampNeg)])) rfl ?_
    refine e_icmp 315 rfl rfl rfl (fun c3 => ?_) (fun c3 => ?_)
    · refine e_L 2 (f' := (138, [(5, .int (v5 + (1 : Int32))), (0, .ref 151), (1, .int v1), (2, .int v2), (3, .int v3), (4, .int v4)], [])) rfl ?_
      exact qE_sub (qsubL [1, 2, 3, 4, 5, 0] rfl (ks := [5, 0, 1, 2, 3, 4]) rfl (by decide))
    · refine e_L 2 (f' := (163, [(0, .ref 151), (1, .int v1), (2, .int v2), (3, .int v3), (4, .int v4), (5, .int v5)], [.int v5, .ref 151])) rfl ?_
      refine e_vI 312 rfl rfl ix_X12_choices rfl (q_recvOf lc_151 rfl) (Nat.le_of_ble_eq_true rfl) (fun w4 s5 e6 => ?_)
      refine e_ifz 315 rfl rfl rfl (fun c7 => ?_) (fun c7 => ?_)
      · refine e_L 2 (f' := (138, [(5, .int (v5 + (1 : Int32))), (0, .ref 151), (1, .int v1), (2, .int v2), (3, .int v3), (4, .int v4)], [])) rfl ?_
        exact qE_sub (qsubL [1, 2, 3, 4, 5, 0] rfl (ks := [5, 0, 1, 2, 3, 4]) rfl (by decide))
      · refine e_L 2 (f' := (172, [(0, .ref 151), (1, .int v1), (2, .int v2), (3, .int v3), (4, .int v4), (5, .int v5)], [.int v5, .ref 151])) rfl ?_
        refine e_vI 303 rfl rfl ix_X12_lineOf rfl (q_recvOf lc_151 rfl) (Nat.le_of_ble_eq_true rfl) (fun w8 s9 e10 => ?_)
        refine e_L 3 (f' := (180, [(6, .int w8), (0, .ref 151), (1, .int v1), (2, .int v2), (3, .int v3), (4, .int v4), (5, .int v5)], [.ref 151, .int v4])) rfl ?_
        refine e_gR (q := 164) 12 33 rfl rfl lc_151 lr_151_33 ?_
        refine e_L 1 (f' := (185, [(6, .int w8), (0, .ref 151), (1, .int v1), (2, .int v2), (3, .int v3), (4, .int v4), (5, .int v5)], [.int w8, .ref 164, .int v4])) rfl ?_
        refine qle_gd fun h11 => ?_
        refine e_ial (n := 400) (k := w8.toNatClampNeg) rfl lc_164 ln_164 h11 rfl ?_
        refine e_sI 347 rfl rfl rfl ix_X12_areRacing rfl (Nat.le_of_ble_eq_true rfl) (fun w12 s13 e14 => ?_)
        refine e_ifz 212 rfl rfl rfl (fun c15 => ?_) (fun c15 => ?_)
        · refine e_L 1 (f' := (213, [(6, .int w8), (0, .ref 151), (1, .int v1), (2, .int v2), (3, .int v3), (4, .int v4), (5, .int v5)], [.int (0 : Int32)])) rfl ?_
          exact qE_sub (qsubL [1, 2, 3, 4, 5, 6, 0] rfl (ks := [6, 0, 1, 2, 3, 4, 5]) rfl (by decide))
        · refine e_L 1 (f' := (193, [(6, .int w8), (0, .ref 151), (1, .int v1), (2, .int v2), (3, .int v3), (4, .int v4), (5, .int v5)], [.ref 151])) rfl ?_
          refine e_gR (q := 166) 12 35 rfl rfl lc_151 lr_151_35 ?_
          refine e_L 1 (f' := (197, [(6, .int w8), (0, .ref 151), (1, .int v1), (2, .int v2), (3, .int v3), (4, .int v4), (5, .int v5)], [.int v3, .ref 166])) rfl ?_
          refine qle_gd fun h16 => ?_
          refine e_ial (n := 400) (k := v3.toNatClampNeg) rfl lc_166 ln_166 h16 rfl ?_
          refine e_L 1 (f' := (199, [(6, .int w8), (0, .ref 151), (1, .int v1), (2, .int v2), (3, .int v3), (4, .int v4), (5, .int v5)], [.ref 151, .int (s13.1 166 v3.toNatClampNeg)])) rfl ?_
          refine e_gR (q := 166) 12 35 rfl rfl lc_151 lr_151_35 ?_
          refine e_L 1 (f' := (204, [(6, .int w8), (0, .ref 151), (1, .int v1), (2, .int v2), (3, .int v3), (4, .int v4), (5, .int v5)], [.int w8, .ref 166, .int (s13.1 166 v3.toNatClampNeg)])) rfl ?_
          refine e_ial (n := 400) (k := w8.toNatClampNeg) rfl lc_166 ln_166 h11 rfl ?_
          refine e_icmp 212 rfl rfl rfl (fun c17 => ?_) (fun c17 => ?_)
          · refine e_L 1 (f' := (213, [(6, .int w8), (0, .ref 151), (1, .int v1), (2, .int v2), (3, .int v3), (4, .int v4), (5, .int v5)], [.int (0 : Int32)])) rfl ?_
            exact qE_sub (qsubL [1, 2, 3, 4, 5, 6, 0] rfl (ks := [6, 0, 1, 2, 3, 4, 5]) rfl (by decide))
          · refine e_L 2 (f' := (213, [(6, .int w8), (0, .ref 151), (1, .int v1), (2, .int v2), (3, .int v3), (4, .int v4), (5, .int v5)], [.int (1 : Int32)])) rfl ?_
            exact qE_sub (qsubL [1, 2, 3, 4, 5, 6, 0] rfl (ks := [6, 0, 1, 2, 3, 4, 5]) rfl (by decide))
set_option maxRecDepth 100000 in
set_option maxHeartbeats 4000000 in
theorem le_X12_findIn_213 (en : pN) (d : Nat) (v1 : Int32) (v2 : Int32) (v3 : Int32) (v4 : Int32) (v5 : Int32) (v6 : Int32) (vs0 : Int32) (s : qS) : qle (if vs0 = (0 : Int32) then L_X12_findIn_138 en d v1 v2 v3 v4 (v5 + (1 : Int32)) s else gd (p_inB v3 400 = true) (gd (p_inB (s.1 166 v3.toNatClampNeg) 8 = true) (if ¬ (s.1 155 (s.1 166 v3.toNatClampNeg).toNatClampNeg) = (0 : Int32) then L_X12_findIn_138 en d v1 v2 v3 v4 (v5 + (1 : Int32)) s else nm (v3 - ((100 : Int32) * (s.1 151 59))) (fun z5 => nm (v6 - ((100 : Int32) * (s.1 151 59))) (fun z6 => if z6 ≤ z5 then L_X12_findIn_283 en d v1 v2 v3 v4 v5 (((100 : Int32) * z6) + z5) s else L_X12_findIn_283 en d v1 v2 v3 v4 v5 (((100 : Int32) * z5) + z6) s))))) (L_X12_findIn_213 en d v1 v2 v3 v4 v5 v6 vs0 s) := by
  show qle _ (qE (qev en d) en none tb_X12_findIn (213, [(0, .ref 151), (1, .int v1), (2, .int v2), (3, .int v3), (4, .int v4), (5, .int v5), (6, .int v6)], [.int vs0]) s)
  refine e_L 2 (f' := (217, [(7, .int vs0), (0, .ref 151), (1, .int v1), (2, .int v2), (3, .int v3), (4, .int v4), (5, .int v5), (6, .int v6)], [.int vs0])) rfl ?_
  refine e_ifz 315 rfl rfl rfl (fun c1 => ?_) (fun c1 => ?_)
  · refine e_L 2 (f' := (138, [(5, .int (v5 + (1 : Int32))), (7, .int vs0), (0, .ref 151), (1, .int v1), (2, .int v2), (3, .int v3), (4, .int v4), (6, .int v6)], [])) rfl ?_
    exact qE_sub (qsubL [2, 3, 4, 5, 6, 0] rfl (ks := [5, 7, 0, 1, 2, 3, 4, 6]) rfl (by decide))
  · refine e_L 1 (f' := (221, [(7, .int vs0), (0, .ref 151), (1, .int v1), (2, .int v2), (3, .int v3), (4, .int v4), (5, .int v5), (6, .int v6)], [.ref 151])) rfl ?_
    refine e_gR (q := 155) 12 15 rfl rfl lc_151 lr_151_15 ?_
    refine e_L 1 (f' := (225, [(7, .int vs0), (0, .ref 151), (1, .int v1), (2, .int v2), (3, .int v3), (4, .int v4), (5, .int v5), (6, .int v6)], [.ref 151, .ref 155])) rfl ?_
    refine e_gR (q := 166) 12 35 rfl rfl lc_151 lr_151_35 ?_
    refine e_L 1 (f' := (229, [(7, .int vs0), (0, .ref 151), (1, .int v1), (2, .int v2), (3, .int v3), (4, .int v4), (5, .int v5), (6, .int v6)], [.int v3, .ref 166, .ref 155])) rfl ?_
    refine qle_gd fun h2 => ?_
    refine e_ial (n := 400) (k := v3.toNatClampNeg) rfl lc_166 ln_166 h2 rfl ?_
    refine qle_gd fun h3 => ?_
    refine e_bal (n := 8) (k := (s.1 166 v3.toNatClampNeg).toNatClampNeg) rfl (Or.inl lc_155) ln_155 h3 rfl ?_
    refine e_ifz 315 rfl rfl rfl (fun c4 => ?_) (fun c4 => ?_)
    · refine e_L 2 (f' := (138, [(5, .int (v5 + (1 : Int32))), (7, .int vs0), (0, .ref 151), (1, .int v1), (2, .int v2), (3, .int v3), (4, .int v4), (6, .int v6)], [])) rfl ?_
      exact qE_sub (qsubL [2, 3, 4, 5, 6, 0] rfl (ks := [5, 7, 0, 1, 2, 3, 4, 6]) rfl (by decide))
    · refine e_L 3 (f' := (238, [(7, .int vs0), (0, .ref 151), (1, .int v1), (2, .int v2), (3, .int v3), (4, .int v4), (5, .int v5), (6, .int v6)], [.ref 151, .int (100 : Int32), .int v3])) rfl ?_
      refine e_gI 12 59 rfl rfl lc_151 ?_
      refine e_L 2 (f' := (243, [(7, .int vs0), (0, .ref 151), (1, .int v1), (2, .int v2), (3, .int v3), (4, .int v4), (5, .int v5), (6, .int v6)], [.int (v3 - ((100 : Int32) * (s.1 151 59)))])) rfl ?_
      refine e_nI fun z5 => ?_
      refine e_L 4 (f' := (250, [(8, .int z5), (7, .int vs0), (0, .ref 151), (1, .int v1), (2, .int v2), (3, .int v3), (4, .int v4), (5, .int v5), (6, .int v6)], [.ref 151, .int (100 : Int32), .int v6])) rfl ?_
      refine e_gI 12 59 rfl rfl lc_151 ?_
      refine e_L 2 (f' := (255, [(8, .int z5), (7, .int vs0), (0, .ref 151), (1, .int v1), (2, .int v2), (3, .int v3), (4, .int v4), (5, .int v5), (6, .int v6)], [.int (v6 - ((100 : Int32) * (s.1 151 59)))])) rfl ?_
      refine e_nI fun z6 => ?_
      refine e_L 3 (f' := (261, [(9, .int z6), (8, .int z5), (7, .int vs0), (0, .ref 151), (1, .int v1), (2, .int v2), (3, .int v3), (4, .int v4), (5, .int v5), (6, .int v6)], [.int z6, .int z5])) rfl ?_
      refine e_icmp 275 rfl rfl rfl (fun c7 => ?_) (fun c7 => ?_)
      · refine e_L 5 (f' := (283, [(9, .int z6), (8, .int z5), (7, .int vs0), (0, .ref 151), (1, .int v1), (2, .int v2), (3, .int v3), (4, .int v4), (5, .int v5), (6, .int v6)], [.int (((100 : Int32) * z6) + z5)])) rfl ?_
        exact qE_sub (qsubL [3, 4, 5, 6, 7, 8] rfl (ks := [9, 8, 7, 0, 1, 2, 3, 4, 5, 6]) rfl (by decide))
      · refine e_L 6 (f' := (283, [(9, .int z6), (8, .int z5), (7, .int vs0), (0, .ref 151), (1, .int v1), (2, .int v2), (3, .int v3), (4, .int v4), (5, .int v5), (6, .int v6)], [.int (((100 : Int32) * z5) + z6)])) rfl ?_
        exact qE_sub (qsubL [3, 4, 5, 6, 7, 8] rfl (ks := [9, 8, 7, 0, 1, 2, 3, 4, 5, 6]) rfl (by decide))
set_option maxRecDepth 100000 in
set_option maxHeartbeats 4000000 in
theorem le_X12_findIn_283 (en : pN) (d : Nat) (v1 : Int32) (v2 : Int32) (v3 : Int32) (v4 : Int32) (v5 : Int32) (vs0 : Int32) (s : qS) : qle (gd (p_inB vs0 10000 = true) (if ¬ (s.1 223 vs0.toNatClampNeg) = (-2 : Int32) then L_X12_findIn_314 en d v1 v2 v3 v4 v5 vs0 (s.1 223 vs0.toNatClampNeg) s else L_X12_findIn_314 en d v1 v2 v3 v4 v5 vs0 v1 s)) (L_X12_findIn_283 en d v1 v2 v3 v4 v5 vs0 s) := by
  show qle _ (qE (qev en d) en none tb_X12_findIn (283, [(0, .ref 151), (1, .int v1), (2, .int v2), (3, .int v3), (4, .int v4), (5, .int v5)], [.int vs0]) s)
  refine e_L 2 (f' := (286, [(10, .int vs0), (0, .ref 151), (1, .int v1), (2, .int v2), (3, .int v3), (4, .int v4), (5, .int v5)], [.ref 151])) rfl ?_
  refine e_gR (q := 223) 12 118 rfl rfl lc_151 lr_151_118 ?_
  refine e_L 2 (f' := (292, [(10, .int vs0), (0, .ref 151), (1, .int v1), (2, .int v2), (3, .int v3), (4, .int v4), (5, .int v5)], [.ref 151, .int vs0, .ref 223])) rfl ?_
  refine e_gR (q := 223) 12 118 rfl rfl lc_151 lr_151_118 ?_
  refine e_L 1 (f' := (297, [(10, .int vs0), (0, .ref 151), (1, .int v1), (2, .int v2), (3, .int v3), (4, .int v4), (5, .int v5)], [.int vs0, .ref 223, .int vs0, .ref 223])) rfl ?_
  refine qle_gd fun h1 => ?_
  refine e_ial (n := 10000) (k := vs0.toNatClampNeg) rfl lc_223 ln_223 h1 rfl ?_
  refine e_L 1 (f' := (300, [(10, .int vs0), (0, .ref 151), (1, .int v1), (2, .int v2), (3, .int v3), (4, .int v4), (5, .int v5)], [.int (-2 : Int32), .int (s.1 223 vs0.toNatClampNeg), .int vs0, .ref 223])) rfl ?_
  refine e_icmp 307 rfl rfl rfl (fun c2 => ?_) (fun c2 => ?_)
  · refine e_L 1 (f' := (308, [(10, .int vs0), (0, .ref 151), (1, .int v1), (2, .int v2), (3, .int v3), (4, .int v4), (5, .int v5)], [.ref 151, .int vs0, .ref 223])) rfl ?_
    refine e_gR (q := 223) 12 118 rfl rfl lc_151 lr_151_118 ?_
    refine e_L 1 (f' := (313, [(10, .int vs0), (0, .ref 151), (1, .int v1), (2, .int v2), (3, .int v3), (4, .int v4), (5, .int v5)], [.int vs0, .ref 223, .int vs0, .ref 223])) rfl ?_
    refine e_ial (n := 10000) (k := vs0.toNatClampNeg) rfl lc_223 ln_223 h1 rfl ?_
    exact qE_sub (qsubL [1, 2, 3, 4, 5, 6] rfl (ks := [10, 0, 1, 2, 3, 4, 5]) rfl (by decide))
  · refine e_L 2 (f' := (314, [(10, .int vs0), (0, .ref 151), (1, .int v1), (2, .int v2), (3, .int v3), (4, .int v4), (5, .int v5)], [.int v1, .int vs0, .ref 223])) rfl ?_
    exact qE_sub (qsubL [1, 2, 3, 4, 5, 6] rfl (ks := [10, 0, 1, 2, 3, 4, 5]) rfl (by decide))
set_option maxRecDepth 100000 in
set_option maxHeartbeats 4000000 in
theorem le_X12_findIn_314 (en : pN) (d : Nat) (v1 : Int32) (v2 : Int32) (v3 : Int32) (v4 : Int32) (v5 : Int32) (vs1 : Int32) (vs2 : Int32) (s : qS) : qle (gd (p_inB vs1 10000 = true) (nm (uI s 223 (vs1.toNatClampNeg) vs2) (fun s2 => L_X12_findIn_138 en d v1 v2 v3 v4 (v5 + (1 : Int32)) s2))) (L_X12_findIn_314 en d v1 v2 v3 v4 v5 vs1 vs2 s) := by
  show qle _ (qE (qev en d) en none tb_X12_findIn (314, [(0, .ref 151), (1, .int v1), (2, .int v2), (3, .int v3), (4, .int v4), (5, .int v5)], [.int vs2, .int vs1, .ref 223]) s)
  refine qle_gd fun h1 => ?_
  refine e_ias (n := 10000) (k := vs1.toNatClampNeg) rfl lc_223 ln_223 h1 rfl ?_
  refine e_nS fun s2 => ?_
  refine e_L 2 (f' := (138, [(5, .int (v5 + (1 : Int32))), (0, .ref 151), (1, .int v1), (2, .int v2), (3, .int v3), (4, .int v4)], [])) rfl ?_
  exact qE_sub (qsubL [1, 2, 3, 4, 5, 0] rfl (ks := [5, 0, 1, 2, 3, 4]) rfl (by decide))
set_option maxRecDepth 100000 in
set_option maxHeartbeats 4000000 in
theorem le_X12_findIn (en : pN) (d : Nat) (a1 : Int32) (s : qS) : qle (L_X12_findIn_2 en d a1 (0 : Int32) s) (qev en (d + 1) 364 [.ref 151, .int a1] s) := by
  refine e_enter ix_X12_findIn (Nat.le_of_ble_eq_true rfl) ?_
  show qle _ (qE (qev en d) en none tb_X12_findIn (0, [(0, .ref 151), (1, .int a1)], []) s)
  refine e_L 2 (f' := (2, [(2, .int (0 : Int32)), (0, .ref 151), (1, .int a1)], [])) rfl ?_
  exact qE_sub (qsubL [1, 2, 0] rfl (ks := [2, 0, 1]) rfl (by decide))
noncomputable def L_X12_tryAll_12 (en : pN) (d : Nat) (v1 : Int32) (v2 : Int32) (v3 : Int32) (s : qS) : Option qR := qE (qev en d) en (some .int) tb_X12_tryAll (12, [(0, .ref 151), (1, .int v1), (2, .int v2), (3, .int v3)], []) s
noncomputable def L_X12_tryAll_33 (en : pN) (d : Nat) (v1 : Int32) (v2 : Int32) (v3 : Int32) (s : qS) : Option qR := qE (qev en d) en (some .int) tb_X12_tryAll (33, [(0, .ref 151), (1, .int v1), (2, .int v2), (3, .int v3)], []) s
noncomputable def L_X12_tryAll_54 (en : pN) (d : Nat) (v1 : Int32) (v2 : Int32) (v3 : Int32) (s : qS) : Option qR := qE (qev en d) en (some .int) tb_X12_tryAll (54, [(0, .ref 151), (1, .int v1), (2, .int v2), (3, .int v3)], []) s
noncomputable def L_X12_tryAll_77 (en : pN) (d : Nat) (v1 : Int32) (v2 : Int32) (v3 : Int32) (s : qS) : Option qR := qE (qev en d) en (some .int) tb_X12_tryAll (77, [(0, .ref 151), (1, .int v1), (2, .int v2), (3, .int v3)], []) s
noncomputable def L_X12_tryAll_147 (en : pN) (d : Nat) (v1 : Int32) (v2 : Int32) (v4 : Int32) (s : qS) : Option qR := qE (qev en d) en (some .int) tb_X12_tryAll (147, [(0, .ref 151), (1, .int v1), (2, .int v2), (4, .int v4)], []) s
noncomputable def L_X12_tryAll_232 (en : pN) (d : Nat) (v1 : Int32) (v2 : Int32) (v4 : Int32) (s : qS) : Option qR := qE (qev en d) en (some .int) tb_X12_tryAll (232, [(0, .ref 151), (1, .int v1), (2, .int v2), (4, .int v4)], []) s
noncomputable def L_X12_tryAll_255 (en : pN) (d : Nat) (v1 : Int32) (v2 : Int32) (v4 : Int32) (vs0 : Int32) (s : qS) : Option qR := qE (qev en d) en (some .int) tb_X12_tryAll (255, [(0, .ref 151), (1, .int v1), (2, .int v2), (4, .int v4)], [.int vs0]) s
noncomputable def L_X12_tryAll_266 (en : pN) (d : Nat) (v1 : Int32) (v2 : Int32) (v4 : Int32) (v5 : Int32) (v6 : Int32) (v7 : Int32) (s : qS) : Option qR := qE (qev en d) en (some .int) tb_X12_tryAll (266, [(0, .ref 151), (1, .int v1), (2, .int v2), (4, .int v4), (5, .int v5), (6, .int v6), (7, .int v7)], []) s
noncomputable def L_X12_tryAll_296 (en : pN) (d : Nat) (v1 : Int32) (v2 : Int32) (v4 : Int32) (v5 : Int32) (v6 : Int32) (v7 : Int32) (s : qS) : Option qR := qE (qev en d) en (some .int) tb_X12_tryAll (296, [(0, .ref 151), (1, .int v1), (2, .int v2), (4, .int v4), (5, .int v5), (6, .int v6), (7, .int v7)], []) s
noncomputable def L_X12_tryAll_328 (en : pN) (d : Nat) (v1 : Int32) (v2 : Int32) (v4 : Int32) (v5 : Int32) (v6 : Int32) (v7 : Int32) (s : qS) : Option qR := qE (qev en d) en (some .int) tb_X12_tryAll (328, [(0, .ref 151), (1, .int v1), (2, .int v2), (4, .int v4), (5, .int v5), (6, .int v6), (7, .int v7)], []) s
noncomputable def L_X12_tryAll_417 (en : pN) (d : Nat) (v1 : Int32) (v2 : Int32) (v4 : Int32) (v5 : Int32) (v6 : Int32) (v7 : Int32) (vs1 : Int32) (vs2 : Int32) (vs3 : Int32) (s : qS) : Option qR := qE (qev en d) en (some .int) tb_X12_tryAll (417, [(0, .ref 151), (1, .int v1), (2, .int v2), (4, .int v4), (5, .int v5), (6, .int v6), (7, .int v7)], [.int vs3, .int vs2, .int vs1, .ref 151]) s
set_option maxRecDepth 100000 in
set_option maxHeartbeats 4000000 in
theorem le_X12_tryAll_12 (en : pN) (d : Nat) (v1 : Int32) (v2 : Int32) (v3 : Int32) (s : qS) : qle (if (65536 : Int32) ≤ v3 then L_X12_tryAll_33 en d v1 v2 (0 : Int32) s else gd (p_inB v3 65536 = true) (nm (uI s 211 (v3.toNatClampNeg) (0 : Int32)) (fun s3 => L_X12_tryAll_12 en d v1 v2 (v3 + (1 : Int32)) s3))) (L_X12_tryAll_12 en d v1 v2 v3 s) := by
  show qle _ (qE (qev en d) en (some .int) tb_X12_tryAll (12, [(0, .ref 151), (1, .int v1), (2, .int v2), (3, .int v3)], []) s)
  refine e_L 1 (f' := (13, [(0, .ref 151), (1, .int v1), (2, .int v2), (3, .int v3)], [.int v3])) rfl ?_
  refine e_ldcI (v := (65536 : Int32)) rfl rfl (by decide +kernel) ?_
  refine e_icmp 31 rfl rfl rfl (fun c1 => ?_) (fun c1 => ?_)
  · refine e_L 2 (f' := (33, [(3, .int (0 : Int32)), (0, .ref 151), (1, .int v1), (2, .int v2)], [])) rfl ?_
    exact qE_sub (qsubL [1, 2, 3, 0] rfl (ks := [3, 0, 1, 2]) rfl (by decide))
  · refine e_L 1 (f' := (19, [(0, .ref 151), (1, .int v1), (2, .int v2), (3, .int v3)], [.ref 151])) rfl ?_
    refine e_gR (q := 211) 12 105 rfl rfl lc_151 lr_151_105 ?_
    refine e_L 2 (f' := (24, [(0, .ref 151), (1, .int v1), (2, .int v2), (3, .int v3)], [.int (0 : Int32), .int v3, .ref 211])) rfl ?_
    refine qle_gd fun h2 => ?_
    refine e_ias (n := 65536) (k := v3.toNatClampNeg) rfl lc_211 ln_211 h2 rfl ?_
    refine e_nS fun s3 => ?_
    refine e_L 2 (f' := (12, [(3, .int (v3 + (1 : Int32))), (0, .ref 151), (1, .int v1), (2, .int v2)], [])) rfl ?_
    exact qE_sub (qsubL [1, 2, 3, 0] rfl (ks := [3, 0, 1, 2]) rfl (by decide))
set_option maxRecDepth 100000 in
set_option maxHeartbeats 4000000 in
theorem le_X12_tryAll_33 (en : pN) (d : Nat) (v1 : Int32) (v2 : Int32) (v3 : Int32) (s : qS) : qle (if (32768 : Int32) ≤ v3 then L_X12_tryAll_54 en d v1 v2 (0 : Int32) s else gd (p_inB v3 32768 = true) (nm (uI s 222 (v3.toNatClampNeg) (0 : Int32)) (fun s3 => L_X12_tryAll_33 en d v1 v2 (v3 + (1 : Int32)) s3))) (L_X12_tryAll_33 en d v1 v2 v3 s) := by
  show qle _ (qE (qev en d) en (some .int) tb_X12_tryAll (33, [(0, .ref 151), (1, .int v1), (2, .int v2), (3, .int v3)], []) s)
  refine e_L 1 (f' := (34, [(0, .ref 151), (1, .int v1), (2, .int v2), (3, .int v3)], [.int v3])) rfl ?_
  refine e_ldcI (v := (32768 : Int32)) rfl rfl (by decide +kernel) ?_
  refine e_icmp 52 rfl rfl rfl (fun c1 => ?_) (fun c1 => ?_)
  · refine e_L 2 (f' := (54, [(3, .int (0 : Int32)), (0, .ref 151), (1, .int v1), (2, .int v2)], [])) rfl ?_
    exact qE_sub (qsubL [1, 2, 3, 0] rfl (ks := [3, 0, 1, 2]) rfl (by decide))
  · refine e_L 1 (f' := (40, [(0, .ref 151), (1, .int v1), (2, .int v2), (3, .int v3)], [.ref 151])) rfl ?_
    refine e_gR (q := 222) 12 117 rfl rfl lc_151 lr_151_117 ?_
    refine e_L 2 (f' := (45, [(0, .ref 151), (1, .int v1), (2, .int v2), (3, .int v3)], [.int (0 : Int32), .int v3, .ref 222])) rfl ?_
    refine qle_gd fun h2 => ?_
    refine e_ias (n := 32768) (k := v3.toNatClampNeg) rfl lc_222 ln_222 h2 rfl ?_
    refine e_nS fun s3 => ?_
    refine e_L 2 (f' := (33, [(3, .int (v3 + (1 : Int32))), (0, .ref 151), (1, .int v1), (2, .int v2)], [])) rfl ?_
    exact qE_sub (qsubL [1, 2, 3, 0] rfl (ks := [3, 0, 1, 2]) rfl (by decide))
set_option maxRecDepth 100000 in
set_option maxHeartbeats 4000000 in
theorem le_X12_tryAll_54 (en : pN) (d : Nat) (v1 : Int32) (v2 : Int32) (v3 : Int32) (s : qS) : qle (if (10000 : Int32) ≤ v3 then L_X12_tryAll_77 en d v1 v2 (0 : Int32) s else gd (p_inB v3 10000 = true) (nm (uI s 223 (v3.toNatClampNeg) (-2 : Int32)) (fun s3 => L_X12_tryAll_54 en d v1 v2 (v3 + (1 : Int32)) s3))) (L_X12_tryAll_54 en d v1 v2 v3 s) := by
  show qle _ (qE (qev en d) en (some .int) tb_X12_tryAll (54, [(0, .ref 151), (1, .int v1), (2, .int v2), (3, .int v3)], []) s)
  refine e_L 2 (f' := (58, [(0, .ref 151), (1, .int v1), (2, .int v2), (3, .int v3)], [.int (10000 : Int32), .int v3])) rfl ?_
  refine e_icmp 75 rfl rfl rfl (fun c1 => ?_) (fun c1 => ?_)
  · refine e_L 2 (f' := (77, [(3, .int (0 : Int32)), (0, .ref 151), (1, .int v1), (2, .int v2)], [])) rfl ?_
    exact qE_sub (qsubL [1, 2, 3, 0] rfl (ks := [3, 0, 1, 2]) rfl (by decide))
  · refine e_L 1 (f' := (62, [(0, .ref 151), (1, .int v1), (2, .int v2), (3, .int v3)], [.ref 151])) rfl ?_
    refine e_gR (q := 223) 12 118 rfl rfl lc_151 lr_151_118 ?_
    refine e_L 2 (f' := (68, [(0, .ref 151), (1, .int v1), (2, .int v2), (3, .int v3)], [.int (-2 : Int32), .int v3, .ref 223])) rfl ?_
    refine qle_gd fun h2 => ?_
    refine e_ias (n := 10000) (k := v3.toNatClampNeg) rfl lc_223 ln_223 h2 rfl ?_
    refine e_nS fun s3 => ?_
    refine e_L 2 (f' := (54, [(3, .int (v3 + (1 : Int32))), (0, .ref 151), (1, .int v1), (2, .int v2)], [])) rfl ?_
    exact qE_sub (qsubL [1, 2, 3, 0] rfl (ks := [3, 0, 1, 2]) rfl (by decide))
set_option maxRecDepth 100000 in
set_option maxHeartbeats 4000000 in
theorem le_X12_tryAll_77 (en : pN) (d : Nat) (v1 : Int32) (v2 : Int32) (v3 : Int32) (s : qS) : qle (if (8 : Int32) ≤ v3 then nm (uI s 151 101 (0 : Int32)) (fun s2 => nm (uI s2 151 102 (0 : Int32)) (fun s3 => nm (uI s3 151 103 (0 : Int32)) (fun s4 => nm (uI s4 151 115 (0 : Int32)) (fun s5 => nm (uI s5 151 73 (0 : Int32)) (fun s6 => bV (qev en d 300 [.ref 151, .int (2 : Int32), .int v1] s6) (fun s8 => bI (qev en d 358 [.ref 151, .int (-2 : Int32), .int (-2 : Int32), .int (0 : Int32)] s8) (fun w10 s11 => L_X12_tryAll_147 en d v1 v2 (0 : Int32) s11))))))) else gd (p_inB v3 8 = true) (nm (uI s 224 (v3.toNatClampNeg) (((1 : Int32) <<< ((s.1 151 16) &&& 31)) - (1 : Int32))) (fun s14 => L_X12_tryAll_77 en d v1 v2 (v3 + (1 : Int32)) s14))) (L_X12_tryAll_77 en d v1 v2 v3 s) := by
  show qle _ (qE (qev en d) en (some .int) tb_X12_tryAll (77, [(0, .ref 151), (1, .int v1), (2, .int v2), (3, .int v3)], []) s)
  refine e_L 2 (f' := (80, [(0, .ref 151), (1, .int v1), (2, .int v2), (3, .int v3)], [.int (8 : Int32), .int v3])) rfl ?_
  refine e_icmp 103 rfl rfl rfl (fun c1 => ?_) (fun c1 => ?_)
  · refine e_L 2 (f' := (105, [(0, .ref 151), (1, .int v1), (2, .int v2), (3, .int v3)], [.int (0 : Int32), .ref 151])) rfl ?_
    refine e_pI 12 101 rfl rfl lc_151 rfl ?_
    refine e_nS fun s2 => ?_
    refine e_L 2 (f' := (110, [(0, .ref 151), (1, .int v1), (2, .int v2), (3, .int v3)], [.int (0 : Int32), .ref 151])) rfl ?_
    refine e_pI 12 102 rfl rfl lc_151 rfl ?_
    refine e_nS fun s3 => ?_
    refine e_L 2 (f' := (115, [(0, .ref 151), (1, .int v1), (2, .int v2), (3, .int v3)], [.int (0 : Int32), .ref 151])) rfl ?_
    refine e_pI 12 103 rfl rfl lc_151 rfl ?_
    refine e_nS fun s4 => ?_
    refine e_L 2 (f' := (120, [(0, .ref 151), (1, .int v1), (2, .int v2), (3, .int v3)], [.int (0 : Int32), .ref 151])) rfl ?_
    refine e_pI 12 115 rfl rfl lc_151 rfl ?_
    refine e_nS fun s5 => ?_
    refine e_L 2 (f' := (125, [(0, .ref 151), (1, .int v1), (2, .int v2), (3, .int v3)], [.int (0 : Int32), .ref 151])) rfl ?_
    refine e_pI 12 73 rfl rfl lc_151 rfl ?_
    refine e_nS fun s6 => ?_
    refine e_L 3 (f' := (131, [(0, .ref 151), (1, .int v1), (2, .int v2), (3, .int v3)], [.int v1, .int (2 : Int32), .ref 151])) rfl ?_
    refine e_vV 300 rfl rfl ix_X12_firstState rfl (q_recvOf lc_151 rfl) (Nat.le_of_ble_eq_true rfl) (fun s8 e9 => ?_)
    refine e_L 4 (f' := (140, [(0, .ref 151), (1, .int v1), (2, .int v2), (3, .int v3)], [.int (0 : Int32), .int (-2 : Int32), .int (-2 : Int32), .ref 151])) rfl ?_
    refine e_vI 358 rfl rfl ix_X12_numberOf rfl (q_recvOf lc_151 rfl) (Nat.le_of_ble_eq_true rfl) (fun w10 s11 e12 => ?_)
    refine e_L 3 (f' := (147, [(4, .int (0 : Int32)), (3, .int w10), (0, .ref 151), (1, .int v1), (2, .int v2)], [])) rfl ?_
    exact qE_sub (qsubL [2, 3, 4, 0] rfl (ks := [4, 3, 0, 1, 2]) rfl (by decide))
  · refine e_L 1 (f' := (84, [(0, .ref 151), (1, .int v1), (2, .int v2), (3, .int v3)], [.ref 151])) rfl ?_
    refine e_gR (q := 224) 12 119 rfl rfl lc_151 lr_151_119 ?_
    refine e_L 3 (f' := (90, [(0, .ref 151), (1, .int v1), (2, .int v2), (3, .int v3)], [.ref 151, .int (1 : Int32), .int v3, .ref 224])) rfl ?_
    refine e_gI 12 16 rfl rfl lc_151 ?_
    refine e_L 3 (f' := (96, [(0, .ref 151), (1, .int v1), (2, .int v2), (3, .int v3)], [.int (((1 : Int32) <<< ((s.1 151 16) &&& 31)) - (1 : Int32)), .int v3, .ref 224])) rfl ?_
    refine qle_gd fun h13 => ?_
    refine e_ias (n := 8) (k := v3.toNatClampNeg) rfl lc_224 ln_224 h13 rfl ?_
    refine e_nS fun s14 => ?_
    refine e_L 2 (f' := (77, [(3, .int (v3 + (1 : Int32))), (0, .ref 151), (1, .int v1), (2, .int v2)], [])) rfl ?_
    exact qE_sub (qsubL [1, 2, 3, 0] rfl (ks := [3, 0, 1, 2]) rfl (by decide))
set_option maxRecDepth 100000 in
set_option maxHeartbeats 4000000 in
theorem le_X12_tryAll_147 (en : pN) (d : Nat) (v1 : Int32) (v2 : Int32) (v4 : Int32) (s : qS) : qle (if (s.1 151 101) ≤ v4 then gd (p_inB (s.1 151 101) 20002 = true) (nm (uI s 218 ((s.1 151 101).toNatClampNeg) (s.1 151 102)) (fun s3 => nm (uI s3 151 98 (1 : Int32)) (fun s4 => nm (uI s4 151 99 v1) (fun s5 => gd (isB v2 = true) (nm (uI s5 151 100 v2) (fun s7 => nm (uI s7 151 120 (s7.1 151 73)) (fun s8 => some (some (.int (s8.1 151 101)), s8)))))))) else gd (p_inB v4 20002 = true) (nm (uI s 218 (v4.toNatClampNeg) (s.1 151 102)) (fun s10 => bV (qev en d 357 [.ref 151, .int v4] s10) (fun s12 => bV (qev en d 315 [.ref 151] s12) (fun s15 => gd (p_inB v4 20001 = true) (nm (uI s15 215 (v4.toNatClampNeg) (s15.1 151 67)) (fun s18 => bV (qev en d 364 [.ref 151, .int v4] s18) (fun s20 => if ¬ (s20.1 151 66) = (0 : Int32) then L_X12_tryAll_232 en d v1 v2 v4 s20 else nm (uI s20 216 (v4.toNatClampNeg) (vp_nar .boolean (1 : Int32))) (fun s23 => nm (uI s23 151 103 ((s23.1 151 103) + (1 : Int32))) (fun s24 => bI (qev en d 361 [.ref 151, .int v4] s24) (fun w25 s26 => nm (uI s26 217 (v4.toNatClampNeg) w25) (fun s28 => L_X12_tryAll_232 en d v1 v2 v4 s28)))))))))))) (L_X12_tryAll_147 en d v1 v2 v4 s) := by
  show qle _ (qE (qev en d) en (some .int) tb_X12_tryAll (147, [(0, .ref 151), (1, .int v1), (2, .int v2), (4, .int v4)], []) s)
  refine e_L 2 (f' := (150, [(0, .ref 151), (1, .int v1), (2, .int v2), (4, .int v4)], [.ref 151, .int v4])) rfl ?_
  refine e_gI 12 101 rfl rfl lc_151 ?_
  refine e_icmp 481 rfl rfl rfl (fun c1 => ?_) (fun c1 => ?_)
  · refine e_L 1 (f' := (482, [(0, .ref 151), (1, .int v1), (2, .int v2), (4, .int v4)], [.ref 151])) rfl ?_
    refine e_gR (q := 218) 12 112 rfl rfl lc_151 lr_151_112 ?_
    refine e_L 1 (f' := (486, [(0, .ref 151), (1, .int v1), (2, .int v2), (4, .int v4)], [.ref 151, .ref 218])) rfl ?_
    refine e_gI 12 101 rfl rfl lc_151 ?_
    refine e_L 1 (f' := (490, [(0, .ref 151), (1, .int v1), (2, .int v2), (4, .int v4)], [.ref 151, .int (s.1 151 101), .ref 218])) rfl ?_
    refine e_gI 12 102 rfl rfl lc_151 ?_
    refine qle_gd fun h2 => ?_
    refine e_ias (n := 20002) (k := (s.1 151 101).toNatClampNeg) rfl lc_218 ln_218 h2 rfl ?_
    refine e_nS fun s3 => ?_
    refine e_L 2 (f' := (496, [(0, .ref 151), (1, .int v1), (2, .int v2), (4, .int v4)], [.int (1 : Int32), .ref 151])) rfl ?_
    refine e_pI 12 98 rfl rfl lc_151 (by decide +kernel) ?_
    refine e_nS fun s4 => ?_
    refine e_L 2 (f' := (501, [(0, .ref 151), (1, .int v1), (2, .int v2), (4, .int v4)], [.int v1, .ref 151])) rfl ?_
    refine e_pI 12 99 rfl rfl lc_151 rfl ?_
    refine e_nS fun s5 => ?_
    refine e_L 2 (f' := (506, [(0, .ref 151), (1, .int v1), (2, .int v2), (4, .int v4)], [.int v2, .ref 151])) rfl ?_
    refine qle_gd fun h6 => ?_
    refine e_pI 12 100 rfl rfl lc_151 h6 ?_
    refine e_nS fun s7 => ?_
    refine e_L 2 (f' := (511, [(0, .ref 151), (1, .int v1), (2, .int v2), (4, .int v4)], [.ref 151, .ref 151])) rfl ?_
    refine e_gI 12 73 rfl rfl lc_151 ?_
    refine e_pI 12 120 rfl rfl lc_151 rfl ?_
    refine e_nS fun s8 => ?_
    refine e_L 1 (f' := (518, [(0, .ref 151), (1, .int v1), (2, .int v2), (4, .int v4)], [.ref 151])) rfl ?_
    refine e_gI 12 101 rfl rfl lc_151 ?_
    exact e_rI rfl rfl
  · refine e_L 1 (f' := (157, [(0, .ref 151), (1, .int v1), (2, .int v2), (4, .int v4)], [.ref 151])) rfl ?_
    refine e_gR (q := 218) 12 112 rfl rfl lc_151 lr_151_112 ?_
    refine e_L 2 (f' := (163, [(0, .ref 151), (1, .int v1), (2, .int v2), (4, .int v4)], [.ref 151, .int v4, .ref 218])) rfl ?_
    refine e_gI 12 102 rfl rfl lc_151 ?_
    refine qle_gd fun h9 => ?_
    refine e_ias (n := 20002) (k := v4.toNatClampNeg) rfl lc_218 ln_218 h9 rfl ?_
    refine e_nS fun s10 => ?_
    refine e_L 2 (f' := (170, [(0, .ref 151), (1, .int v1), (2, .int v2), (4, .int v4)], [.int v4, .ref 151])) rfl ?_
    refine e_vV 357 rfl rfl ix_X12_loadState rfl (q_recvOf lc_151 rfl) (Nat.le_of_ble_eq_true rfl) (fun s12 e13 => ?_)
    refine e_L 1 (f' := (174, [(0, .ref 151), (1, .int v1), (2, .int v2), (4, .int v4)], [.ref 151])) rfl ?_
    refine e_vV 315 rfl rfl ix_X12_lookReady rfl (q_recvOf lc_151 rfl) (Nat.le_of_ble_eq_true rfl) (fun s15 e16 => ?_)
    refine e_L 1 (f' := (178, [(0, .ref 151), (1, .int v1), (2, .int v2), (4, .int v4)], [.ref 151])) rfl ?_
    refine e_gR (q := 215) 12 109 rfl rfl lc_151 lr_151_109 ?_
    refine e_L 2 (f' := (184, [(0, .ref 151), (1, .int v1), (2, .int v2), (4, .int v4)], [.ref 151, .int v4, .ref 215])) rfl ?_
    refine e_gI 12 67 rfl rfl lc_151 ?_
    refine qle_gd fun h17 => ?_
    refine e_ias (n := 20001) (k := v4.toNatClampNeg) rfl lc_215 ln_215 h17 rfl ?_
    refine e_nS fun s18 => ?_
    refine e_L 2 (f' := (191, [(0, .ref 151), (1, .int v1), (2, .int v2), (4, .int v4)], [.int v4, .ref 151])) rfl ?_
    refine e_vV 364 rfl rfl ix_X12_findIn rfl (q_recvOf lc_151 rfl) (Nat.le_of_ble_eq_true rfl) (fun s20 e21 => ?_)
    refine e_L 1 (f' := (195, [(0, .ref 151), (1, .int v1), (2, .int v2), (4, .int v4)], [.ref 151])) rfl ?_
    refine e_gI 12 66 rfl rfl lc_151 ?_
    refine e_ifz 232 rfl rfl rfl (fun c22 => ?_) (fun c22 => ?_)
    · exact qE_sub (qsubL [0, 1, 2, 3] rfl (ks := [0, 1, 2, 4]) rfl (by decide))
    · refine e_L 1 (f' := (202, [(0, .ref 151), (1, .int v1), (2, .int v2), (4, .int v4)], [.ref 151])) rfl ?_
      refine e_gR (q := 216) 12 110 rfl rfl lc_151 lr_151_110 ?_
      refine e_L 2 (f' := (208, [(0, .ref 151), (1, .int v1), (2, .int v2), (4, .int v4)], [.int (1 : Int32), .int v4, .ref 216])) rfl ?_
      refine e_bas (n := 20001) (k := v4.toNatClampNeg) rfl lc_216 ln_216 h17 rfl ?_
      refine e_nS fun s23 => ?_
      refine e_L 2 (f' := (211, [(0, .ref 151), (1, .int v1), (2, .int v2), (4, .int v4)], [.ref 151, .ref 151])) rfl ?_
      refine e_gI 12 103 rfl rfl lc_151 ?_
      refine e_L 2 (f' := (216, [(0, .ref 151), (1, .int v1), (2, .int v2), (4, .int v4)], [.int ((s23.1 151 103) + (1 : Int32)), .ref 151])) rfl ?_
      refine e_pI 12 103 rfl rfl lc_151 rfl ?_
      refine e_nS fun s24 => ?_
      refine e_L 1 (f' := (220, [(0, .ref 151), (1, .int v1), (2, .int v2), (4, .int v4)], [.ref 151])) rfl ?_
      refine e_gR (q := 217) 12 111 rfl rfl lc_151 lr_151_111 ?_
      refine e_L 3 (f' := (228, [(0, .ref 151), (1, .int v1), (2, .int v2), (4, .int v4)], [.int v4, .ref 151, .int v4, .ref 217])) rfl ?_
      refine e_vI 361 rfl rfl ix_X12_outcomeOf rfl (q_recvOf lc_151 rfl) (Nat.le_of_ble_eq_true rfl) (fun w25 s26 e27 => ?_)
      refine e_ias (n := 20001) (k := v4.toNatClampNeg) rfl lc_217 ln_217 h17 rfl ?_
      refine e_nS fun s28 => ?_
      exact qE_sub (qsubL [0, 1, 2, 3] rfl (ks := [0, 1, 2, 4]) rfl (by decide))
set_option maxRecDepth 100000 in
set_option maxHeartbeats 4000000 in
theorem le_X12_tryAll_232 (en : pN) (d : Nat) (v1 : Int32) (v2 : Int32) (v4 : Int32) (s : qS) : qle (if v2 = (0 : Int32) then L_X12_tryAll_255 en d v1 v2 v4 (-2 : Int32) s else gd (p_inB v4 20001 = true) (if ¬ (s.1 214 v4.toNatClampNeg) = (0 : Int32) then L_X12_tryAll_255 en d v1 v2 v4 (-2 : Int32) s else bI (qev en d 363 [.ref 151] s) (fun w4 s5 => L_X12_tryAll_255 en d v1 v2 v4 w4 s5))) (L_X12_tryAll_232 en d v1 v2 v4 s) := by
  show qle _ (qE (qev en d) en (some .int) tb_X12_tryAll (232, [(0, .ref 151), (1, .int v1), (2, .int v2), (4, .int v4)], []) s)
  refine e_L 1 (f' := (233, [(0, .ref 151), (1, .int v1), (2, .int v2), (4, .int v4)], [.int v2])) rfl ?_
  refine e_ifz 253 rfl rfl rfl (fun c1 => ?_) (fun c1 => ?_)
  · refine e_L 1 (f' := (255, [(0, .ref 151), (1, .int v1), (2, .int v2), (4, .int v4)], [.int (-2 : Int32)])) rfl ?_
    exact qE_sub (qsubL [0, 1, 2, 3] rfl (ks := [0, 1, 2, 4]) rfl (by decide))
  · refine e_L 1 (f' := (237, [(0, .ref 151), (1, .int v1), (2, .int v2), (4, .int v4)], [.ref 151])) rfl ?_
    refine e_gR (q := 214) 12 108 rfl rfl lc_151 lr_151_108 ?_
    refine e_L 1 (f' := (242, [(0, .ref 151), (1, .int v1), (2, .int v2), (4, .int v4)], [.int v4, .ref 214])) rfl ?_
    refine qle_gd fun h2 => ?_
    refine e_bal (n := 20001) (k := v4.toNatClampNeg) rfl (Or.inl lc_214) ln_214 h2 rfl ?_
    refine e_ifz 253 rfl rfl rfl (fun c3 => ?_) (fun c3 => ?_)
    · refine e_L 1 (f' := (255, [(0, .ref 151), (1, .int v1), (2, .int v2), (4, .int v4)], [.int (-2 : Int32)])) rfl ?_
      exact qE_sub (qsubL [0, 1, 2, 3] rfl (ks := [0, 1, 2, 4]) rfl (by decide))
    · refine e_L 1 (f' := (247, [(0, .ref 151), (1, .int v1), (2, .int v2), (4, .int v4)], [.ref 151])) rfl ?_
      refine e_vI 363 rfl rfl ix_X12_quietThread rfl (q_recvOf lc_151 rfl) (Nat.le_of_ble_eq_true rfl) (fun w4 s5 e6 => ?_)
      refine e_L 1 (f' := (255, [(0, .ref 151), (1, .int v1), (2, .int v2), (4, .int v4)], [.int w4])) rfl ?_
      exact qE_sub (qsubL [0, 1, 2, 3] rfl (ks := [0, 1, 2, 4]) rfl (by decide))
set_option maxRecDepth 100000 in
set_option maxHeartbeats 4000000 in
theorem le_X12_tryAll_255 (en : pN) (d : Nat) (v1 : Int32) (v2 : Int32) (v4 : Int32) (vs0 : Int32) (s : qS) : qle (L_X12_tryAll_266 en d v1 v2 v4 vs0 (s.1 151 66) (0 : Int32) s) (L_X12_tryAll_255 en d v1 v2 v4 vs0 s) := by
  show qle _ (qE (qev en d) en (some .int) tb_X12_tryAll (255, [(0, .ref 151), (1, .int v1), (2, .int v2), (4, .int v4)], [.int vs0]) s)
  refine e_L 2 (f' := (258, [(5, .int vs0), (0, .ref 151), (1, .int v1), (2, .int v2), (4, .int v4)], [.ref 151])) rfl ?_
  refine e_gI 12 66 rfl rfl lc_151 ?_
  refine e_L 3 (f' := (266, [(7, .int (0 : Int32)), (6, .int (s.1 151 66)), (5, .int vs0), (0, .ref 151), (1, .int v1), (2, .int v2), (4, .int v4)], [])) rfl ?_
  exact qE_sub (qsubL [3, 4, 5, 6, 2, 1, 0] rfl (ks := [7, 6, 5, 0, 1, 2, 4]) rfl (by decide))
set_option maxRecDepth 100000 in
set_option maxHeartbeats 4000000 in
theorem le_X12_tryAll_266 (en : pN) (d : Nat) (v1 : Int32) (v2 : Int32) (v4 : Int32) (v5 : Int32) (v6 : Int32) (v7 : Int32) (s : qS) : qle (if v6 ≤ v7 then L_X12_tryAll_296 en d v1 v2 v4 v5 v6 (0 : Int32) s else gd (p_inB v7 48 = true) (nm (uI s 226 (v7.toNatClampNeg) (s.1 190 v7.toNatClampNeg)) (fun s3 => L_X12_tryAll_266 en d v1 v2 v4 v5 v6 (v7 + (1 : Int32)) s3))) (L_X12_tryAll_266 en d v1 v2 v4 v5 v6 v7 s) := by
  show qle _ (qE (qev en d) en (some .int) tb_X12_tryAll (266, [(0, .ref 151), (1, .int v1), (2, .int v2), (4, .int v4), (5, .int v5), (6, .int v6), (7, .int v7)], []) s)
  refine e_L 2 (f' := (270, [(0, .ref 151), (1, .int v1), (2, .int v2), (4, .int v4), (5, .int v5), (6, .int v6), (7, .int v7)], [.int v6, .int v7])) rfl ?_
  refine e_icmp 293 rfl rfl rfl (fun c1 => ?_) (fun c1 => ?_)
  · refine e_L 2 (f' := (296, [(7, .int (0 : Int32)), (0, .ref 151), (1, .int v1), (2, .int v2), (4, .int v4), (5, .int v5), (6, .int v6)], [])) rfl ?_
    exact qE_sub (qsubL [1, 2, 3, 4, 5, 6, 0] rfl (ks := [7, 0, 1, 2, 4, 5, 6]) rfl (by decide))
  · refine e_L 1 (f' := (274, [(0, .ref 151), (1, .int v1), (2, .int v2), (4, .int v4), (5, .int v5), (6, .int v6), (7, .int v7)], [.ref 151])) rfl ?_
    refine e_gR (q := 226) 12 123 rfl rfl lc_151 lr_151_123 ?_
    refine e_L 2 (f' := (280, [(0, .ref 151), (1, .int v1), (2, .int v2), (4, .int v4), (5, .int v5), (6, .int v6), (7, .int v7)], [.ref 151, .int v7, .ref 226])) rfl ?_
    refine e_gR (q := 190) 12 65 rfl rfl lc_151 lr_151_65 ?_
    refine e_L 1 (f' := (285, [(0, .ref 151), (1, .int v1), (2, .int v2), (4, .int v4), (5, .int v5), (6, .int v6), (7, .int v7)], [.int v7, .ref 190, .int v7, .ref 226])) rfl ?_
    refine qle_gd fun h2 => ?_
    refine e_ial (n := 48) (k := v7.toNatClampNeg) rfl lc_190 ln_190 h2 rfl ?_
    refine e_ias (n := 48) (k := v7.toNatClampNeg) rfl lc_226 ln_226 h2 rfl ?_
    refine e_nS fun s3 => ?_
    refine e_L 2 (f' := (266, [(7, .int (v7 + (1 : Int32))), (0, .ref 151), (1, .int v1), (2, .int v2), (4, .int v4), (5, .int v5), (6, .int v6)], [])) rfl ?_
    exact qE_sub (qsubL [1, 2, 3, 4, 5, 6, 0] rfl (ks := [7, 0, 1, 2, 4, 5, 6]) rfl (by decide))
set_option maxRecDepth 100000 in
set_option maxHeartbeats 4000000 in
theorem le_X12_tryAll_296 (en : pN) (d : Nat) (v1 : Int32) (v2 : Int32) (v4 : Int32) (v5 : Int32) (v6 : Int32) (v7 : Int32) (s : qS) : qle (if v6 ≤ v7 then L_X12_tryAll_147 en d v1 v2 (v4 + (1 : Int32)) s else if v5 = (-2 : Int32) then L_X12_tryAll_328 en d v1 v2 v4 v5 v6 v7 s else gd (p_inB v7 48 = true) (if (s.1 226 v7.toNatClampNeg) = ((10 : Int32) * v5) then L_X12_tryAll_328 en d v1 v2 v4 v5 v6 v7 s else L_X12_tryAll_296 en d v1 v2 v4 v5 v6 (v7 + (1 : Int32)) s)) (L_X12_tryAll_296 en d v1 v2 v4 v5 v6 v7 s) := by
  show qle _ (qE (qev en d) en (some .int) tb_X12_tryAll (296, [(0, .ref 151), (1, .int v1), (2, .int v2), (4, .int v4), (5, .int v5), (6, .int v6), (7, .int v7)], []) s)
  refine e_L 2 (f' := (300, [(0, .ref 151), (1, .int v1), (2, .int v2), (4, .int v4), (5, .int v5), (6, .int v6), (7, .int v7)], [.int v6, .int v7])) rfl ?_
  refine e_icmp 475 rfl rfl rfl (fun c1 => ?_) (fun c1 => ?_)
  · refine e_L 2 (f' := (147, [(4, .int (v4 + (1 : Int32))), (0, .ref 151), (1, .int v1), (2, .int v2), (5, .int v5), (6, .int v6), (7, .int v7)], [])) rfl ?_
    exact qE_sub (qsubL [1, 2, 3, 0] rfl (ks := [4, 0, 1, 2, 5, 6, 7]) rfl (by decide))
  · refine e_L 2 (f' := (307, [(0, .ref 151), (1, .int v1), (2, .int v2), (4, .int v4), (5, .int v5), (6, .int v6), (7, .int v7)], [.int (-2 : Int32), .int v5])) rfl ?_
    refine e_icmp 328 rfl rfl rfl (fun c2 => ?_) (fun c2 => ?_)
    · exact qE_sub (qsubL [0, 1, 2, 3, 4, 5, 6] rfl (ks := [0, 1, 2, 4, 5, 6, 7]) rfl (by decide))
    · refine e_L 1 (f' := (311, [(0, .ref 151), (1, .int v1), (2, .int v2), (4, .int v4), (5, .int v5), (6, .int v6), (7, .int v7)], [.ref 151])) rfl ?_
      refine e_gR (q := 226) 12 123 rfl rfl lc_151 lr_151_123 ?_
      refine e_L 1 (f' := (316, [(0, .ref 151), (1, .int v1), (2, .int v2), (4, .int v4), (5, .int v5), (6, .int v6), (7, .int v7)], [.int v7, .ref 226])) rfl ?_
      refine qle_gd fun h3 => ?_
      refine e_ial (n := 48) (k := v7.toNatClampNeg) rfl lc_226 ln_226 h3 rfl ?_
      refine e_L 3 (f' := (322, [(0, .ref 151), (1, .int v1), (2, .int v2), (4, .int v4), (5, .int v5), (6, .int v6), (7, .int v7)], [.int ((10 : Int32) * v5), .int (s.1 226 v7.toNatClampNeg)])) rfl ?_
      refine e_icmp 328 rfl rfl rfl (fun c4 => ?_) (fun c4 => ?_)
      · exact qE_sub (qsubL [0, 1, 2, 3, 4, 5, 6] rfl (ks := [0, 1, 2, 4, 5, 6, 7]) rfl (by decide))
      · refine e_L 3 (f' := (296, [(7, .int (v7 + (1 : Int32))), (0, .ref 151), (1, .int v1), (2, .int v2), (4, .int v4), (5, .int v5), (6, .int v6)], [])) rfl ?_
        exact qE_sub (qsubL [1, 2, 3, 4, 5, 6, 0] rfl (ks := [7, 0, 1, 2, 4, 5, 6]) rfl (by decide))
set_option maxRecDepth 100000 in
set_option maxHeartbeats 4000000 in
theorem le_X12_tryAll_328 (en : pN) (d : Nat) (v1 : Int32) (v2 : Int32) (v4 : Int32) (v5 : Int32) (v6 : Int32) (v7 : Int32) (s : qS) : qle (if ¬ (s.1 151 102) = (200000 : Int32) then bV (qev en d 357 [.ref 151, .int v4] s) (fun s3 => gd (p_inB v7 48 = true) (bV (qev en d 324 [.ref 151, .int ((s3.1 226 v7.toNatClampNeg) / (10 : Int32)), .int ((s3.1 226 v7.toNatClampNeg) - (s3.1 226 v7.toNatClampNeg) / (10 : Int32) * (10 : Int32))] s3) (fun s7 => if (s7.1 151 68) = (-2 : Int32) then L_X12_tryAll_417 en d v1 v2 v4 v5 v6 v7 v4 (s7.1 226 v7.toNatClampNeg) (0 : Int32) s7 else gd (p_inB (((100 : Int32) * (s7.1 151 59)) + (s7.1 151 68)) 400 = true) (if ¬ (s7.1 164 (((100 : Int32) * (s7.1 151 59)) + (s7.1 151 68)).toNatClampNeg) = (18 : Int32) then L_X12_tryAll_417 en d v1 v2 v4 v5 v6 v7 v4 (s7.1 226 v7.toNatClampNeg) (0 : Int32) s7 else L_X12_tryAll_417 en d v1 v2 v4 v5 v6 v7 v4 (s7.1 226 v7.toNatClampNeg) (1 : Int32) s7)))) else some (some (.int (-3 : Int32)), s)) (L_X12_tryAll_328 en d v1 v2 v4 v5 v6 v7 s) := by
  show qle _ (qE (qev en d) en (some .int) tb_X12_tryAll (328, [(0, .ref 151), (1, .int v1), (2, .int v2), (4, .int v4), (5, .int v5), (6, .int v6), (7, .int v7)], []) s)
  refine e_L 1 (f' := (329, [(0, .ref 151), (1, .int v1), (2, .int v2), (4, .int v4), (5, .int v5), (6, .int v6), (7, .int v7)], [.ref 151])) rfl ?_
  refine e_gI 12 102 rfl rfl lc_151 ?_
  refine e_ldcw (v := (200000 : Int32)) rfl (by decide +kernel) ?_
  refine e_icmp 341 rfl rfl rfl (fun c1 => ?_) (fun c1 => ?_)
  · refine e_L 2 (f' := (344, [(0, .ref 151), (1, .int v1), (2, .int v2), (4, .int v4), (5, .int v5), (6, .int v6), (7, .int v7)], [.int v4, .ref 151])) rfl ?_
    refine e_vV 357 rfl rfl ix_X12_loadState rfl (q_recvOf lc_151 rfl) (Nat.le_of_ble_eq_true rfl) (fun s3 e4 => ?_)
    refine e_L 2 (f' := (349, [(0, .ref 151), (1, .int v1), (2, .int v2), (4, .int v4), (5, .int v5), (6, .int v6), (7, .int v7)], [.ref 151, .ref 151])) rfl ?_
    refine e_gR (q := 226) 12 123 rfl rfl lc_151 lr_151_123 ?_
    refine e_L 1 (f' := (354, [(0, .ref 151), (1, .int v1), (2, .int v2), (4, .int v4), (5, .int v5), (6, .int v6), (7, .int v7)], [.int v7, .ref 226, .ref 151])) rfl ?_
    refine qle_gd fun h5 => ?_
    refine e_ial (n := 48) (k := v7.toNatClampNeg) rfl lc_226 ln_226 h5 rfl ?_
    refine e_L 1 (f' := (357, [(0, .ref 151), (1, .int v1), (2, .int v2), (4, .int v4), (5, .int v5), (6, .int v6), (7, .int v7)], [.int (10 : Int32), .int (s3.1 226 v7.toNatClampNeg), .ref 151])) rfl ?_
    refine e_div rfl (by decide) ?_
    refine e_L 1 (f' := (359, [(0, .ref 151), (1, .int v1), (2, .int v2), (4, .int v4), (5, .int v5), (6, .int v6), (7, .int v7)], [.ref 151, .int ((s3.1 226 v7.toNatClampNeg) / (10 : Int32)), .ref 151])) rfl ?_
    refine e_gR (q := 226) 12 123 rfl rfl lc_151 lr_151_123 ?_
    refine e_L 1 (f' := (364, [(0, .ref 151), (1, .int v1), (2, .int v2), (4, .int v4), (5, .int v5), (6, .int v6), (7, .int v7)], [.int v7, .ref 226, .int ((s3.1 226 v7.toNatClampNeg) / (10 : Int32)), .ref 151])) rfl ?_
    refine e_ial (n := 48) (k := v7.toNatClampNeg) rfl lc_226 ln_226 h5 rfl ?_
    refine e_L 1 (f' := (367, [(0, .ref 151), (1, .int v1), (2, .int v2), (4, .int v4), (5, .int v5), (6, .int v6), (7, .int v7)], [.int (10 : Int32), .int (s3.1 226 v7.toNatClampNeg), .int ((s3.1 226 v7.toNatClampNeg) / (10 : Int32)), .ref 151])) rfl ?_
    refine e_rem rfl (by decide) ?_
    refine e_vV 324 rfl rfl ix_X12_doStep rfl (q_recvOf lc_151 rfl) (Nat.le_of_ble_eq_true rfl) (fun s7 e8 => ?_)
    refine e_L 3 (f' := (375, [(0, .ref 151), (1, .int v1), (2, .int v2), (4, .int v4), (5, .int v5), (6, .int v6), (7, .int v7)], [.ref 151, .int v4, .ref 151])) rfl ?_
    refine e_gR (q := 226) 12 123 rfl rfl lc_151 lr_151_123 ?_
    refine e_L 1 (f' := (380, [(0, .ref 151), (1, .int v1), (2, .int v2), (4, .int v4), (5, .int v5), (6, .int v6), (7, .int v7)], [.int v7, .ref 226, .int v4, .ref 151])) rfl ?_
    refine e_ial (n := 48) (k := v7.toNatClampNeg) rfl lc_226 ln_226 h5 rfl ?_
    refine e_L 1 (f' := (382, [(0, .ref 151), (1, .int v1), (2, .int v2), (4, .int v4), (5, .int v5), (6, .int v6), (7, .int v7)], [.ref 151, .int (s7.1 226 v7.toNatClampNeg), .int v4, .ref 151])) rfl ?_
    refine e_gI 12 68 rfl rfl lc_151 ?_
    refine e_L 1 (f' := (387, [(0, .ref 151), (1, .int v1), (2, .int v2), (4, .int v4), (5, .int v5), (6, .int v6), (7, .int v7)], [.int (-2 : Int32), .int (s7.1 151 68), .int (s7.1 226 v7.toNatClampNeg), .int v4, .ref 151])) rfl ?_
    refine e_icmp 416 rfl rfl rfl (fun c9 => ?_) (fun c9 => ?_)
    · refine e_L 1 (f' := (417, [(0, .ref 151), (1, .int v1), (2, .int v2), (4, .int v4), (5, .int v5), (6, .int v6), (7, .int v7)], [.int (0 : Int32), .int (s7.1 226 v7.toNatClampNeg), .int v4, .ref 151])) rfl ?_
      exact qE_sub (qsubL [0, 1, 2, 3, 4, 5, 6] rfl (ks := [0, 1, 2, 4, 5, 6, 7]) rfl (by decide))
    · refine e_L 1 (f' := (391, [(0, .ref 151), (1, .int v1), (2, .int v2), (4, .int v4), (5, .int v5), (6, .int v6), (7, .int v7)], [.ref 151, .int (s7.1 226 v7.toNatClampNeg), .int v4, .ref 151])) rfl ?_
      refine e_gR (q := 164) 12 33 rfl rfl lc_151 lr_151_33 ?_
      refine e_L 2 (f' := (397, [(0, .ref 151), (1, .int v1), (2, .int v2), (4, .int v4), (5, .int v5), (6, .int v6), (7, .int v7)], [.ref 151, .int (100 : Int32), .ref 164, .int (s7.1 226 v7.toNatClampNeg), .int v4, .ref 151])) rfl ?_
      refine e_gI 12 59 rfl rfl lc_151 ?_
      refine e_L 2 (f' := (402, [(0, .ref 151), (1, .int v1), (2, .int v2), (4, .int v4), (5, .int v5), (6, .int v6), (7, .int v7)], [.ref 151, .int ((100 : Int32) * (s7.1 151 59)), .ref 164, .int (s7.1 226 v7.toNatClampNeg), .int v4, .ref 151])) rfl ?_
      refine e_gI 12 68 rfl rfl lc_151 ?_
      refine e_L 1 (f' := (406, [(0, .ref 151), (1, .int v1), (2, .int v2), (4, .int v4), (5, .int v5), (6, .int v6), (7, .int v7)], [.int (((100 : Int32) * (s7.1 151 59)) + (s7.1 151 68)), .ref 164, .int (s7.1 226 v7.toNatClampNeg), .int v4, .ref 151])) rfl ?_
      refine qle_gd fun h10 => ?_
      refine e_ial (n := 400) (k := (((100 : Int32) * (s7.1 151 59)) + (s7.1 151 68)).toNatClampNeg) rfl lc_164 ln_164 h10 rfl ?_
      refine e_L 1 (f' := (409, [(0, .ref 151), (1, .int v1), (2, .int v2), (4, .int v4), (5, .int v5), (6, .int v6), (7, .int v7)], [.int (18 : Int32), .int (s7.1 164 (((100 : Int32) * (s7.1 151 59)) + (s7.1 151 68)).toNatClampNeg), .int (s7.1 226 v7.toNatClampNeg), .int v4, .ref 151])) rfl ?_
      refine e_icmp 416 rfl rfl rfl (fun c11 => ?_) (fun c11 => ?_)
      · refine e_L 1 (f' := (417, [(0, .ref 151), (1, .int v1), (2, .int v2), (4, .int v4), (5, .int v5), (6, .int v6), (7, .int v7)], [.int (0 : Int32), .int (s7.1 226 v7.toNatClampNeg), .int v4, .ref 151])) rfl ?_
        exact qE_sub (qsubL [0, 1, 2, 3, 4, 5, 6] rfl (ks := [0, 1, 2, 4, 5, 6, 7]) rfl (by decide))
      · refine e_L 2 (f' := (417, [(0, .ref 151), (1, .int v1), (2, .int v2), (4, .int v4), (5, .int v5), (6, .int v6), (7, .int v7)], [.int (1 : Int32), .int (s7.1 226 v7.toNatClampNeg), .int v4, .ref 151])) rfl ?_
        exact qE_sub (qsubL [0, 1, 2, 3, 4, 5, 6] rfl (ks := [0, 1, 2, 4, 5, 6, 7]) rfl (by decide))
  · refine e_L 1 (f' := (340, [(0, .ref 151), (1, .int v1), (2, .int v2), (4, .int v4), (5, .int v5), (6, .int v6), (7, .int v7)], [.int (-3 : Int32)])) rfl ?_
    exact e_rI rfl rfl
set_option maxRecDepth 100000 in
set_option maxHeartbeats 4000000 in
theorem le_X12_tryAll_417 (en : pN) (d : Nat) (v1 : Int32) (v2 : Int32) (v4 : Int32) (v5 : Int32) (v6 : Int32) (v7 : Int32) (vs1 : Int32) (vs2 : Int32) (vs3 : Int32) (s : qS) : qle (bI (qev en d 358 [.ref 151, .int vs1, .int vs2, .int vs3] s) (fun w1 s2 => if ¬ w1 = (-3 : Int32) then gd (p_inB (s2.1 151 102) 200001 = true) (nm (uI s2 219 ((s2.1 151 102).toNatClampNeg) w1) (fun s6 => gd (p_inB v7 48 = true) (gd (p_inB (s6.1 151 102) 200001 = true) (nm (uI s6 220 ((s6.1 151 102).toNatClampNeg) (s6.1 226 v7.toNatClampNeg)) (fun s9 => nm (uI s9 151 102 ((s9.1 151 102) + (1 : Int32))) (fun s10 => L_X12_tryAll_296 en d v1 v2 v4 v5 v6 (v7 + (1 : Int32)) s10)))))) else some (some (.int (-3 : Int32)), s2))) (L_X12_tryAll_417 en d v1 v2 v4 v5 v6 v7 vs1 vs2 vs3 s) := by
  show qle _ (qE (qev en d) en (some .int) tb_X12_tryAll (417, [(0, .ref 151), (1, .int v1), (2, .int v2), (4, .int v4), (5, .int v5), (6, .int v6), (7, .int v7)], [.int vs3, .int vs2, .int vs1, .ref 151]) s)
  refine e_vI 358 rfl rfl ix_X12_numberOf rfl (q_recvOf lc_151 rfl) (Nat.le_of_ble_eq_true rfl) (fun w1 s2 e3 => ?_)
  refine e_L 3 (f' := (426, [(8, .int w1), (0, .ref 151), (1, .int v1), (2, .int v2), (4, .int v4), (5, .int v5), (6, .int v6), (7, .int v7)], [.int (-3 : Int32), .int w1])) rfl ?_
  refine e_icmp 432 rfl rfl rfl (fun c4 => ?_) (fun c4 => ?_)
  · refine e_L 1 (f' := (433, [(8, .int w1), (0, .ref 151), (1, .int v1), (2, .int v2), (4, .int v4), (5, .int v5), (6, .int v6), (7, .int v7)], [.ref 151])) rfl ?_
    refine e_gR (q := 219) 12 113 rfl rfl lc_151 lr_151_113 ?_
    refine e_L 1 (f' := (437, [(8, .int w1), (0, .ref 151), (1, .int v1), (2, .int v2), (4, .int v4), (5, .int v5), (6, .int v6), (7, .int v7)], [.ref 151, .ref 219])) rfl ?_
    refine e_gI 12 102 rfl rfl lc_151 ?_
    refine e_L 1 (f' := (442, [(8, .int w1), (0, .ref 151), (1, .int v1), (2, .int v2), (4, .int v4), (5, .int v5), (6, .int v6), (7, .int v7)], [.int w1, .int (s2.1 151 102), .ref 219])) rfl ?_
    refine qle_gd fun h5 => ?_
    refine e_ias (n := 200001) (k := (s2.1 151 102).toNatClampNeg) rfl lc_219 ln_219 h5 rfl ?_
    refine e_nS fun s6 => ?_
    refine e_L 1 (f' := (444, [(8, .int w1), (0, .ref 151), (1, .int v1), (2, .int v2), (4, .int v4), (5, .int v5), (6, .int v6), (7, .int v7)], [.ref 151])) rfl ?_
    refine e_gR (q := 220) 12 114 rfl rfl lc_151 lr_151_114 ?_
    refine e_L 1 (f' := (448, [(8, .int w1), (0, .ref 151), (1, .int v1), (2, .int v2), (4, .int v4), (5, .int v5), (6, .int v6), (7, .int v7)], [.ref 151, .ref 220])) rfl ?_
    refine e_gI 12 102 rfl rfl lc_151 ?_
    refine e_L 1 (f' := (452, [(8, .int w1), (0, .ref 151), (1, .int v1), (2, .int v2), (4, .int v4), (5, .int v5), (6, .int v6), (7, .int v7)], [.ref 151, .int (s6.1 151 102), .ref 220])) rfl ?_
    refine e_gR (q := 226) 12 123 rfl rfl lc_151 lr_151_123 ?_
    refine e_L 1 (f' := (457, [(8, .int w1), (0, .ref 151), (1, .int v1), (2, .int v2), (4, .int v4), (5, .int v5), (6, .int v6), (7, .int v7)], [.int v7, .ref 226, .int (s6.1 151 102), .ref 220])) rfl ?_
    refine qle_gd fun h7 => ?_
    refine e_ial (n := 48) (k := v7.toNatClampNeg) rfl lc_226 ln_226 h7 rfl ?_
    refine qle_gd fun h8 => ?_
    refine e_ias (n := 200001) (k := (s6.1 151 102).toNatClampNeg) rfl lc_220 ln_220 h8 rfl ?_
    refine e_nS fun s9 => ?_
    refine e_L 2 (f' := (461, [(8, .int w1), (0, .ref 151), (1, .int v1), (2, .int v2), (4, .int v4), (5, .int v5), (6, .int v6), (7, .int v7)], [.ref 151, .ref 151])) rfl ?_
    refine e_gI 12 102 rfl rfl lc_151 ?_
    refine e_L 2 (f' := (466, [(8, .int w1), (0, .ref 151), (1, .int v1), (2, .int v2), (4, .int v4), (5, .int v5), (6, .int v6), (7, .int v7)], [.int ((s9.1 151 102) + (1 : Int32)), .ref 151])) rfl ?_
    refine e_pI 12 102 rfl rfl lc_151 rfl ?_
    refine e_nS fun s10 => ?_
    refine e_L 2 (f' := (296, [(7, .int (v7 + (1 : Int32))), (8, .int w1), (0, .ref 151), (1, .int v1), (2, .int v2), (4, .int v4), (5, .int v5), (6, .int v6)], [])) rfl ?_
    exact qE_sub (qsubL [2, 3, 4, 5, 6, 7, 0] rfl (ks := [7, 8, 0, 1, 2, 4, 5, 6]) rfl (by decide))
  · refine e_L 1 (f' := (431, [(8, .int w1), (0, .ref 151), (1, .int v1), (2, .int v2), (4, .int v4), (5, .int v5), (6, .int v6), (7, .int v7)], [.int (-3 : Int32)])) rfl ?_
    exact e_rI rfl rfl
set_option maxRecDepth 100000 in
set_option maxHeartbeats 4000000 in
theorem le_X12_tryAll (en : pN) (d : Nat) (a1 : Int32) (a2 : Int32) (s : qS) : qle (nm (uI s 151 98 (0 : Int32)) (fun s1 => nm (uI s1 151 121 (0 : Int32)) (fun s2 => L_X12_tryAll_12 en d a1 a2 (0 : Int32) s2))) (qev en (d + 1) 365 [.ref 151, .int a1, .int a2] s) := by
  refine e_enter ix_X12_tryAll (Nat.le_of_ble_eq_true rfl) ?_
  show qle _ (qE (qev en d) en (some .int) tb_X12_tryAll (0, [(0, .ref 151), (1, .int a1), (2, .int a2)], []) s)
  refine e_L 2 (f' := (2, [(0, .ref 151), (1, .int a1), (2, .int a2)], [.int (0 : Int32), .ref 151])) rfl ?_
  refine e_pI 12 98 rfl rfl lc_151 (by decide +kernel) ?_
  refine e_nS fun s1 => ?_
  refine e_L 2 (f' := (7, [(0, .ref 151), (1, .int a1), (2, .int a2)], [.int (0 : Int32), .ref 151])) rfl ?_
  refine e_pI 12 121 rfl rfl lc_151 (by decide +kernel) ?_
  refine e_nS fun s2 => ?_
  refine e_L 2 (f' := (12, [(3, .int (0 : Int32)), (0, .ref 151), (1, .int a1), (2, .int a2)], [])) rfl ?_
  exact qE_sub (qsubL [1, 2, 3, 0] rfl (ks := [3, 0, 1, 2]) rfl (by decide))
set_option maxRecDepth 100000 in
set_option maxHeartbeats 4000000 in
theorem le_X12_explore (en : pN) (d : Nat) (a1 : Int32) (a2 : Int32) (s : qS) : qle (if (s.1 151 11) = (0 : Int32) then some (some (.int (-1 : Int32)), s) else if a1 < (0 : Int32) then some (some (.int (-1 : Int32)), s) else if a1 ≤ (2 : Int32) then bV (qev en d 293 [.ref 151, .int (0 : Int32), .int (2 : Int32)] s) (fun s5 => nm (uI s5 151 148 (0 : Int32)) (fun s7 => bI (qev en d 365 [.ref 151, .int a1, .int a2] s7) (fun w8 s9 => some (some (.int w8), s9)))) else some (some (.int (-1 : Int32)), s)) (qev en (d + 1) 366 [.ref 151, .int a1, .int a2] s) := by
  refine e_enter ix_X12_explore (Nat.le_of_ble_eq_true rfl) ?_
  show qle _ (qE (qev en d) en (some .int) tb_X12_explore (0, [(0, .ref 151), (1, .int a1), (2, .int a2)], []) s)
  refine e_L 1 (f' := (1, [(0, .ref 151), (1, .int a1), (2, .int a2)], [.ref 151])) rfl ?_
  refine e_gI 12 11 rfl rfl lc_151 ?_
  refine e_ifz 16 rfl rfl rfl (fun c1 => ?_) (fun c1 => ?_)
  · refine e_L 1 (f' := (17, [(0, .ref 151), (1, .int a1), (2, .int a2)], [.int (-1 : Int32)])) rfl ?_
    exact e_rI rfl rfl
  · refine e_L 1 (f' := (8, [(0, .ref 151), (1, .int a1), (2, .int a2)], [.int a1])) rfl ?_
    refine e_ifz 16 rfl rfl rfl (fun c2 => ?_) (fun c2 => ?_)
    · refine e_L 1 (f' := (17, [(0, .ref 151), (1, .int a1), (2, .int a2)], [.int (-1 : Int32)])) rfl ?_
      exact e_rI rfl rfl
    · refine e_L 2 (f' := (13, [(0, .ref 151), (1, .int a1), (2, .int a2)], [.int (2 : Int32), .int a1])) rfl ?_
      refine e_icmp 18 rfl rfl rfl (fun c3 => ?_) (fun c3 => ?_)
      · refine e_L 3 (f' := (21, [(0, .ref 151), (1, .int a1), (2, .int a2)], [.int (2 : Int32), .int (0 : Int32), .ref 151])) rfl ?_
        refine e_vV 293 rfl rfl ix_X12_copyProgram rfl (q_recvOf lc_151 rfl) (Nat.le_of_ble_eq_true rfl) (fun s5 e6 => ?_)
        refine e_L 2 (f' := (26, [(0, .ref 151), (1, .int a1), (2, .int a2)], [.int (0 : Int32), .ref 151])) rfl ?_
        refine e_pI 12 148 rfl rfl lc_151 (by decide +kernel) ?_
        refine e_nS fun s7 => ?_
        refine e_L 3 (f' := (32, [(0, .ref 151), (1, .int a1), (2, .int a2)], [.int a2, .int a1, .ref 151])) rfl ?_
        refine e_vI 365 rfl rfl ix_X12_tryAll rfl (q_recvOf lc_151 rfl) (Nat.le_of_ble_eq_true rfl) (fun w8 s9 e10 => ?_)
        exact e_rI rfl rfl
      · refine e_L 1 (f' := (17, [(0, .ref 151), (1, .int a1), (2, .int a2)], [.int (-1 : Int32)])) rfl ?_
        exact e_rI rfl rfl
set_option maxRecDepth 100000 in
set_option maxHeartbeats 4000000 in
theorem le_X12_explored (en : pN) (d : Nat) (a1 : Int32) (s : qS) : qle (if ¬ (s.1 151 98) = (0 : Int32) then swI a1.toInt 0 [some (some (.int (s.1 151 101)), s), some (some (.int (s.1 151 102)), s), some (some (.int (s.1 151 103)), s), some (some (.int (s.1 151 115)), s), some (some (.int (s.1 151 99)), s), bI (qev en d 294 [.int (s.1 151 100)] s) (fun w2 s3 => some (some (.int w2), s3))] (some (some (.int (-1 : Int32)), s)) else some (some (.int (-1 : Int32)), s)) (qev en (d + 1) 367 [.ref 151, .int a1] s) := by
  refine e_enter ix_X12_explored (Nat.le_of_ble_eq_true rfl) ?_
  show qle _ (qE (qev en d) en (some .int) tb_X12_explored (0, [(0, .ref 151), (1, .int a1)], []) s)
  refine e_L 1 (f' := (1, [(0, .ref 151), (1, .int a1)], [.ref 151])) rfl ?_
  refine e_gI 12 98 rfl rfl lc_151 ?_
  refine e_ifz 9 rfl rfl rfl (fun c1 => ?_) (fun c1 => ?_)
  · refine e_L 1 (f' := (10, [(0, .ref 151), (1, .int a1)], [.int a1])) rfl ?_
    refine e_tsw rfl (by decide) ⟨?_, ?_, ?_, ?_, ?_, ?_, trivial⟩ ?_
    · refine e_L 1 (f' := (49, [(0, .ref 151), (1, .int a1)], [.ref 151])) rfl ?_
      refine e_gI 12 101 rfl rfl lc_151 ?_
      exact e_rI rfl rfl
    · refine e_L 1 (f' := (54, [(0, .ref 151), (1, .int a1)], [.ref 151])) rfl ?_
      refine e_gI 12 102 rfl rfl lc_151 ?_
      exact e_rI rfl rfl
    · refine e_L 1 (f' := (59, [(0, .ref 151), (1, .int a1)], [.ref 151])) rfl ?_
      refine e_gI 12 103 rfl rfl lc_151 ?_
      exact e_rI rfl rfl
    · refine e_L 1 (f' := (64, [(0, .ref 151), (1, .int a1)], [.ref 151])) rfl ?_
      refine e_gI 12 115 rfl rfl lc_151 ?_
      exact e_rI rfl rfl
    · refine e_L 1 (f' := (69, [(0, .ref 151), (1, .int a1)], [.ref 151])) rfl ?_
      refine e_gI 12 99 rfl rfl lc_151 ?_
      exact e_rI rfl rfl
    · refine e_L 1 (f' := (74, [(0, .ref 151), (1, .int a1)], [.ref 151])) rfl ?_
      refine e_gI 12 100 rfl rfl lc_151 ?_
      refine e_sI 294 rfl rfl rfl ix_X12_truth rfl (Nat.le_of_ble_eq_true rfl) (fun w2 s3 e4 => ?_)
      exact e_rI rfl rfl
    · refine e_L 1 (f' := (82, [(0, .ref 151), (1, .int a1)], [.int (-1 : Int32)])) rfl ?_
      exact e_rI rfl rfl
  · refine e_L 1 (f' := (8, [(0, .ref 151), (1, .int a1)], [.int (-1 : Int32)])) rfl ?_
    exact e_rI rfl rfl
set_option maxRecDepth 100000 in
set_option maxHeartbeats 4000000 in
theorem le_X12_isExploredOutcome (en : pN) (d : Nat) (a1 : Int32) (s : qS) : qle (if (s.1 151 98) = (0 : Int32) then some (some (.int (0 : Int32)), s) else if a1 < (0 : Int32) then some (some (.int (0 : Int32)), s) else if (s.1 151 115) ≤ a1 then some (some (.int (0 : Int32)), s) else some (some (.int (1 : Int32)), s)) (qev en (d + 1) 368 [.ref 151, .int a1] s) := by
  refine e_enter ix_X12_isExploredOutcome (Nat.le_of_ble_eq_true rfl) ?_
  show qle _ (qE (qev en d) en (some .boolean) tb_X12_isExploredOutcome (0, [(0, .ref 151), (1, .int a1)], []) s)
  refine e_L 1 (f' := (1, [(0, .ref 151), (1, .int a1)], [.ref 151])) rfl ?_
  refine e_gI 12 98 rfl rfl lc_151 ?_
  refine e_ifz 23 rfl rfl rfl (fun c1 => ?_) (fun c1 => ?_)
  · refine e_L 1 (f' := (24, [(0, .ref 151), (1, .int a1)], [.int (0 : Int32)])) rfl ?_
    exact e_rZ rfl rfl (by decide)
  · refine e_L 1 (f' := (8, [(0, .ref 151), (1, .int a1)], [.int a1])) rfl ?_
    refine e_ifz 23 rfl rfl rfl (fun c2 => ?_) (fun c2 => ?_)
    · refine e_L 1 (f' := (24, [(0, .ref 151), (1, .int a1)], [.int (0 : Int32)])) rfl ?_
      exact e_rZ rfl rfl (by decide)
    · refine e_L 2 (f' := (13, [(0, .ref 151), (1, .int a1)], [.ref 151, .int a1])) rfl ?_
      refine e_gI 12 115 rfl rfl lc_151 ?_
      refine e_icmp 23 rfl rfl rfl (fun c3 => ?_) (fun c3 => ?_)
      · refine e_L 1 (f' := (24, [(0, .ref 151), (1, .int a1)], [.int (0 : Int32)])) rfl ?_
        exact e_rZ rfl rfl (by decide)
      · refine e_L 2 (f' := (24, [(0, .ref 151), (1, .int a1)], [.int (1 : Int32)])) rfl ?_
        exact e_rZ rfl rfl (by decide)
set_option maxRecDepth 100000 in
set_option maxHeartbeats 4000000 in
theorem le_X12_widthExplored (en : pN) (d : Nat) (s : qS) : qle (bI (qev en d 299 [.int (s.1 151 99)] s) (fun w1 s2 => some (some (.int w1), s2))) (qev en (d + 1) 369 [.ref 151] s) := by
  refine e_enter ix_X12_widthExplored (Nat.le_of_ble_eq_true rfl) ?_
  show qle _ (qE (qev en d) en (some .int) tb_X12_widthExplored (0, [(0, .ref 151)], []) s)
  refine e_L 1 (f' := (1, [(0, .ref 151)], [.ref 151])) rfl ?_
  refine e_gI 12 99 rfl rfl lc_151 ?_
  refine e_sI 299 rfl rfl rfl ix_X12_widthOf rfl (Nat.le_of_ble_eq_true rfl) (fun w1 s2 e3 => ?_)
  exact e_rI rfl rfl
set_option maxRecDepth 100000 in
set_option maxHeartbeats 4000000 in
theorem le_X12_outcome (en : pN) (d : Nat) (a1 : Int32) (a2 : Int32) (s : qS) : qle (bI (qev en d 368 [.ref 151, .int a1] s) (fun w1 s2 => if ¬ w1 = (0 : Int32) then if ¬ a2 = (2 : Int32) then if ¬ a2 = (0 : Int32) then if ¬ a2 = (1 : Int32) then some (some (.int (-1 : Int32)), s2) else gd (p_inB a1 20001 = true) (some (some (.int (s2.1 221 a1.toNatClampNeg)), s2)) else gd (p_inB a1 20001 = true) (some (some (.int (s2.1 225 a1.toNatClampNeg)), s2)) else bV (qev en d 373 [.ref 151] s2) (fun s11 => gd (p_inB a1 20001 = true) (some (some (.int (s11.1 229 a1.toNatClampNeg)), s11))) else some (some (.int (-1 : Int32)), s2))) (qev en (d + 1) 370 [.ref 151, .int a1, .int a2] s) := by
  refine e_enter ix_X12_outcome (Nat.le_of_ble_eq_true rfl) ?_
  show qle _ (qE (qev en d) en (some .int) tb_X12_outcome (0, [(0, .ref 151), (1, .int a1), (2, .int a2)], []) s)
  refine e_L 2 (f' := (2, [(0, .ref 151), (1, .int a1), (2, .int a2)], [.int a1, .ref 151])) rfl ?_
  refine e_vI 368 rfl rfl ix_X12_isExploredOutcome rfl (q_recvOf lc_151 rfl) (Nat.le_of_ble_eq_true rfl) (fun w1 s2 e3 => ?_)
  refine e_ifz 10 rfl rfl rfl (fun c4 => ?_) (fun c4 => ?_)
  · refine e_L 2 (f' := (12, [(0, .ref 151), (1, .int a1), (2, .int a2)], [.int (2 : Int32), .int a2])) rfl ?_
    refine e_icmp 26 rfl rfl rfl (fun c5 => ?_) (fun c5 => ?_)
    · refine e_L 1 (f' := (27, [(0, .ref 151), (1, .int a1), (2, .int a2)], [.int a2])) rfl ?_
      refine e_ifz 39 rfl rfl rfl (fun c6 => ?_) (fun c6 => ?_)
      · refine e_L 2 (f' := (41, [(0, .ref 151), (1, .int a1), (2, .int a2)], [.int (1 : Int32), .int a2])) rfl ?_
        refine e_icmp 53 rfl rfl rfl (fun c7 => ?_) (fun c7 => ?_)
        · refine e_L 1 (f' := (54, [(0, .ref 151), (1, .int a1), (2, .int a2)], [.int (-1 : Int32)])) rfl ?_
          exact e_rI rfl rfl
        · refine e_L 1 (f' := (45, [(0, .ref 151), (1, .int a1), (2, .int a2)], [.ref 151])) rfl ?_
          refine e_gR (q := 221) 12 116 rfl rfl lc_151 lr_151_116 ?_
          refine e_L 1 (f' := (49, [(0, .ref 151), (1, .int a1), (2, .int a2)], [.int a1, .ref 221])) rfl ?_
          refine qle_gd fun h8 => ?_
          refine e_ial (n := 20001) (k := a1.toNatClampNeg) rfl lc_221 ln_221 h8 rfl ?_
          refine e_L 1 (f' := (54, [(0, .ref 151), (1, .int a1), (2, .int a2)], [.int (s2.1 221 a1.toNatClampNeg)])) rfl ?_
          exact e_rI rfl rfl
      · refine e_L 1 (f' := (31, [(0, .ref 151), (1, .int a1), (2, .int a2)], [.ref 151])) rfl ?_
        refine e_gR (q := 225) 12 122 rfl rfl lc_151 lr_151_122 ?_
        refine e_L 1 (f' := (35, [(0, .ref 151), (1, .int a1), (2, .int a2)], [.int a1, .ref 225])) rfl ?_
        refine qle_gd fun h9 => ?_
        refine e_ial (n := 20001) (k := a1.toNatClampNeg) rfl lc_225 ln_225 h9 rfl ?_
        refine e_L 1 (f' := (54, [(0, .ref 151), (1, .int a1), (2, .int a2)], [.int (s2.1 225 a1.toNatClampNeg)])) rfl ?_
        exact e_rI rfl rfl
    · refine e_L 1 (f' := (16, [(0, .ref 151), (1, .int a1), (2, .int a2)], [.ref 151])) rfl ?_
      refine e_vV 373 rfl rfl ix_X12_layWays rfl (q_recvOf lc_151 rfl) (Nat.le_of_ble_eq_true rfl) (fun s11 e12 => ?_)
      refine e_L 1 (f' := (20, [(0, .ref 151), (1, .int a1), (2, .int a2)], [.ref 151])) rfl ?_
      refine e_gR (q := 229) 12 126 rfl rfl lc_151 lr_151_126 ?_
      refine e_L 1 (f' := (24, [(0, .ref 151), (1, .int a1), (2, .int a2)], [.int a1, .ref 229])) rfl ?_
      refine qle_gd fun h13 => ?_
      refine e_ial (n := 20001) (k := a1.toNatClampNeg) rfl lc_229 ln_229 h13 rfl ?_
      exact e_rI rfl rfl
  · refine e_L 1 (f' := (9, [(0, .ref 151), (1, .int a1), (2, .int a2)], [.int (-1 : Int32)])) rfl ?_
    exact e_rI rfl rfl
set_option maxRecDepth 100000 in
set_option maxHeartbeats 4000000 in
theorem le_X12_outcomeCell (en : pN) (d : Nat) (a1 : Int32) (a2 : Int32) (s : qS) : qle (bI (qev en d 368 [.ref 151, .int a1] s) (fun w1 s2 => if w1 = (0 : Int32) then some (some (.int (-1000 : Int32)), s2) else if a2 < (0 : Int32) then some (some (.int (-1000 : Int32)), s2) else if a2 < (s2.1 151 12) then gd (p_inB a1 20001 = true) (bI (qev en d 369 [.ref 151] s2) (fun w8 s9 => gd (p_inB ((((s2.1 221 a1.toNatClampNeg) * w8) + (44 : Int32)) + a2) 1610000 = true) (some (some (.int (s9.1 210 ((((s2.1 221 a1.toNatClampNeg) * w8) + (44 : Int32)) + a2).toNatClampNeg)), s9)))) else some (some (.int (-1000 : Int32)), s2))) (qev en (d + 1) 371 [.ref 151, .int a1, .int a2] s) := by
  refine e_enter ix_X12_outcomeCell (Nat.le_of_ble_eq_true rfl) ?_
  show qle _ (qE (qev en d) en (some .int) tb_X12_outcomeCell (0, [(0, .ref 151), (1, .int a1), (2, .int a2)], []) s)
  refine e_L 2 (f' := (2, [(0, .ref 151), (1, .int a1), (2, .int a2)], [.int a1, .ref 151])) rfl ?_
  refine e_vI 368 rfl rfl ix_X12_isExploredOutcome rfl (q_recvOf lc_151 rfl) (Nat.le_of_ble_eq_true rfl) (fun w1 s2 e3 => ?_)
  refine e_ifz 20 rfl rfl rfl (fun c4 => ?_) (fun c4 => ?_)
  · refine e_L 2 (f' := (47, [(0, .ref 151), (1, .int a1), (2, .int a2)], [.int (-1000 : Int32)])) rfl ?_
    exact e_rI rfl rfl
  · refine e_L 1 (f' := (9, [(0, .ref 151), (1, .int a1), (2, .int a2)], [.int a2])) rfl ?_
    refine e_ifz 20 rfl rfl rfl (fun c5 => ?_) (fun c5 => ?_)
    · refine e_L 2 (f' := (47, [(0, .ref 151), (1, .int a1), (2, .int a2)], [.int (-1000 : Int32)])) rfl ?_
      exact e_rI rfl rfl
    · refine e_L 2 (f' := (14, [(0, .ref 151), (1, .int a1), (2, .int a2)], [.ref 151, .int a2])) rfl ?_
      refine e_gI 12 12 rfl rfl lc_151 ?_
      refine e_icmp 26 rfl rfl rfl (fun c6 => ?_) (fun c6 => ?_)
      · refine e_L 1 (f' := (27, [(0, .ref 151), (1, .int a1), (2, .int a2)], [.ref 151])) rfl ?_
        refine e_gR (q := 210) 12 104 rfl rfl lc_151 lr_151_104 ?_
        refine e_L 1 (f' := (31, [(0, .ref 151), (1, .int a1), (2, .int a2)], [.ref 151, .ref 210])) rfl ?_
        refine e_gR (q := 221) 12 116 rfl rfl lc_151 lr_151_116 ?_
        refine e_L 1 (f' := (35, [(0, .ref 151), (1, .int a1), (2, .int a2)], [.int a1, .ref 221, .ref 210])) rfl ?_
        refine qle_gd fun h7 => ?_
        refine e_ial (n := 20001) (k := a1.toNatClampNeg) rfl lc_221 ln_221 h7 rfl ?_
        refine e_L 1 (f' := (37, [(0, .ref 151), (1, .int a1), (2, .int a2)], [.ref 151, .int (s2.1 221 a1.toNatClampNeg), .ref 210])) rfl ?_
        refine e_vI 369 rfl rfl ix_X12_widthExplored rfl (q_recvOf lc_151 rfl) (Nat.le_of_ble_eq_true rfl) (fun w8 s9 e10 => ?_)
        refine e_L 5 (f' := (46, [(0, .ref 151), (1, .int a1), (2, .int a2)], [.int ((((s2.1 221 a1.toNatClampNeg) * w8) + (44 : Int32)) + a2), .ref 210])) rfl ?_
        refine qle_gd fun h11 => ?_
        refine e_ial (n := 1610000) (k := ((((s2.1 221 a1.toNatClampNeg) * w8) + (44 : Int32)) + a2).toNatClampNeg) rfl lc_210 ln_210 h11 rfl ?_
        exact e_rI rfl rfl
      · refine e_L 2 (f' := (47, [(0, .ref 151), (1, .int a1), (2, .int a2)], [.int (-1000 : Int32)])) rfl ?_
        exact e_rI rfl rfl
noncomputable def L_X12_outcomeLocal_38 (en : pN) (d : Nat) (v1 : Int32) (v2 : Int32) (v3 : Int32) (vs0 : Int32) (vs2 : Int32) (s : qS) : Option qR := qE (qev en d) en (some .int) tb_X12_outcomeLocal (38, [(0, .ref 151), (1, .int v1), (2, .int v2), (3, .int v3)], [.int vs2, .ref 159, .int vs0]) s
set_option maxRecDepth 100000 in
set_option maxHeartbeats 4000000 in
theorem le_X12_outcomeLocal_38 (en : pN) (d : Nat) (v1 : Int32) (v2 : Int32) (v3 : Int32) (vs0 : Int32) (vs2 : Int32) (s : qS) : qle (gd (p_inB vs2 4 = true) (if vs0 < (s.1 159 vs2.toNatClampNeg) then gd (p_inB v1 20001 = true) (bI (qev en d 369 [.ref 151] s) (fun w4 s5 => gd (p_inB (((((s.1 221 v1.toNatClampNeg) * w4) + (12 : Int32)) + ((6 : Int32) * v2)) + v3) 1610000 = true) (some (some (.int (s5.1 210 (((((s.1 221 v1.toNatClampNeg) * w4) + (12 : Int32)) + ((6 : Int32) * v2)) + v3).toNatClampNeg)), s5)))) else some (some (.int (-1000 : Int32)), s))) (L_X12_outcomeLocal_38 en d v1 v2 v3 vs0 vs2 s) := by
  show qle _ (qE (qev en d) en (some .int) tb_X12_outcomeLocal (38, [(0, .ref 151), (1, .int v1), (2, .int v2), (3, .int v3)], [.int vs2, .ref 159, .int vs0]) s)
  refine qle_gd fun h1 => ?_
  refine e_ial (n := 4) (k := vs2.toNatClampNeg) rfl lc_159 ln_159 h1 rfl ?_
  refine e_icmp 48 rfl rfl rfl (fun c2 => ?_) (fun c2 => ?_)
  · refine e_L 1 (f' := (49, [(0, .ref 151), (1, .int v1), (2, .int v2), (3, .int v3)], [.ref 151])) rfl ?_
    refine e_gR (q := 210) 12 104 rfl rfl lc_151 lr_151_104 ?_
    refine e_L 1 (f' := (53, [(0, .ref 151), (1, .int v1), (2, .int v2), (3, .int v3)], [.ref 151, .ref 210])) rfl ?_
    refine e_gR (q := 221) 12 116 rfl rfl lc_151 lr_151_116 ?_
    refine e_L 1 (f' := (57, [(0, .ref 151), (1, .int v1), (2, .int v2), (3, .int v3)], [.int v1, .ref 221, .ref 210])) rfl ?_
    refine qle_gd fun h3 => ?_
    refine e_ial (n := 20001) (k := v1.toNatClampNeg) rfl lc_221 ln_221 h3 rfl ?_
    refine e_L 1 (f' := (59, [(0, .ref 151), (1, .int v1), (2, .int v2), (3, .int v3)], [.ref 151, .int (s.1 221 v1.toNatClampNeg), .ref 210])) rfl ?_
    refine e_vI 369 rfl rfl ix_X12_widthExplored rfl (q_recvOf lc_151 rfl) (Nat.le_of_ble_eq_true rfl) (fun w4 s5 e6 => ?_)
    refine e_L 9 (f' := (73, [(0, .ref 151), (1, .int v1), (2, .int v2), (3, .int v3)], [.int (((((s.1 221 v1.toNatClampNeg) * w4) + (12 : Int32)) + ((6 : Int32) * v2)) + v3), .ref 210])) rfl ?_
    refine qle_gd fun h7 => ?_
    refine e_ial (n := 1610000) (k := (((((s.1 221 v1.toNatClampNeg) * w4) + (12 : Int32)) + ((6 : Int32) * v2)) + v3).toNatClampNeg) rfl lc_210 ln_210 h7 rfl ?_
    exact e_rI rfl rfl
  · refine e_L 2 (f' := (74, [(0, .ref 151), (1, .int v1), (2, .int v2), (3, .int v3)], [.int (-1000 : Int32)])) rfl ?_
    exact e_rI rfl rfl
set_option maxRecDepth 100000 in
set_option maxHeartbeats 4000000 in
theorem le_X12_outcomeLocal (en : pN) (d : Nat) (a1 : Int32) (a2 : Int32) (a3 : Int32) (s : qS) : qle (bI (qev en d 368 [.ref 151, .int a1] s) (fun w1 s2 => if w1 = (0 : Int32) then some (some (.int (-1000 : Int32)), s2) else bI (qev en d 336 [.ref 151, .int a2] s2) (fun w5 s6 => if w5 = (0 : Int32) then some (some (.int (-1000 : Int32)), s6) else if a3 < (0 : Int32) then some (some (.int (-1000 : Int32)), s6) else bI (qev en d 336 [.ref 151, .int a2] s6) (fun w10 s11 => if w10 = (0 : Int32) then L_X12_outcomeLocal_38 en d a1 a2 a3 a3 (0 : Int32) s11 else L_X12_outcomeLocal_38 en d a1 a2 a3 a3 a2 s11)))) (qev en (d + 1) 372 [.ref 151, .int a1, .int a2, .int a3] s) := by
  refine e_enter ix_X12_outcomeLocal (Nat.le_of_ble_eq_true rfl) ?_
  show qle _ (qE (qev en d) en (some .int) tb_X12_outcomeLocal (0, [(0, .ref 151), (1, .int a1), (2, .int a2), (3, .int a3)], []) s)
  refine e_L 2 (f' := (2, [(0, .ref 151), (1, .int a1), (2, .int a2), (3, .int a3)], [.int a1, .ref 151])) rfl ?_
  refine e_vI 368 rfl rfl ix_X12_isExploredOutcome rfl (q_recvOf lc_151 rfl) (Nat.le_of_ble_eq_true rfl) (fun w1 s2 e3 => ?_)
  refine e_ifz 42 rfl rfl rfl (fun c4 => ?_) (fun c4 => ?_)
  · refine e_L 2 (f' := (74, [(0, .ref 151), (1, .int a1), (2, .int a2), (3, .int a3)], [.int (-1000 : Int32)])) rfl ?_
    exact e_rI rfl rfl
  · refine e_L 2 (f' := (10, [(0, .ref 151), (1, .int a1), (2, .int a2), (3, .int a3)], [.int a2, .ref 151])) rfl ?_
    refine e_vI 336 rfl rfl ix_X12_isThread rfl (q_recvOf lc_151 rfl) (Nat.le_of_ble_eq_true rfl) (fun w5 s6 e7 => ?_)
    refine e_ifz 42 rfl rfl rfl (fun c8 => ?_) (fun c8 => ?_)
    · refine e_L 2 (f' := (74, [(0, .ref 151), (1, .int a1), (2, .int a2), (3, .int a3)], [.int (-1000 : Int32)])) rfl ?_
      exact e_rI rfl rfl
    · refine e_L 1 (f' := (17, [(0, .ref 151), (1, .int a1), (2, .int a2), (3, .int a3)], [.int a3])) rfl ?_
      refine e_ifz 42 rfl rfl rfl (fun c9 => ?_) (fun c9 => ?_)
      · refine e_L 2 (f' := (74, [(0, .ref 151), (1, .int a1), (2, .int a2), (3, .int a3)], [.int (-1000 : Int32)])) rfl ?_
        exact e_rI rfl rfl
      · refine e_L 2 (f' := (22, [(0, .ref 151), (1, .int a1), (2, .int a2), (3, .int a3)], [.ref 151, .int a3])) rfl ?_
        refine e_gR (q := 159) 12 21 rfl rfl lc_151 lr_151_21 ?_
        refine e_L 2 (f' := (27, [(0, .ref 151), (1, .int a1), (2, .int a2), (3, .int a3)], [.int a2, .ref 151, .ref 159, .int a3])) rfl ?_
        refine e_vI 336 rfl rfl ix_X12_isThread rfl (q_recvOf lc_151 rfl) (Nat.le_of_ble_eq_true rfl) (fun w10 s11 e12 => ?_)
        refine e_ifz 37 rfl rfl rfl (fun c13 => ?_) (fun c13 => ?_)
        · refine e_L 1 (f' := (38, [(0, .ref 151), (1, .int a1), (2, .int a2), (3, .int a3)], [.int (0 : Int32), .ref 159, .int a3])) rfl ?_
          exact qE_sub (qsubL [0, 1, 2, 3] rfl (ks := [0, 1, 2, 3]) rfl (by decide))
        · refine e_L 2 (f' := (38, [(0, .ref 151), (1, .int a1), (2, .int a2), (3, .int a3)], [.int a2, .ref 159, .int a3])) rfl ?_
          exact qE_sub (qsubL [0, 1, 2, 3] rfl (ks := [0, 1, 2, 3]) rfl (by decide))
noncomputable def L_X12_layWays_15 (en : pN) (d : Nat) (v1 : Int32) (s : qS) : Option qR := qE (qev en d) en none tb_X12_layWays (15, [(0, .ref 151), (1, .int v1)], []) s
noncomputable def L_X12_layWays_42 (en : pN) (d : Nat) (v1 : Int32) (s : qS) : Option qR := qE (qev en d) en none tb_X12_layWays (42, [(0, .ref 151), (1, .int v1)], []) s
noncomputable def L_X12_layWays_90 (en : pN) (d : Nat) (v1 : Int32) (v2 : Int32) (s : qS) : Option qR := qE (qev en d) en none tb_X12_layWays (90, [(0, .ref 151), (1, .int v1), (2, .int v2)], []) s
noncomputable def L_X12_layWays_169 (en : pN) (d : Nat) (v1 : Int32) (v2 : Int32) (v3 : Int32) (v4 : Int32) (v5 : Int32) (s : qS) : Option qR := qE (qev en d) en none tb_X12_layWays (169, [(0, .ref 151), (1, .int v1), (2, .int v2), (3, .int v3), (4, .int v4), (5, .int v5)], []) s
noncomputable def L_X12_layWays_178 (en : pN) (d : Nat) (v1 : Int32) (v2 : Int32) (v3 : Int32) (v4 : Int32) (v5 : Int32) (v6 : Int32) (s : qS) : Option qR := qE (qev en d) en none tb_X12_layWays (178, [(0, .ref 151), (1, .int v1), (2, .int v2), (3, .int v3), (4, .int v4), (5, .int v5), (6, .int v6)], []) s
noncomputable def L_X12_layWays_238 (en : pN) (d : Nat) (v1 : Int32) (v2 : Int32) (v3 : Int32) (v4 : Int32) (v5 : Int32) (v6 : Int32) (v7 : Int32) (vs0 : Int32) (s : qS) : Option qR := qE (qev en d) en none tb_X12_layWays (238, [(0, .ref 151), (1, .int v1), (2, .int v2), (3, .int v3), (4, .int v4), (5, .int v5), (6, .int v6), (7, .int v7)], [.int vs0]) s
set_option maxRecDepth 100000 in
set_option maxHeartbeats 4000000 in
theorem le_X12_layWays_15 (en : pN) (d : Nat) (v1 : Int32) (s : qS) : qle (if ((5 : Int32) * (s.1 151 101)) ≤ v1 then L_X12_layWays_42 en d (0 : Int32) s else gd (p_inB v1 100005 = true) (nm (uI s 227 (v1.toNatClampNeg) (100000 : Int32)) (fun s3 => L_X12_layWays_15 en d (v1 + (1 : Int32)) s3))) (L_X12_layWays_15 en d v1 s) := by
  show qle _ (qE (qev en d) en none tb_X12_layWays (15, [(0, .ref 151), (1, .int v1)], []) s)
  refine e_L 3 (f' := (18, [(0, .ref 151), (1, .int v1)], [.ref 151, .int (5 : Int32), .int v1])) rfl ?_
  refine e_gI 12 101 rfl rfl lc_151 ?_
  refine e_L 1 (f' := (22, [(0, .ref 151), (1, .int v1)], [.int ((5 : Int32) * (s.1 151 101)), .int v1])) rfl ?_
  refine e_icmp 40 rfl rfl rfl (fun c1 => ?_) (fun c1 => ?_)
  · refine e_L 2 (f' := (42, [(1, .int (0 : Int32)), (0, .ref 151)], [])) rfl ?_
    exact qE_sub (qsubL [1, 0] rfl (ks := [1, 0]) rfl (by decide))
  · refine e_L 1 (f' := (26, [(0, .ref 151), (1, .int v1)], [.ref 151])) rfl ?_
    refine e_gR (q := 227) 12 124 rfl rfl lc_151 lr_151_124 ?_
    refine e_L 1 (f' := (30, [(0, .ref 151), (1, .int v1)], [.int v1, .ref 227])) rfl ?_
    refine e_ldcw (v := (100000 : Int32)) rfl (by decide +kernel) ?_
    refine qle_gd fun h2 => ?_
    refine e_ias (n := 100005) (k := v1.toNatClampNeg) rfl lc_227 ln_227 h2 rfl ?_
    refine e_nS fun s3 => ?_
    refine e_L 2 (f' := (15, [(1, .int (v1 + (1 : Int32))), (0, .ref 151)], [])) rfl ?_
    exact qE_sub (qsubL [1, 0] rfl (ks := [1, 0]) rfl (by decide))
set_option maxRecDepth 100000 in
set_option maxHeartbeats 4000000 in
theorem le_X12_layWays_42 (en : pN) (d : Nat) (v1 : Int32) (s : qS) : qle (if (s.1 151 115) ≤ v1 then nm (uI s 227 4 (0 : Int32)) (fun s2 => nm (uI s2 228 262144 (4 : Int32)) (fun s3 => L_X12_layWays_90 en d (262144 : Int32) ((262144 : Int32) + (1 : Int32)) s3)) else gd (p_inB v1 20001 = true) (nm (uI s 229 (v1.toNatClampNeg) (100000 : Int32)) (fun s5 => L_X12_layWays_42 en d (v1 + (1 : Int32)) s5))) (L_X12_layWays_42 en d v1 s) := by
  show qle _ (qE (qev en d) en none tb_X12_layWays (42, [(0, .ref 151), (1, .int v1)], []) s)
  refine e_L 2 (f' := (44, [(0, .ref 151), (1, .int v1)], [.ref 151, .int v1])) rfl ?_
  refine e_gI 12 115 rfl rfl lc_151 ?_
  refine e_icmp 65 rfl rfl rfl (fun c1 => ?_) (fun c1 => ?_)
  · refine e_ldcw (v := (262144 : Int32)) rfl (by decide +kernel) ?_
    refine e_L 1 (f' := (69, [(1, .int (262144 : Int32)), (0, .ref 151)], [])) rfl ?_
    refine e_ldcw (v := (262144 : Int32)) rfl (by decide +kernel) ?_
    refine e_L 2 (f' := (74, [(2, .int (262144 : Int32)), (1, .int (262144 : Int32)), (0, .ref 151)], [.ref 151])) rfl ?_
    refine e_gR (q := 227) 12 124 rfl rfl lc_151 lr_151_124 ?_
    refine e_L 2 (f' := (79, [(2, .int (262144 : Int32)), (1, .int (262144 : Int32)), (0, .ref 151)], [.int (0 : Int32), .int (4 : Int32), .ref 227])) rfl ?_
    refine e_ias (n := 100005) (k := 4) rfl lc_227 ln_227 (by decide +kernel) (by decide +kernel) ?_
    refine e_nS fun s2 => ?_
    refine e_L 1 (f' := (81, [(2, .int (262144 : Int32)), (1, .int (262144 : Int32)), (0, .ref 151)], [.ref 151])) rfl ?_
    refine e_gR (q := 228) 12 125 rfl rfl lc_151 lr_151_125 ?_
    refine e_L 2 (f' := (86, [(2, .int (262144 : Int32)), (1, .int (262144 : Int32)), (0, .ref 151)], [.int (4 : Int32), .int (262144 : Int32), .ref 228])) rfl ?_
    refine e_ias (n := 524288) (k := 262144) rfl lc_228 ln_228 (by decide +kernel) (by decide +kernel) ?_
    refine e_nS fun s3 => ?_
    refine e_L 1 (f' := (90, [(2, .int ((262144 : Int32) + (1 : Int32))), (1, .int (262144 : Int32)), (0, .ref 151)], [])) rfl ?_
    exact qE_sub (qsubL [2, 1, 0] rfl (ks := [2, 1, 0]) rfl (by decide))
  · refine e_L 1 (f' := (51, [(0, .ref 151), (1, .int v1)], [.ref 151])) rfl ?_
    refine e_gR (q := 229) 12 126 rfl rfl lc_151 lr_151_126 ?_
    refine e_L 1 (f' := (55, [(0, .ref 151), (1, .int v1)], [.int v1, .ref 229])) rfl ?_
    refine e_ldcw (v := (100000 : Int32)) rfl (by decide +kernel) ?_
    refine qle_gd fun h4 => ?_
    refine e_ias (n := 20001) (k := v1.toNatClampNeg) rfl lc_229 ln_229 h4 rfl ?_
    refine e_nS fun s5 => ?_
    refine e_L 2 (f' := (42, [(1, .int (v1 + (1 : Int32))), (0, .ref 151)], [])) rfl ?_
    exact qE_sub (qsubL [1, 0] rfl (ks := [1, 0]) rfl (by decide))
set_option maxRecDepth 100000 in
set_option maxHeartbeats 4000000 in
theorem le_X12_layWays_90 (en : pN) (d : Nat) (v1 : Int32) (v2 : Int32) (s : qS) : qle (if v1 = v2 then some (none, s) else gd (p_inB v1 524288 = true) (nm (s.1 228 v1.toNatClampNeg) (fun z3 => nm ((v1 + (1 : Int32)) &&& (524287 : Int32)) (fun z4 => nm (z3 - z3 / (5 : Int32) * (5 : Int32)) (fun z5 => gd (p_inB (z3 / (5 : Int32)) 20001 = true) (if (s.1 216 (z3 / (5 : Int32)).toNatClampNeg) = (0 : Int32) then L_X12_layWays_169 en d z4 v2 z3 (z3 / (5 : Int32)) z5 s else gd (p_inB z3 100005 = true) (gd (p_inB (s.1 217 (z3 / (5 : Int32)).toNatClampNeg) 20001 = true) (if (s.1 229 (s.1 217 (z3 / (5 : Int32)).toNatClampNeg).toNatClampNeg) ≤ (s.1 227 z3.toNatClampNeg) then L_X12_layWays_169 en d z4 v2 z3 (z3 / (5 : Int32)) z5 s else nm (uI s 229 ((s.1 217 (z3 / (5 : Int32)).toNatClampNeg).toNatClampNeg) (s.1 227 z3.toNatClampNeg)) (fun s11 => L_X12_layWays_169 en d z4 v2 z3 (z3 / (5 : Int32)) z5 s11))))))))) (L_X12_layWays_90 en d v1 v2 s) := by
  show qle _ (qE (qev en d) en none tb_X12_layWays (90, [(0, .ref 151), (1, .int v1), (2, .int v2)], []) s)
  refine e_L 2 (f' := (92, [(0, .ref 151), (1, .int v1), (2, .int v2)], [.int v2, .int v1])) rfl ?_
  refine e_icmp 338 rfl rfl rfl (fun c1 => ?_) (fun c1 => ?_)
  · exact e_rV rfl rfl
  · refine e_L 1 (f' := (96, [(0, .ref 151), (1, .int v1), (2, .int v2)], [.ref 151])) rfl ?_
    refine e_gR (q := 228) 12 125 rfl rfl lc_151 lr_151_125 ?_
    refine e_L 1 (f' := (100, [(0, .ref 151), (1, .int v1), (2, .int v2)], [.int v1, .ref 228])) rfl ?_
    refine qle_gd fun h2 => ?_
    refine e_ial (n := 524288) (k := v1.toNatClampNeg) rfl lc_228 ln_228 h2 rfl ?_
    refine e_nI fun z3 => ?_
    refine e_L 4 (f' := (105, [(3, .int z3), (0, .ref 151), (1, .int v1), (2, .int v2)], [.int (v1 + (1 : Int32))])) rfl ?_
    refine e_ldcw (v := (524287 : Int32)) rfl (by decide +kernel) ?_
    refine e_L 1 (f' := (109, [(3, .int z3), (0, .ref 151), (1, .int v1), (2, .int v2)], [.int ((v1 + (1 : Int32)) &&& (524287 : Int32))])) rfl ?_
    refine e_nI fun z4 => ?_
    refine e_L 3 (f' := (112, [(1, .int z4), (3, .int z3), (0, .ref 151), (2, .int v2)], [.int (5 : Int32), .int z3])) rfl ?_
    refine e_div rfl (by decide) ?_
    refine e_L 3 (f' := (117, [(4, .int (z3 / (5 : Int32))), (1, .int z4), (3, .int z3), (0, .ref 151), (2, .int v2)], [.int (5 : Int32), .int z3])) rfl ?_
    refine e_rem rfl (by decide) ?_
    refine e_nI fun z5 => ?_
    refine e_L 2 (f' := (121, [(5, .int z5), (4, .int (z3 / (5 : Int32))), (1, .int z4), (3, .int z3), (0, .ref 151), (2, .int v2)], [.ref 151])) rfl ?_
    refine e_gR (q := 216) 12 110 rfl rfl lc_151 lr_151_110 ?_
    refine e_L 1 (f' := (126, [(5, .int z5), (4, .int (z3 / (5 : Int32))), (1, .int z4), (3, .int z3), (0, .ref 151), (2, .int v2)], [.int (z3 / (5 : Int32)), .ref 216])) rfl ?_
    refine qle_gd fun h6 => ?_
    refine e_bal (n := 20001) (k := (z3 / (5 : Int32)).toNatClampNeg) rfl (Or.inl lc_216) ln_216 h6 rfl ?_
    refine e_ifz 169 rfl rfl rfl (fun c7 => ?_) (fun c7 => ?_)
    · exact qE_sub (qsubL [4, 2, 5, 3, 1, 0] rfl (ks := [5, 4, 1, 3, 0, 2]) rfl (by decide))
    · refine e_L 1 (f' := (131, [(5, .int z5), (4, .int (z3 / (5 : Int32))), (1, .int z4), (3, .int z3), (0, .ref 151), (2, .int v2)], [.ref 151])) rfl ?_
      refine e_gR (q := 227) 12 124 rfl rfl lc_151 lr_151_124 ?_
      refine e_L 1 (f' := (135, [(5, .int z5), (4, .int (z3 / (5 : Int32))), (1, .int z4), (3, .int z3), (0, .ref 151), (2, .int v2)], [.int z3, .ref 227])) rfl ?_
      refine qle_gd fun h8 => ?_
      refine e_ial (n := 100005) (k := z3.toNatClampNeg) rfl lc_227 ln_227 h8 rfl ?_
      refine e_L 1 (f' := (137, [(5, .int z5), (4, .int (z3 / (5 : Int32))), (1, .int z4), (3, .int z3), (0, .ref 151), (2, .int v2)], [.ref 151, .int (s.1 227 z3.toNatClampNeg)])) rfl ?_
      refine e_gR (q := 229) 12 126 rfl rfl lc_151 lr_151_126 ?_
      refine e_L 1 (f' := (141, [(5, .int z5), (4, .int (z3 / (5 : Int32))), (1, .int z4), (3, .int z3), (0, .ref 151), (2, .int v2)], [.ref 151, .ref 229, .int (s.1 227 z3.toNatClampNeg)])) rfl ?_
      refine e_gR (q := 217) 12 111 rfl rfl lc_151 lr_151_111 ?_
      refine e_L 1 (f' := (146, [(5, .int z5), (4, .int (z3 / (5 : Int32))), (1, .int z4), (3, .int z3), (0, .ref 151), (2, .int v2)], [.int (z3 / (5 : Int32)), .ref 217, .ref 229, .int (s.1 227 z3.toNatClampNeg)])) rfl ?_
      refine e_ial (n := 20001) (k := (z3 / (5 : Int32)).toNatClampNeg) rfl lc_217 ln_217 h6 rfl ?_
      refine qle_gd fun h9 => ?_
      refine e_ial (n := 20001) (k := (s.1 217 (z3 / (5 : Int32)).toNatClampNeg).toNatClampNeg) rfl lc_229 ln_229 h9 rfl ?_
      refine e_icmp 169 rfl rfl rfl (fun c10 => ?_) (fun c10 => ?_)
      · exact qE_sub (qsubL [4, 2, 5, 3, 1, 0] rfl (ks := [5, 4, 1, 3, 0, 2]) rfl (by decide))
      · refine e_L 1 (f' := (152, [(5, .int z5), (4, .int (z3 / (5 : Int32))), (1, .int z4), (3, .int z3), (0, .ref 151), (2, .int v2)], [.ref 151])) rfl ?_
        refine e_gR (q := 229) 12 126 rfl rfl lc_151 lr_151_126 ?_
        refine e_L 1 (f' := (156, [(5, .int z5), (4, .int (z3 / (5 : Int32))), (1, .int z4), (3, .int z3), (0, .ref 151), (2, .int v2)], [.ref 151, .ref 229])) rfl ?_
        refine e_gR (q := 217) 12 111 rfl rfl lc_151 lr_151_111 ?_
        refine e_L 1 (f' := (161, [(5, .int z5), (4, .int (z3 / (5 : Int32))), (1, .int z4), (3, .int z3), (0, .ref 151), (2, .int v2)], [.int (z3 / (5 : Int32)), .ref 217, .ref 229])) rfl ?_
        refine e_ial (n := 20001) (k := (z3 / (5 : Int32)).toNatClampNeg) rfl lc_217 ln_217 h6 rfl ?_
        refine e_L 1 (f' := (163, [(5, .int z5), (4, .int (z3 / (5 : Int32))), (1, .int z4), (3, .int z3), (0, .ref 151), (2, .int v2)], [.ref 151, .int (s.1 217 (z3 / (5 : Int32)).toNatClampNeg), .ref 229])) rfl ?_
        refine e_gR (q := 227) 12 124 rfl rfl lc_151 lr_151_124 ?_
        refine e_L 1 (f' := (167, [(5, .int z5), (4, .int (z3 / (5 : Int32))), (1, .int z4), (3, .int z3), (0, .ref 151), (2, .int v2)], [.int z3, .ref 227, .int (s.1 217 (z3 / (5 : Int32)).toNatClampNeg), .ref 229])) rfl ?_
        refine e_ial (n := 100005) (k := z3.toNatClampNeg) rfl lc_227 ln_227 h8 rfl ?_
        refine e_ias (n := 20001) (k := (s.1 217 (z3 / (5 : Int32)).toNatClampNeg).toNatClampNeg) rfl lc_229 ln_229 h9 rfl ?_
        refine e_nS fun s11 => ?_
        exact qE_sub (qsubL [4, 2, 5, 3, 1, 0] rfl (ks := [5, 4, 1, 3, 0, 2]) rfl (by decide))
set_option maxRecDepth 100000 in
set_option maxHeartbeats 4000000 in
theorem le_X12_layWays_169 (en : pN) (d : Nat) (v1 : Int32) (v2 : Int32) (v3 : Int32) (v4 : Int32) (v5 : Int32) (s : qS) : qle (gd (p_inB v4 20002 = true) (nm (s.1 218 v4.toNatClampNeg) (fun z2 => L_X12_layWays_178 en d v1 v2 v3 v4 v5 z2 s))) (L_X12_layWays_169 en d v1 v2 v3 v4 v5 s) := by
  show qle _ (qE (qev en d) en none tb_X12_layWays (169, [(0, .ref 151), (1, .int v1), (2, .int v2), (3, .int v3), (4, .int v4), (5, .int v5)], []) s)
  refine e_L 1 (f' := (170, [(0, .ref 151), (1, .int v1), (2, .int v2), (3, .int v3), (4, .int v4), (5, .int v5)], [.ref 151])) rfl ?_
  refine e_gR (q := 218) 12 112 rfl rfl lc_151 lr_151_112 ?_
  refine e_L 1 (f' := (175, [(0, .ref 151), (1, .int v1), (2, .int v2), (3, .int v3), (4, .int v4), (5, .int v5)], [.int v4, .ref 218])) rfl ?_
  refine qle_gd fun h1 => ?_
  refine e_ial (n := 20002) (k := v4.toNatClampNeg) rfl lc_218 ln_218 h1 rfl ?_
  refine e_nI fun z2 => ?_
  refine e_L 1 (f' := (178, [(6, .int z2), (0, .ref 151), (1, .int v1), (2, .int v2), (3, .int v3), (4, .int v4), (5, .int v5)], [])) rfl ?_
  exact qE_sub (qsubL [1, 2, 3, 4, 5, 6, 0] rfl (ks := [6, 0, 1, 2, 3, 4, 5]) rfl (by decide))
set_option maxRecDepth 100000 in
set_option maxHeartbeats 4000000 in
theorem le_X12_layWays_178 (en : pN) (d : Nat) (v1 : Int32) (v2 : Int32) (v3 : Int32) (v4 : Int32) (v5 : Int32) (v6 : Int32) (s : qS) : qle (gd (p_inB (v4 + (1 : Int32)) 20002 = true) (if (s.1 218 (v4 + (1 : Int32)).toNatClampNeg) ≤ v6 then L_X12_layWays_90 en d v1 v2 s else gd (p_inB v6 200001 = true) (nm ((s.1 220 v6.toNatClampNeg) / (10 : Int32)) (fun z4 => if v5 = (4 : Int32) then L_X12_layWays_238 en d v1 v2 v3 v4 v5 v6 z4 (0 : Int32) s else if v5 = z4 then L_X12_layWays_238 en d v1 v2 v3 v4 v5 v6 z4 (0 : Int32) s else gd (p_inB v4 20001 = true) (if ¬ (((s.1 215 v4.toNatClampNeg) >>> (v5 &&& 31)) &&& (1 : Int32)) = (1 : Int32) then L_X12_layWays_238 en d v1 v2 v3 v4 v5 v6 z4 (0 : Int32) s else L_X12_layWays_238 en d v1 v2 v3 v4 v5 v6 z4 (1 : Int32) s))))) (L_X12_layWays_178 en d v1 v2 v3 v4 v5 v6 s) := by
  show qle _ (qE (qev en d) en none tb_X12_layWays (178, [(0, .ref 151), (1, .int v1), (2, .int v2), (3, .int v3), (4, .int v4), (5, .int v5), (6, .int v6)], []) s)
  refine e_L 2 (f' := (181, [(0, .ref 151), (1, .int v1), (2, .int v2), (3, .int v3), (4, .int v4), (5, .int v5), (6, .int v6)], [.ref 151, .int v6])) rfl ?_
  refine e_gR (q := 218) 12 112 rfl rfl lc_151 lr_151_112 ?_
  refine e_L 3 (f' := (188, [(0, .ref 151), (1, .int v1), (2, .int v2), (3, .int v3), (4, .int v4), (5, .int v5), (6, .int v6)], [.int (v4 + (1 : Int32)), .ref 218, .int v6])) rfl ?_
  refine qle_gd fun h1 => ?_
  refine e_ial (n := 20002) (k := (v4 + (1 : Int32)).toNatClampNeg) rfl lc_218 ln_218 h1 rfl ?_
  refine e_icmp 335 rfl rfl rfl (fun c2 => ?_) (fun c2 => ?_)
  · refine e_L 1 (f' := (90, [(0, .ref 151), (1, .int v1), (2, .int v2), (3, .int v3), (4, .int v4), (5, .int v5), (6, .int v6)], [])) rfl ?_
    exact qE_sub (qsubL [0, 1, 2] rfl (ks := [0, 1, 2, 3, 4, 5, 6]) rfl (by decide))
  · refine e_L 1 (f' := (193, [(0, .ref 151), (1, .int v1), (2, .int v2), (3, .int v3), (4, .int v4), (5, .int v5), (6, .int v6)], [.ref 151])) rfl ?_
    refine e_gR (q := 220) 12 114 rfl rfl lc_151 lr_151_114 ?_
    refine e_L 1 (f' := (198, [(0, .ref 151), (1, .int v1), (2, .int v2), (3, .int v3), (4, .int v4), (5, .int v5), (6, .int v6)], [.int v6, .ref 220])) rfl ?_
    refine qle_gd fun h3 => ?_
    refine e_ial (n := 200001) (k := v6.toNatClampNeg) rfl lc_220 ln_220 h3 rfl ?_
    refine e_L 1 (f' := (201, [(0, .ref 151), (1, .int v1), (2, .int v2), (3, .int v3), (4, .int v4), (5, .int v5), (6, .int v6)], [.int (10 : Int32), .int (s.1 220 v6.toNatClampNeg)])) rfl ?_
    refine e_div rfl (by decide) ?_
    refine e_nI fun z4 => ?_
    refine e_L 3 (f' := (207, [(7, .int z4), (0, .ref 151), (1, .int v1), (2, .int v2), (3, .int v3), (4, .int v4), (5, .int v5), (6, .int v6)], [.int (4 : Int32), .int v5])) rfl ?_
    refine e_icmp 237 rfl rfl rfl (fun c5 => ?_) (fun c5 => ?_)
    · refine e_L 1 (f' := (238, [(7, .int z4), (0, .ref 151), (1, .int v1), (2, .int v2), (3, .int v3), (4, .int v4), (5, .int v5), (6, .int v6)], [.int (0 : Int32)])) rfl ?_
      exact qE_sub (qsubL [1, 2, 3, 4, 5, 6, 7, 0] rfl (ks := [7, 0, 1, 2, 3, 4, 5, 6]) rfl (by decide))
    · refine e_L 2 (f' := (214, [(7, .int z4), (0, .ref 151), (1, .int v1), (2, .int v2), (3, .int v3), (4, .int v4), (5, .int v5), (6, .int v6)], [.int z4, .int v5])) rfl ?_
      refine e_icmp 237 rfl rfl rfl (fun c6 => ?_) (fun c6 => ?_)
      · refine e_L 1 (f' := (238, [(7, .int z4), (0, .ref 151), (1, .int v1), (2, .int v2), (3, .int v3), (4, .int v4), (5, .int v5), (6, .int v6)], [.int (0 : Int32)])) rfl ?_
        exact qE_sub (qsubL [1, 2, 3, 4, 5, 6, 7, 0] rfl (ks := [7, 0, 1, 2, 3, 4, 5, 6]) rfl (by decide))
      · refine e_L 1 (f' := (218, [(7, .int z4), (0, .ref 151), (1, .int v1), (2, .int v2), (3, .int v3), (4, .int v4), (5, .int v5), (6, .int v6)], [.ref 151])) rfl ?_
        refine e_gR (q := 215) 12 109 rfl rfl lc_151 lr_151_109 ?_
        refine e_L 1 (f' := (223, [(7, .int z4), (0, .ref 151), (1, .int v1), (2, .int v2), (3, .int v3), (4, .int v4), (5, .int v5), (6, .int v6)], [.int v4, .ref 215])) rfl ?_
        refine qle_gd fun h7 => ?_
        refine e_ial (n := 20001) (k := v4.toNatClampNeg) rfl lc_215 ln_215 h7 rfl ?_
        refine e_L 5 (f' := (230, [(7, .int z4), (0, .ref 151), (1, .int v1), (2, .int v2), (3, .int v3), (4, .int v4), (5, .int v5), (6, .int v6)], [.int (1 : Int32), .int (((s.1 215 v4.toNatClampNeg) >>> (v5 &&& 31)) &&& (1 : Int32))])) rfl ?_
        refine e_icmp 237 rfl rfl rfl (fun c8 => ?_) (fun c8 => ?_)
        · refine e_L 1 (f' := (238, [(7, .int z4), (0, .ref 151), (1, .int v1), (2, .int v2), (3, .int v3), (4, .int v4), (5, .int v5), (6, .int v6)], [.int (0 : Int32)])) rfl ?_
          exact qE_sub (qsubL [1, 2, 3, 4, 5, 6, 7, 0] rfl (ks := [7, 0, 1, 2, 3, 4, 5, 6]) rfl (by decide))
        · refine e_L 2 (f' := (238, [(7, .int z4), (0, .ref 151), (1, .int v1), (2, .int v2), (3, .int v3), (4, .int v4), (5, .int v5), (6, .int v6)], [.int (1 : Int32)])) rfl ?_
          exact qE_sub (qsubL [1, 2, 3, 4, 5, 6, 7, 0] rfl (ks := [7, 0, 1, 2, 3, 4, 5, 6]) rfl (by decide))
set_option maxRecDepth 100000 in
set_option maxHeartbeats 4000000 in
theorem le_X12_layWays_238 (en : pN) (d : Nat) (v1 : Int32) (v2 : Int32) (v3 : Int32) (v4 : Int32) (v5 : Int32) (v6 : Int32) (v7 : Int32) (vs0 : Int32) (s : qS) : qle (gd (p_inB v6 200001 = true) (nm (((5 : Int32) * (s.1 219 v6.toNatClampNeg)) + v7) (fun z2 => gd (p_inB v3 100005 = true) (gd (p_inB z2 100005 = true) (if (s.1 227 z2.toNatClampNeg) ≤ ((s.1 227 v3.toNatClampNeg) + vs0) then L_X12_layWays_178 en d v1 v2 v3 v4 v5 (v6 + (1 : Int32)) s else nm (uI s 227 (z2.toNatClampNeg) ((s.1 227 v3.toNatClampNeg) + vs0)) (fun s6 => if ¬ vs0 = (0 : Int32) then gd (p_inB v2 524288 = true) (nm (uI s6 228 (v2.toNatClampNeg) z2) (fun s9 => nm ((v2 + (1 : Int32)) &&& (524287 : Int32)) (fun z10 => L_X12_layWays_178 en d v1 z10 v3 v4 v5 (v6 + (1 : Int32)) s9))) else nm ((v1 - (1 : Int32)) &&& (524287 : Int32)) (fun z11 => gd (p_inB z11 524288 = true) (nm (uI s6 228 (z11.toNatClampNeg) z2) (fun s13 => L_X12_layWays_178 en d z11 v2 v3 v4 v5 (v6 + (1 : Int32)) s13))))))))) (L_X12_layWays_238 en d v1 v2 v3 v4 v5 v6 v7 vs0 s) := by
  show qle _ (qE (qev en d) en none tb_X12_layWays (238, [(0, .ref 151), (1, .int v1), (2, .int v2), (3, .int v3), (4, .int v4), (5, .int v5), (6, .int v6), (7, .int v7)], [.int vs0]) s)
  refine e_L 3 (f' := (242, [(8, .int vs0), (0, .ref 151), (1, .int v1), (2, .int v2), (3, .int v3), (4, .int v4), (5, .int v5), (6, .int v6), (7, .int v7)], [.ref 151, .int (5 : Int32)])) rfl ?_
  refine e_gR (q := 219) 12 113 rfl rfl lc_151 lr_151_113 ?_
  refine e_L 1 (f' := (247, [(8, .int vs0), (0, .ref 151), (1, .int v1), (2, .int v2), (3, .int v3), (4, .int v4), (5, .int v5), (6, .int v6), (7, .int v7)], [.int v6, .ref 219, .int (5 : Int32)])) rfl ?_
  refine qle_gd fun h1 => ?_
  refine e_ial (n := 200001) (k := v6.toNatClampNeg) rfl lc_219 ln_219 h1 rfl ?_
  refine e_L 3 (f' := (252, [(8, .int vs0), (0, .ref 151), (1, .int v1), (2, .int v2), (3, .int v3), (4, .int v4), (5, .int v5), (6, .int v6), (7, .int v7)], [.int (((5 : Int32) * (s.1 219 v6.toNatClampNeg)) + v7)])) rfl ?_
  refine e_nI fun z2 => ?_
  refine e_L 2 (f' := (255, [(9, .int z2), (8, .int vs0), (0, .ref 151), (1, .int v1), (2, .int v2), (3, .int v3), (4, .int v4), (5, .int v5), (6, .int v6), (7, .int v7)], [.ref 151])) rfl ?_
  refine e_gR (q := 227) 12 124 rfl rfl lc_151 lr_151_124 ?_
  refine e_L 1 (f' := (259, [(9, .int z2), (8, .int vs0), (0, .ref 151), (1, .int v1), (2, .int v2), (3, .int v3), (4, .int v4), (5, .int v5), (6, .int v6), (7, .int v7)], [.int v3, .ref 227])) rfl ?_
  refine qle_gd fun h3 => ?_
  refine e_ial (n := 100005) (k := v3.toNatClampNeg) rfl lc_227 ln_227 h3 rfl ?_
  refine e_L 3 (f' := (264, [(9, .int z2), (8, .int vs0), (0, .ref 151), (1, .int v1), (2, .int v2), (3, .int v3), (4, .int v4), (5, .int v5), (6, .int v6), (7, .int v7)], [.ref 151, .int ((s.1 227 v3.toNatClampNeg) + vs0)])) rfl ?_
  refine e_gR (q := 227) 12 124 rfl rfl lc_151 lr_151_124 ?_
  refine e_L 1 (f' := (269, [(9, .int z2), (8, .int vs0), (0, .ref 151), (1, .int v1), (2, .int v2), (3, .int v3), (4, .int v4), (5, .int v5), (6, .int v6), (7, .int v7)], [.int z2, .ref 227, .int ((s.1 227 v3.toNatClampNeg) + vs0)])) rfl ?_
  refine qle_gd fun h4 => ?_
  refine e_ial (n := 100005) (k := z2.toNatClampNeg) rfl lc_227 ln_227 h4 rfl ?_
  refine e_icmp 329 rfl rfl rfl (fun c5 => ?_) (fun c5 => ?_)
  · refine e_L 2 (f' := (178, [(6, .int (v6 + (1 : Int32))), (9, .int z2), (8, .int vs0), (0, .ref 151), (1, .int v1), (2, .int v2), (3, .int v3), (4, .int v4), (5, .int v5), (7, .int v7)], [])) rfl ?_
    exact qE_sub (qsubL [3, 4, 5, 6, 7, 8, 0] rfl (ks := [6, 9, 8, 0, 1, 2, 3, 4, 5, 7]) rfl (by decide))
  · refine e_L 1 (f' := (274, [(9, .int z2), (8, .int vs0), (0, .ref 151), (1, .int v1), (2, .int v2), (3, .int v3), (4, .int v4), (5, .int v5), (6, .int v6), (7, .int v7)], [.ref 151])) rfl ?_
    refine e_gR (q := 227) 12 124 rfl rfl lc_151 lr_151_124 ?_
    refine e_L 2 (f' := (280, [(9, .int z2), (8, .int vs0), (0, .ref 151), (1, .int v1), (2, .int v2), (3, .int v3), (4, .int v4), (5, .int v5), (6, .int v6), (7, .int v7)], [.ref 151, .int z2, .ref 227])) rfl ?_
    refine e_gR (q := 227) 12 124 rfl rfl lc_151 lr_151_124 ?_
    refine e_L 1 (f' := (284, [(9, .int z2), (8, .int vs0), (0, .ref 151), (1, .int v1), (2, .int v2), (3, .int v3), (4, .int v4), (5, .int v5), (6, .int v6), (7, .int v7)], [.int v3, .ref 227, .int z2, .ref 227])) rfl ?_
    refine e_ial (n := 100005) (k := v3.toNatClampNeg) rfl lc_227 ln_227 h3 rfl ?_
    refine e_L 2 (f' := (288, [(9, .int z2), (8, .int vs0), (0, .ref 151), (1, .int v1), (2, .int v2), (3, .int v3), (4, .int v4), (5, .int v5), (6, .int v6), (7, .int v7)], [.int ((s.1 227 v3.toNatClampNeg) + vs0), .int z2, .ref 227])) rfl ?_
    refine e_ias (n := 100005) (k := z2.toNatClampNeg) rfl lc_227 ln_227 h4 rfl ?_
    refine e_nS fun s6 => ?_
    refine e_L 1 (f' := (291, [(9, .int z2), (8, .int vs0), (0, .ref 151), (1, .int v1), (2, .int v2), (3, .int v3), (4, .int v4), (5, .int v5), (6, .int v6), (7, .int v7)], [.int vs0])) rfl ?_
    refine e_ifz 313 rfl rfl rfl (fun c7 => ?_) (fun c7 => ?_)
    · refine e_L 1 (f' := (314, [(9, .int z2), (8, .int vs0), (0, .ref 151), (1, .int v1), (2, .int v2), (3, .int v3), (4, .int v4), (5, .int v5), (6, .int v6), (7, .int v7)], [.ref 151])) rfl ?_
      refine e_gR (q := 228) 12 125 rfl rfl lc_151 lr_151_125 ?_
      refine e_L 2 (f' := (320, [(9, .int z2), (8, .int vs0), (0, .ref 151), (1, .int v1), (2, .int v2), (3, .int v3), (4, .int v4), (5, .int v5), (6, .int v6), (7, .int v7)], [.int z2, .int v2, .ref 228])) rfl ?_
      refine qle_gd fun h8 => ?_
      refine e_ias (n := 524288) (k := v2.toNatClampNeg) rfl lc_228 ln_228 h8 rfl ?_
      refine e_nS fun s9 => ?_
      refine e_L 3 (f' := (324, [(9, .int z2), (8, .int vs0), (0, .ref 151), (1, .int v1), (2, .int v2), (3, .int v3), (4, .int v4), (5, .int v5), (6, .int v6), (7, .int v7)], [.int (v2 + (1 : Int32))])) rfl ?_
      refine e_ldcw (v := (524287 : Int32)) rfl (by decide +kernel) ?_
      refine e_L 1 (f' := (328, [(9, .int z2), (8, .int vs0), (0, .ref 151), (1, .int v1), (2, .int v2), (3, .int v3), (4, .int v4), (5, .int v5), (6, .int v6), (7, .int v7)], [.int ((v2 + (1 : Int32)) &&& (524287 : Int32))])) rfl ?_
      refine e_nI fun z10 => ?_
      refine e_L 3 (f' := (178, [(6, .int (v6 + (1 : Int32))), (2, .int z10), (9, .int z2), (8, .int vs0), (0, .ref 151), (1, .int v1), (3, .int v3), (4, .int v4), (5, .int v5), (7, .int v7)], [])) rfl ?_
      exact qE_sub (qsubL [4, 5, 1, 6, 7, 8, 0] rfl (ks := [6, 2, 9, 8, 0, 1, 3, 4, 5, 7]) rfl (by decide))
    · refine e_L 3 (f' := (297, [(9, .int z2), (8, .int vs0), (0, .ref 151), (1, .int v1), (2, .int v2), (3, .int v3), (4, .int v4), (5, .int v5), (6, .int v6), (7, .int v7)], [.int (v1 - (1 : Int32))])) rfl ?_
      refine e_ldcw (v := (524287 : Int32)) rfl (by decide +kernel) ?_
      refine e_L 1 (f' := (301, [(9, .int z2), (8, .int vs0), (0, .ref 151), (1, .int v1), (2, .int v2), (3, .int v3), (4, .int v4), (5, .int v5), (6, .int v6), (7, .int v7)], [.int ((v1 - (1 : Int32)) &&& (524287 : Int32))])) rfl ?_
      refine e_nI fun z11 => ?_
      refine e_L 2 (f' := (303, [(1, .int z11), (9, .int z2), (8, .int vs0), (0, .ref 151), (2, .int v2), (3, .int v3), (4, .int v4), (5, .int v5), (6, .int v6), (7, .int v7)], [.ref 151])) rfl ?_
      refine e_gR (q := 228) 12 125 rfl rfl lc_151 lr_151_125 ?_
      refine e_L 2 (f' := (309, [(1, .int z11), (9, .int z2), (8, .int vs0), (0, .ref 151), (2, .int v2), (3, .int v3), (4, .int v4), (5, .int v5), (6, .int v6), (7, .int v7)], [.int z2, .int z11, .ref 228])) rfl ?_
      refine qle_gd fun h12 => ?_
      refine e_ias (n := 524288) (k := z11.toNatClampNeg) rfl lc_228 ln_228 h12 rfl ?_
      refine e_nS fun s13 => ?_
      refine e_L 3 (f' := (178, [(6, .int (v6 + (1 : Int32))), (1, .int z11), (9, .int z2), (8, .int vs0), (0, .ref 151), (2, .int v2), (3, .int v3), (4, .int v4), (5, .int v5), (7, .int v7)], [])) rfl ?_
      exact qE_sub (qsubL [4, 1, 5, 6, 7, 8, 0] rfl (ks := [6, 1, 9, 8, 0, 2, 3, 4, 5, 7]) rfl (by decide))
set_option maxRecDepth 100000 in
set_option maxHeartbeats 4000000 in
theorem le_X12_layWays (en : pN) (d : Nat) (s : qS) : qle (if (s.1 151 121) = (0 : Int32) then nm (uI s 151 121 (1 : Int32)) (fun s2 => L_X12_layWays_15 en d (0 : Int32) s2) else some (none, s)) (qev en (d + 1) 373 [.ref 151] s) := by
  refine e_enter ix_X12_layWays (Nat.le_of_ble_eq_true rfl) ?_
  show qle _ (qE (qev en d) en none tb_X12_layWays (0, [(0, .ref 151)], []) s)
  refine e_L 1 (f' := (1, [(0, .ref 151)], [.ref 151])) rfl ?_
  refine e_gI 12 121 rfl rfl lc_151 ?_
  refine e_ifz 8 rfl rfl rfl (fun c1 => ?_) (fun c1 => ?_)
  · refine e_L 2 (f' := (10, [(0, .ref 151)], [.int (1 : Int32), .ref 151])) rfl ?_
    refine e_pI 12 121 rfl rfl lc_151 (by decide +kernel) ?_
    refine e_nS fun s2 => ?_
    refine e_L 2 (f' := (15, [(1, .int (0 : Int32)), (0, .ref 151)], [])) rfl ?_
    exact qE_sub (qsubL [1, 0] rfl (ks := [1, 0]) rfl (by decide))
  · exact e_rV rfl rfl
