/-! what methods do, printed by program out of their tables: X0_clear .. -/
set_option maxRecDepth 100000 in
set_option maxHeartbeats 4000000 in
theorem le_X0_clear (en : pN) (d : Nat) (a1 : Nat) (s : qS) : qle (gd (lc a1 = 5) (bV (qev en d 435 [.ref 77, .int (-1 : Int32)] s) (fun s2 => bV (qev en d 435 [.ref 78, .int (((1 : Int32) <<< ((s2.1 a1 10) &&& 31)) - (1 : Int32))] s2) (fun s5 => bV (qev en d 435 [.ref 79, .int (0 : Int32)] s5) (fun s8 => bV (qev en d 435 [.ref 80, .int (-2 : Int32)] s8) (fun s11 => nm (uI s11 80 0 (0 : Int32)) (fun s13 => nm (uI s13 80 3 (0 : Int32)) (fun s14 => nm (uI s14 76 6 (0 : Int32)) (fun s15 => some (none, s15)))))))))) (qev en (d + 1) 1 [.ref 76, .ref a1] s) := by
  refine e_enter ix_X0_clear (Nat.le_of_ble_eq_true rfl) ?_
  show qle _ (qE (qev en d) en none tb_X0_clear (0, [(0, .ref 76), (1, .ref a1)], []) s)
  refine qle_gd fun h_a1 => ?_
  refine e_L 1 (f' := (1, [(0, .ref 76), (1, .ref a1)], [.ref 76])) rfl ?_
  refine e_gR (q := 77) 0 0 rfl rfl lc_76 lr_76_0 ?_
  refine e_L 1 (f' := (5, [(0, .ref 76), (1, .ref a1)], [.int (-1 : Int32), .ref 77])) rfl ?_
  refine e_sV 435 rfl rfl rfl ix_J7_fill_53178 rfl (Nat.le_of_ble_eq_true rfl) (fun s2 e3 => ?_)
  refine e_L 1 (f' := (9, [(0, .ref 76), (1, .ref a1)], [.ref 76])) rfl ?_
  refine e_gR (q := 78) 0 1 rfl rfl lc_76 lr_76_1 ?_
  refine e_L 2 (f' := (14, [(0, .ref 76), (1, .ref a1)], [.ref a1, .int (1 : Int32), .ref 78])) rfl ?_
  refine e_gI 5 10 rfl rfl h_a1 ?_
  refine e_L 3 (f' := (20, [(0, .ref 76), (1, .ref a1)], [.int (((1 : Int32) <<< ((s2.1 a1 10) &&& 31)) - (1 : Int32)), .ref 78])) rfl ?_
  refine e_sV 435 rfl rfl rfl ix_J7_fill_53178 rfl (Nat.le_of_ble_eq_true rfl) (fun s5 e6 => ?_)
  refine e_L 1 (f' := (24, [(0, .ref 76), (1, .ref a1)], [.ref 76])) rfl ?_
  refine e_gR (q := 79) 0 2 rfl rfl lc_76 lr_76_2 ?_
  refine e_L 1 (f' := (28, [(0, .ref 76), (1, .ref a1)], [.int (0 : Int32), .ref 79])) rfl ?_
  refine e_sV 435 rfl rfl rfl ix_J7_fill_53178 rfl (Nat.le_of_ble_eq_true rfl) (fun s8 e9 => ?_)
  refine e_L 1 (f' := (32, [(0, .ref 76), (1, .ref a1)], [.ref 76])) rfl ?_
  refine e_gR (q := 80) 0 3 rfl rfl lc_76 lr_76_3 ?_
  refine e_L 1 (f' := (37, [(0, .ref 76), (1, .ref a1)], [.int (-2 : Int32), .ref 80])) rfl ?_
  refine e_sV 435 rfl rfl rfl ix_J7_fill_53178 rfl (Nat.le_of_ble_eq_true rfl) (fun s11 e12 => ?_)
  refine e_L 1 (f' := (41, [(0, .ref 76), (1, .ref a1)], [.ref 76])) rfl ?_
  refine e_gR (q := 80) 0 3 rfl rfl lc_76 lr_76_3 ?_
  refine e_L 2 (f' := (46, [(0, .ref 76), (1, .ref a1)], [.int (0 : Int32), .int (0 : Int32), .ref 80])) rfl ?_
  refine e_ias (n := 5) (k := 0) rfl lc_80 ln_80 (by decide +kernel) (by decide +kernel) ?_
  refine e_nS fun s13 => ?_
  refine e_L 1 (f' := (48, [(0, .ref 76), (1, .ref a1)], [.ref 76])) rfl ?_
  refine e_gR (q := 80) 0 3 rfl rfl lc_76 lr_76_3 ?_
  refine e_L 2 (f' := (53, [(0, .ref 76), (1, .ref a1)], [.int (0 : Int32), .int (3 : Int32), .ref 80])) rfl ?_
  refine e_ias (n := 5) (k := 3) rfl lc_80 ln_80 (by decide +kernel) (by decide +kernel) ?_
  refine e_nS fun s14 => ?_
  refine e_L 2 (f' := (56, [(0, .ref 76), (1, .ref a1)], [.int (0 : Int32), .ref 76])) rfl ?_
  refine e_pI 0 6 rfl rfl lc_76 rfl ?_
  refine e_nS fun s15 => ?_
  exact e_rV rfl rfl
noncomputable def L_X0_see_8 (en : pN) (d : Nat) (r1 : Nat) (v2 : Int32) (r3 : Nat) (v4 : Int32) (s : qS) : Option qR := qE (qev en d) en none tb_X0_see (8, [(0, .ref 76), (1, .ref r1), (2, .int v2), (3, .ref r3), (4, .int v4)], []) s
noncomputable def L_X0_see_56 (en : pN) (d : Nat) (r1 : Nat) (v2 : Int32) (r3 : Nat) (v4 : Int32) (v5 : Int32) (vs0 : Int32) (s : qS) : Option qR := qE (qev en d) en none tb_X0_see (56, [(0, .ref 76), (1, .ref r1), (2, .int v2), (3, .ref r3), (4, .int v4), (5, .int v5)], [.int vs0]) s
noncomputable def L_X0_see_75 (en : pN) (d : Nat) (r1 : Nat) (v2 : Int32) (r3 : Nat) (v4 : Int32) (v5 : Int32) (v6 : Int32) (vs1 : Int32) (vs2 : Int32) (s : qS) : Option qR := qE (qev en d) en none tb_X0_see (75, [(0, .ref 76), (1, .ref r1), (2, .int v2), (3, .ref r3), (4, .int v4), (5, .int v5), (6, .int v6)], [.int vs2, .int vs1, .ref 81]) s
noncomputable def L_X0_see_107 (en : pN) (d : Nat) (r1 : Nat) (v2 : Int32) (r3 : Nat) (v4 : Int32) (v5 : Int32) (v6 : Int32) (v7 : Int32) (s : qS) : Option qR := qE (qev en d) en none tb_X0_see (107, [(0, .ref 76), (1, .ref r1), (2, .int v2), (3, .ref r3), (4, .int v4), (5, .int v5), (6, .int v6), (7, .int v7)], []) s
set_option maxRecDepth 100000 in
set_option maxHeartbeats 4000000 in
theorem le_X0_see_8 (en : pN) (d : Nat) (r1 : Nat) (v2 : Int32) (r3 : Nat) (v4 : Int32) (s : qS) : qle (gd (lc r1 = 3) (gd (lc r3 = 5) (if (s.1 r3 11) ≤ v4 then some (none, s) else gd (p_inB ((4 : Int32) + v4) 236 = true) (nm (s.1 (r1 + 1) ((4 : Int32) + v4).toNatClampNeg) (fun z3 => if z3 < (0 : Int32) then L_X0_see_56 en d r1 v2 r3 v4 z3 (0 : Int32) s else bI (qev en d 103 [.ref r3, .int z3] s) (fun w5 s6 => if w5 = (0 : Int32) then L_X0_see_56 en d r1 v2 r3 v4 z3 (0 : Int32) s6 else bI (qev en d 44 [.ref r1, .int v4] s6) (fun w9 s10 => if w9 ≤ (0 : Int32) then L_X0_see_56 en d r1 v2 r3 v4 z3 (0 : Int32) s10 else L_X0_see_56 en d r1 v2 r3 v4 z3 (1 : Int32) s10))))))) (L_X0_see_8 en d r1 v2 r3 v4 s) := by
  show qle _ (qE (qev en d) en none tb_X0_see (8, [(0, .ref 76), (1, .ref r1), (2, .int v2), (3, .ref r3), (4, .int v4)], []) s)
  refine qle_gd fun h_r1 => ?_
  refine qle_gd fun h_r3 => ?_
  refine e_L 2 (f' := (11, [(0, .ref 76), (1, .ref r1), (2, .int v2), (3, .ref r3), (4, .int v4)], [.ref r3, .int v4])) rfl ?_
  refine e_gI 5 11 rfl rfl h_r3 ?_
  refine e_icmp 186 rfl rfl rfl (fun c1 => ?_) (fun c1 => ?_)
  · exact e_rV rfl rfl
  · refine e_L 1 (f' := (18, [(0, .ref 76), (1, .ref r1), (2, .int v2), (3, .ref r3), (4, .int v4)], [.ref r1])) rfl ?_
    refine e_gR (q := (r1 + 1)) 3 0 rfl rfl h_r1 (fo_3_0 h_r1) ?_
    refine e_L 3 (f' := (25, [(0, .ref 76), (1, .ref r1), (2, .int v2), (3, .ref r3), (4, .int v4)], [.int ((4 : Int32) + v4), .ref (r1 + 1)])) rfl ?_
    refine qle_gd fun h2 => ?_
    refine e_ial (n := 236) (k := ((4 : Int32) + v4).toNatClampNeg) rfl (fc_3_0 h_r1) (fl_3_0 h_r1) h2 rfl ?_
    refine e_nI fun z3 => ?_
    refine e_L 2 (f' := (30, [(5, .int z3), (0, .ref 76), (1, .ref r1), (2, .int v2), (3, .ref r3), (4, .int v4)], [.int z3])) rfl ?_
    refine e_ifz 55 rfl rfl rfl (fun c4 => ?_) (fun c4 => ?_)
    · refine e_L 1 (f' := (56, [(5, .int z3), (0, .ref 76), (1, .ref r1), (2, .int v2), (3, .ref r3), (4, .int v4)], [.int (0 : Int32)])) rfl ?_
      exact qE_sub (qsubL [1, 2, 3, 4, 5, 0] rfl (ks := [5, 0, 1, 2, 3, 4]) rfl (by decide))
    · refine e_L 2 (f' := (36, [(5, .int z3), (0, .ref 76), (1, .ref r1), (2, .int v2), (3, .ref r3), (4, .int v4)], [.int z3, .ref r3])) rfl ?_
      refine e_vI 103 rfl rfl ix_X5_touches rfl (q_recvOf h_r3 rfl) (Nat.le_of_ble_eq_true rfl) (fun w5 s6 e7 => ?_)
      refine e_ifz 55 rfl rfl rfl (fun c8 => ?_) (fun c8 => ?_)
      · refine e_L 1 (f' := (56, [(5, .int z3), (0, .ref 76), (1, .ref r1), (2, .int v2), (3, .ref r3), (4, .int v4)], [.int (0 : Int32)])) rfl ?_
        exact qE_sub (qsubL [1, 2, 3, 4, 5, 0] rfl (ks := [5, 0, 1, 2, 3, 4]) rfl (by decide))
      · refine e_L 2 (f' := (45, [(5, .int z3), (0, .ref 76), (1, .ref r1), (2, .int v2), (3, .ref r3), (4, .int v4)], [.int v4, .ref r1])) rfl ?_
        refine e_vI 44 rfl rfl ix_X3_choices rfl (q_recvOf h_r1 rfl) (Nat.le_of_ble_eq_true rfl) (fun w9 s10 e11 => ?_)
        refine e_ifz 55 rfl rfl rfl (fun c12 => ?_) (fun c12 => ?_)
        · refine e_L 1 (f' := (56, [(5, .int z3), (0, .ref 76), (1, .ref r1), (2, .int v2), (3, .ref r3), (4, .int v4)], [.int (0 : Int32)])) rfl ?_
          exact qE_sub (qsubL [1, 2, 3, 4, 5, 0] rfl (ks := [5, 0, 1, 2, 3, 4]) rfl (by decide))
        · refine e_L 2 (f' := (56, [(5, .int z3), (0, .ref 76), (1, .ref r1), (2, .int v2), (3, .ref r3), (4, .int v4)], [.int (1 : Int32)])) rfl ?_
          exact qE_sub (qsubL [1, 2, 3, 4, 5, 0] rfl (ks := [5, 0, 1, 2, 3, 4]) rfl (by decide))
set_option maxRecDepth 100000 in
set_option maxHeartbeats 4000000 in
theorem le_X0_see_56 (en : pN) (d : Nat) (r1 : Nat) (v2 : Int32) (r3 : Nat) (v4 : Int32) (v5 : Int32) (vs0 : Int32) (s : qS) : qle (gd (lc r1 = 3) (gd (lc r3 = 5) (if vs0 = (0 : Int32) then L_X0_see_75 en d r1 v2 r3 v4 v5 vs0 v4 (-1 : Int32) s else L_X0_see_75 en d r1 v2 r3 v4 v5 vs0 v4 v5 s))) (L_X0_see_56 en d r1 v2 r3 v4 v5 vs0 s) := by
  show qle _ (qE (qev en d) en none tb_X0_see (56, [(0, .ref 76), (1, .ref r1), (2, .int v2), (3, .ref r3), (4, .int v4), (5, .int v5)], [.int vs0]) s)
  refine qle_gd fun h_r1 => ?_
  refine qle_gd fun h_r3 => ?_
  refine e_L 2 (f' := (59, [(6, .int vs0), (0, .ref 76), (1, .ref r1), (2, .int v2), (3, .ref r3), (4, .int v4), (5, .int v5)], [.ref 76])) rfl ?_
  refine e_gR (q := 81) 0 4 rfl rfl lc_76 lr_76_4 ?_
  refine e_L 2 (f' := (66, [(6, .int vs0), (0, .ref 76), (1, .ref r1), (2, .int v2), (3, .ref r3), (4, .int v4), (5, .int v5)], [.int vs0, .int v4, .ref 81])) rfl ?_
  refine e_ifz 74 rfl rfl rfl (fun c1 => ?_) (fun c1 => ?_)
  · refine e_L 1 (f' := (75, [(6, .int vs0), (0, .ref 76), (1, .ref r1), (2, .int v2), (3, .ref r3), (4, .int v4), (5, .int v5)], [.int (-1 : Int32), .int v4, .ref 81])) rfl ?_
    exact qE_sub (qsubL [1, 2, 3, 4, 5, 6, 0] rfl (ks := [6, 0, 1, 2, 3, 4, 5]) rfl (by decide))
  · refine e_L 2 (f' := (75, [(6, .int vs0), (0, .ref 76), (1, .ref r1), (2, .int v2), (3, .ref r3), (4, .int v4), (5, .int v5)], [.int v5, .int v4, .ref 81])) rfl ?_
    exact qE_sub (qsubL [1, 2, 3, 4, 5, 6, 0] rfl (ks := [6, 0, 1, 2, 3, 4, 5]) rfl (by decide))
set_option maxRecDepth 100000 in
set_option maxHeartbeats 4000000 in
theorem le_X0_see_75 (en : pN) (d : Nat) (r1 : Nat) (v2 : Int32) (r3 : Nat) (v4 : Int32) (v5 : Int32) (v6 : Int32) (vs1 : Int32) (vs2 : Int32) (s : qS) : qle (gd (lc r1 = 3) (gd (lc r3 = 5) (gd (p_inB vs1 4 = true) (nm (uI s 81 (vs1.toNatClampNeg) vs2) (fun s2 => if v6 = (0 : Int32) then L_X0_see_107 en d r1 v2 r3 v4 v5 v6 (0 : Int32) s2 else gd (p_inB v5 100 = true) (gd (p_inB (s2.1 (r3 + 9) v5.toNatClampNeg) 8 = true) (bI (qev en d 50 [.ref r1, .int v4] s2) (fun w6 s7 => nm (uI s7 78 ((s2.1 (r3 + 9) v5.toNatClampNeg).toNatClampNeg) ((s2.1 78 (s2.1 (r3 + 9) v5.toNatClampNeg).toNatClampNeg) &&& w6)) (fun s9 => L_X0_see_107 en d r1 v2 r3 v4 v5 v6 (0 : Int32) s9))))))))) (L_X0_see_75 en d r1 v2 r3 v4 v5 v6 vs1 vs2 s) := by
  show qle _ (qE (qev en d) en none tb_X0_see (75, [(0, .ref 76), (1, .ref r1), (2, .int v2), (3, .ref r3), (4, .int v4), (5, .int v5), (6, .int v6)], [.int vs2, .int vs1, .ref 81]) s)
  refine qle_gd fun h_r1 => ?_
  refine qle_gd fun h_r3 => ?_
  refine qle_gd fun h1 => ?_
  refine e_ias (n := 4) (k := vs1.toNatClampNeg) rfl lc_81 ln_81 h1 rfl ?_
  refine e_nS fun s2 => ?_
  refine e_L 1 (f' := (78, [(0, .ref 76), (1, .ref r1), (2, .int v2), (3, .ref r3), (4, .int v4), (5, .int v5), (6, .int v6)], [.int v6])) rfl ?_
  refine e_ifz 104 rfl rfl rfl (fun c3 => ?_) (fun c3 => ?_)
  · refine e_L 2 (f' := (107, [(7, .int (0 : Int32)), (0, .ref 76), (1, .ref r1), (2, .int v2), (3, .ref r3), (4, .int v4), (5, .int v5), (6, .int v6)], [])) rfl ?_
    exact qE_sub (qsubL [1, 2, 3, 4, 5, 6, 7, 0] rfl (ks := [7, 0, 1, 2, 3, 4, 5, 6]) rfl (by decide))
  · refine e_L 1 (f' := (82, [(0, .ref 76), (1, .ref r1), (2, .int v2), (3, .ref r3), (4, .int v4), (5, .int v5), (6, .int v6)], [.ref 76])) rfl ?_
    refine e_gR (q := 78) 0 1 rfl rfl lc_76 lr_76_1 ?_
    refine e_L 1 (f' := (86, [(0, .ref 76), (1, .ref r1), (2, .int v2), (3, .ref r3), (4, .int v4), (5, .int v5), (6, .int v6)], [.ref r3, .ref 78])) rfl ?_
    refine e_gR (q := (r3 + 6)) 5 6 rfl rfl h_r3 (fo_5_6 h_r3) ?_
    refine e_L 1 (f' := (90, [(0, .ref 76), (1, .ref r1), (2, .int v2), (3, .ref r3), (4, .int v4), (5, .int v5), (6, .int v6)], [.int (2 : Int32), .ref (r3 + 6), .ref 78])) rfl ?_
    refine e_aal (n := 18) (q := (r3 + 9)) rfl (fc_5_6 h_r3) (fl_5_6 h_r3) (by decide +kernel) (pe_2 h_r3) ?_
    refine e_L 1 (f' := (93, [(0, .ref 76), (1, .ref r1), (2, .int v2), (3, .ref r3), (4, .int v4), (5, .int v5), (6, .int v6)], [.int v5, .ref (r3 + 9), .ref 78])) rfl ?_
    refine qle_gd fun h4 => ?_
    refine e_ial (n := 100) (k := v5.toNatClampNeg) rfl (pe_c_2 h_r3) (pe_l_2 h_r3) h4 rfl ?_
    refine e_L 1 (f' := (95, [(0, .ref 76), (1, .ref r1), (2, .int v2), (3, .ref r3), (4, .int v4), (5, .int v5), (6, .int v6)], [.int (s2.1 (r3 + 9) v5.toNatClampNeg), .ref 78, .int (s2.1 (r3 + 9) v5.toNatClampNeg), .ref 78])) rfl ?_
    refine qle_gd fun h5 => ?_
    refine e_ial (n := 8) (k := (s2.1 (r3 + 9) v5.toNatClampNeg).toNatClampNeg) rfl lc_78 ln_78 h5 rfl ?_
    refine e_L 2 (f' := (99, [(0, .ref 76), (1, .ref r1), (2, .int v2), (3, .ref r3), (4, .int v4), (5, .int v5), (6, .int v6)], [.int v4, .ref r1, .int (s2.1 78 (s2.1 (r3 + 9) v5.toNatClampNeg).toNatClampNeg), .int (s2.1 (r3 + 9) v5.toNatClampNeg), .ref 78])) rfl ?_
    refine e_vI 50 rfl rfl ix_X3_locksOf rfl (q_recvOf h_r1 rfl) (Nat.le_of_ble_eq_true rfl) (fun w6 s7 e8 => ?_)
    refine e_L 1 (f' := (103, [(0, .ref 76), (1, .ref r1), (2, .int v2), (3, .ref r3), (4, .int v4), (5, .int v5), (6, .int v6)], [.int ((s2.1 78 (s2.1 (r3 + 9) v5.toNatClampNeg).toNatClampNeg) &&& w6), .int (s2.1 (r3 + 9) v5.toNatClampNeg), .ref 78])) rfl ?_
    refine e_ias (n := 8) (k := (s2.1 (r3 + 9) v5.toNatClampNeg).toNatClampNeg) rfl lc_78 ln_78 h5 rfl ?_
    refine e_nS fun s9 => ?_
    refine e_L 2 (f' := (107, [(7, .int (0 : Int32)), (0, .ref 76), (1, .ref r1), (2, .int v2), (3, .ref r3), (4, .int v4), (5, .int v5), (6, .int v6)], [])) rfl ?_
    exact qE_sub (qsubL [1, 2, 3, 4, 5, 6, 7, 0] rfl (ks := [7, 0, 1, 2, 3, 4, 5, 6]) rfl (by decide))
set_option maxRecDepth 100000 in
set_option maxHeartbeats 4000000 in
theorem le_X0_see_107 (en : pN) (d : Nat) (r1 : Nat) (v2 : Int32) (r3 : Nat) (v4 : Int32) (v5 : Int32) (v6 : Int32) (v7 : Int32) (s : qS) : qle (gd (lc r1 = 3) (gd (lc r3 = 5) (if v4 ≤ v7 then L_X0_see_8 en d r1 v2 r3 (v4 + (1 : Int32)) s else if v6 = (0 : Int32) then L_X0_see_107 en d r1 v2 r3 v4 v5 v6 (v7 + (1 : Int32)) s else gd (p_inB v7 4 = true) (if (s.1 81 v7.toNatClampNeg) < (0 : Int32) then L_X0_see_107 en d r1 v2 r3 v4 v5 v6 (v7 + (1 : Int32)) s else bI (qev en d 104 [.ref r3, .int v5, .int (s.1 81 v7.toNatClampNeg)] s) (fun w5 s6 => if w5 = (0 : Int32) then L_X0_see_107 en d r1 v2 r3 v4 v5 v6 (v7 + (1 : Int32)) s6 else bI (qev en d 412 [.int v5, .int (s6.1 81 v7.toNatClampNeg)] s6) (fun w9 s10 => bI (qev en d 411 [.int v5, .int (s10.1 81 v7.toNatClampNeg)] s10) (fun w12 s13 => bV (qev en d 3 [.ref 76, .int w9, .int w12, .int v2] s13) (fun s16 => L_X0_see_107 en d r1 v2 r3 v4 v5 v6 (v7 + (1 : Int32)) s16)))))))) (L_X0_see_107 en d r1 v2 r3 v4 v5 v6 v7 s) := by
  show qle _ (qE (qev en d) en none tb_X0_see (107, [(0, .ref 76), (1, .ref r1), (2, .int v2), (3, .ref r3), (4, .int v4), (5, .int v5), (6, .int v6), (7, .int v7)], []) s)
  refine qle_gd fun h_r1 => ?_
  refine qle_gd fun h_r3 => ?_
  refine e_L 2 (f' := (111, [(0, .ref 76), (1, .ref r1), (2, .int v2), (3, .ref r3), (4, .int v4), (5, .int v5), (6, .int v6), (7, .int v7)], [.int v4, .int v7])) rfl ?_
  refine e_icmp 180 rfl rfl rfl (fun c1 => ?_) (fun c1 => ?_)
  · refine e_L 2 (f' := (8, [(4, .int (v4 + (1 : Int32))), (0, .ref 76), (1, .ref r1), (2, .int v2), (3, .ref r3), (5, .int v5), (6, .int v6), (7, .int v7)], [])) rfl ?_
    exact qE_sub (qsubL [1, 2, 3, 4, 0] rfl (ks := [4, 0, 1, 2, 3, 5, 6, 7]) rfl (by decide))
  · refine e_L 1 (f' := (116, [(0, .ref 76), (1, .ref r1), (2, .int v2), (3, .ref r3), (4, .int v4), (5, .int v5), (6, .int v6), (7, .int v7)], [.int v6])) rfl ?_
    refine e_ifz 174 rfl rfl rfl (fun c2 => ?_) (fun c2 => ?_)
    · refine e_L 2 (f' := (107, [(7, .int (v7 + (1 : Int32))), (0, .ref 76), (1, .ref r1), (2, .int v2), (3, .ref r3), (4, .int v4), (5, .int v5), (6, .int v6)], [])) rfl ?_
      exact qE_sub (qsubL [1, 2, 3, 4, 5, 6, 7, 0] rfl (ks := [7, 0, 1, 2, 3, 4, 5, 6]) rfl (by decide))
    · refine e_L 1 (f' := (120, [(0, .ref 76), (1, .ref r1), (2, .int v2), (3, .ref r3), (4, .int v4), (5, .int v5), (6, .int v6), (7, .int v7)], [.ref 76])) rfl ?_
      refine e_gR (q := 81) 0 4 rfl rfl lc_76 lr_76_4 ?_
      refine e_L 1 (f' := (125, [(0, .ref 76), (1, .ref r1), (2, .int v2), (3, .ref r3), (4, .int v4), (5, .int v5), (6, .int v6), (7, .int v7)], [.int v7, .ref 81])) rfl ?_
      refine qle_gd fun h3 => ?_
      refine e_ial (n := 4) (k := v7.toNatClampNeg) rfl lc_81 ln_81 h3 rfl ?_
      refine e_ifz 174 rfl rfl rfl (fun c4 => ?_) (fun c4 => ?_)
      · refine e_L 2 (f' := (107, [(7, .int (v7 + (1 : Int32))), (0, .ref 76), (1, .ref r1), (2, .int v2), (3, .ref r3), (4, .int v4), (5, .int v5), (6, .int v6)], [])) rfl ?_
        exact qE_sub (qsubL [1, 2, 3, 4, 5, 6, 7, 0] rfl (ks := [7, 0, 1, 2, 3, 4, 5, 6]) rfl (by decide))
      · refine e_L 3 (f' := (133, [(0, .ref 76), (1, .ref r1), (2, .int v2), (3, .ref r3), (4, .int v4), (5, .int v5), (6, .int v6), (7, .int v7)], [.ref 76, .int v5, .ref r3])) rfl ?_
        refine e_gR (q := 81) 0 4 rfl rfl lc_76 lr_76_4 ?_
        refine e_L 1 (f' := (138, [(0, .ref 76), (1, .ref r1), (2, .int v2), (3, .ref r3), (4, .int v4), (5, .int v5), (6, .int v6), (7, .int v7)], [.int v7, .ref 81, .int v5, .ref r3])) rfl ?_
        refine e_ial (n := 4) (k := v7.toNatClampNeg) rfl lc_81 ln_81 h3 rfl ?_
        refine e_vI 104 rfl rfl ix_X5_clash rfl (q_recvOf h_r3 rfl) (Nat.le_of_ble_eq_true rfl) (fun w5 s6 e7 => ?_)
        refine e_ifz 174 rfl rfl rfl (fun c8 => ?_) (fun c8 => ?_)
        · refine e_L 2 (f' := (107, [(7, .int (v7 + (1 : Int32))), (0, .ref 76), (1, .ref r1), (2, .int v2), (3, .ref r3), (4, .int v4), (5, .int v5), (6, .int v6)], [])) rfl ?_
          exact qE_sub (qsubL [1, 2, 3, 4, 5, 6, 7, 0] rfl (ks := [7, 0, 1, 2, 3, 4, 5, 6]) rfl (by decide))
        · refine e_L 3 (f' := (149, [(0, .ref 76), (1, .ref r1), (2, .int v2), (3, .ref r3), (4, .int v4), (5, .int v5), (6, .int v6), (7, .int v7)], [.ref 76, .int v5, .ref 76])) rfl ?_
          refine e_gR (q := 81) 0 4 rfl rfl lc_76 lr_76_4 ?_
          refine e_L 1 (f' := (154, [(0, .ref 76), (1, .ref r1), (2, .int v2), (3, .ref r3), (4, .int v4), (5, .int v5), (6, .int v6), (7, .int v7)], [.int v7, .ref 81, .int v5, .ref 76])) rfl ?_
          refine e_ial (n := 4) (k := v7.toNatClampNeg) rfl lc_81 ln_81 h3 rfl ?_
          refine e_sI 412 rfl rfl rfl ix_J9_min_7cf53 rfl (Nat.le_of_ble_eq_true rfl) (fun w9 s10 e11 => ?_)
          refine e_L 2 (f' := (161, [(0, .ref 76), (1, .ref r1), (2, .int v2), (3, .ref r3), (4, .int v4), (5, .int v5), (6, .int v6), (7, .int v7)], [.ref 76, .int v5, .int w9, .ref 76])) rfl ?_
          refine e_gR (q := 81) 0 4 rfl rfl lc_76 lr_76_4 ?_
          refine e_L 1 (f' := (166, [(0, .ref 76), (1, .ref r1), (2, .int v2), (3, .ref r3), (4, .int v4), (5, .int v5), (6, .int v6), (7, .int v7)], [.int v7, .ref 81, .int v5, .int w9, .ref 76])) rfl ?_
          refine e_ial (n := 4) (k := v7.toNatClampNeg) rfl lc_81 ln_81 h3 rfl ?_
          refine e_sI 411 rfl rfl rfl ix_J9_max_7cf53 rfl (Nat.le_of_ble_eq_true rfl) (fun w12 s13 e14 => ?_)
          refine e_L 1 (f' := (171, [(0, .ref 76), (1, .ref r1), (2, .int v2), (3, .ref r3), (4, .int v4), (5, .int v5), (6, .int v6), (7, .int v7)], [.int v2, .int w12, .int w9, .ref 76])) rfl ?_
          refine e_vV 3 rfl rfl ix_X0_noteRace rfl (q_recvOf lc_76 rfl) (Nat.le_of_ble_eq_true rfl) (fun s16 e17 => ?_)
          refine e_L 2 (f' := (107, [(7, .int (v7 + (1 : Int32))), (0, .ref 76), (1, .ref r1), (2, .int v2), (3, .ref r3), (4, .int v4), (5, .int v5), (6, .int v6)], [])) rfl ?_
          exact qE_sub (qsubL [1, 2, 3, 4, 5, 6, 7, 0] rfl (ks := [7, 0, 1, 2, 3, 4, 5, 6]) rfl (by decide))
set_option maxRecDepth 100000 in
set_option maxHeartbeats 4000000 in
theorem le_X0_see (en : pN) (d : Nat) (a1 : Nat) (a2 : Int32) (s : qS) : qle (gd (lc a1 = 3) (gd (s.2.2 a1 7 ≠ 0 ∧ lc (s.2.2 a1 7 - 1) = 5) (nm (s.2.2 a1 7 - 1) (fun q2 => L_X0_see_8 en d a1 a2 q2 (0 : Int32) s)))) (qev en (d + 1) 2 [.ref 76, .ref a1, .int a2] s) := by
  refine e_enter ix_X0_see (Nat.le_of_ble_eq_true rfl) ?_
  show qle _ (qE (qev en d) en none tb_X0_see (0, [(0, .ref 76), (1, .ref a1), (2, .int a2)], []) s)
  refine qle_gd fun h_a1 => ?_
  refine e_L 1 (f' := (1, [(0, .ref 76), (1, .ref a1), (2, .int a2)], [.ref a1])) rfl ?_
  refine qle_gd fun h1 => ?_
  refine e_gM 3 7 rfl rfl h_a1 h1.1 ?_
  refine e_nR (ci := 5) h1.2 fun q2 h_q2 => ?_
  refine e_L 3 (f' := (8, [(4, .int (0 : Int32)), (3, .ref q2), (0, .ref 76), (1, .ref a1), (2, .int a2)], [])) rfl ?_
  exact qE_sub (qsubL [2, 3, 4, 1, 0] rfl (ks := [4, 3, 0, 1, 2]) rfl (by decide))
set_option maxRecDepth 100000 in
set_option maxHeartbeats 4000000 in
theorem le_X0_noteRace (en : pN) (d : Nat) (a1 : Int32) (a2 : Int32) (a3 : Int32) (s : qS) : qle (gd (p_inB ((a1 * (100 : Int32)) + a2) 10000 = true) (if (0 : Int32) ≤ (s.1 77 ((a1 * (100 : Int32)) + a2).toNatClampNeg) then some (none, s) else nm (uI s 77 (((a1 * (100 : Int32)) + a2).toNatClampNeg) a3) (fun s3 => nm (uI s3 76 6 ((s3.1 76 6) + (1 : Int32))) (fun s4 => some (none, s4))))) (qev en (d + 1) 3 [.ref 76, .int a1, .int a2, .int a3] s) := by
  refine e_enter ix_X0_noteRace (Nat.le_of_ble_eq_true rfl) ?_
  show qle _ (qE (qev en d) en none tb_X0_noteRace (0, [(0, .ref 76), (1, .int a1), (2, .int a2), (3, .int a3)], []) s)
  refine e_L 1 (f' := (1, [(0, .ref 76), (1, .int a1), (2, .int a2), (3, .int a3)], [.ref 76])) rfl ?_
  refine e_gR (q := 77) 0 0 rfl rfl lc_76 lr_76_0 ?_
  refine e_L 5 (f' := (10, [(0, .ref 76), (1, .int a1), (2, .int a2), (3, .int a3)], [.int ((a1 * (100 : Int32)) + a2), .ref 77])) rfl ?_
  refine qle_gd fun h1 => ?_
  refine e_ial (n := 10000) (k := ((a1 * (100 : Int32)) + a2).toNatClampNeg) rfl lc_77 ln_77 h1 rfl ?_
  refine e_ifz 36 rfl rfl rfl (fun c2 => ?_) (fun c2 => ?_)
  · exact e_rV rfl rfl
  · refine e_L 1 (f' := (15, [(0, .ref 76), (1, .int a1), (2, .int a2), (3, .int a3)], [.ref 76])) rfl ?_
    refine e_gR (q := 77) 0 0 rfl rfl lc_76 lr_76_0 ?_
    refine e_L 6 (f' := (25, [(0, .ref 76), (1, .int a1), (2, .int a2), (3, .int a3)], [.int a3, .int ((a1 * (100 : Int32)) + a2), .ref 77])) rfl ?_
    refine e_ias (n := 10000) (k := ((a1 * (100 : Int32)) + a2).toNatClampNeg) rfl lc_77 ln_77 h1 rfl ?_
    refine e_nS fun s3 => ?_
    refine e_L 2 (f' := (28, [(0, .ref 76), (1, .int a1), (2, .int a2), (3, .int a3)], [.ref 76, .ref 76])) rfl ?_
    refine e_gI 0 6 rfl rfl lc_76 ?_
    refine e_L 2 (f' := (33, [(0, .ref 76), (1, .int a1), (2, .int a2), (3, .int a3)], [.int ((s3.1 76 6) + (1 : Int32)), .ref 76])) rfl ?_
    refine e_pI 0 6 rfl rfl lc_76 rfl ?_
    refine e_nS fun s4 => ?_
    exact e_rV rfl rfl
noncomputable def L_X0_findRace_14 (en : pN) (d : Nat) (v1 : Int32) (v2 : Int32) (v3 : Int32) (v4 : Int32) (s : qS) : Option qR := qE (qev en d) en (some .int) tb_X0_findRace (14, [(0, .ref 76), (1, .int v1), (2, .int v2), (3, .int v3), (4, .int v4)], []) s
set_option maxRecDepth 100000 in
set_option maxHeartbeats 4000000 in
theorem le_X0_findRace_14 (en : pN) (d : Nat) (v1 : Int32) (v2 : Int32) (v3 : Int32) (v4 : Int32) (s : qS) : qle (if (10000 : Int32) ≤ v4 then some (some (.int (-1 : Int32)), s) else gd (p_inB v4 10000 = true) (if (s.1 77 v4.toNatClampNeg) < (0 : Int32) then L_X0_findRace_14 en d v1 v2 v3 (v4 + (1 : Int32)) s else if ¬ v3 = v1 then L_X0_findRace_14 en d v1 v2 (v3 + (1 : Int32)) (v4 + (1 : Int32)) s else if ¬ v2 = (0 : Int32) then if ¬ v2 = (1 : Int32) then some (some (.int (s.1 77 v4.toNatClampNeg)), s) else some (some (.int (v4 - v4 / (100 : Int32) * (100 : Int32))), s) else some (some (.int (v4 / (100 : Int32))), s))) (L_X0_findRace_14 en d v1 v2 v3 v4 s) := by
  show qle _ (qE (qev en d) en (some .int) tb_X0_findRace (14, [(0, .ref 76), (1, .int v1), (2, .int v2), (3, .int v3), (4, .int v4)], []) s)
  refine e_L 2 (f' := (19, [(0, .ref 76), (1, .int v1), (2, .int v2), (3, .int v3), (4, .int v4)], [.int (10000 : Int32), .int v4])) rfl ?_
  refine e_icmp 79 rfl rfl rfl (fun c1 => ?_) (fun c1 => ?_)
  · refine e_L 1 (f' := (80, [(0, .ref 76), (1, .int v1), (2, .int v2), (3, .int v3), (4, .int v4)], [.int (-1 : Int32)])) rfl ?_
    exact e_rI rfl rfl
  · refine e_L 1 (f' := (23, [(0, .ref 76), (1, .int v1), (2, .int v2), (3, .int v3), (4, .int v4)], [.ref 76])) rfl ?_
    refine e_gR (q := 77) 0 0 rfl rfl lc_76 lr_76_0 ?_
    refine e_L 1 (f' := (28, [(0, .ref 76), (1, .int v1), (2, .int v2), (3, .int v3), (4, .int v4)], [.int v4, .ref 77])) rfl ?_
    refine qle_gd fun h2 => ?_
    refine e_ial (n := 10000) (k := v4.toNatClampNeg) rfl lc_77 ln_77 h2 rfl ?_
    refine e_ifz 73 rfl rfl rfl (fun c3 => ?_) (fun c3 => ?_)
    · refine e_L 2 (f' := (14, [(4, .int (v4 + (1 : Int32))), (0, .ref 76), (1, .int v1), (2, .int v2), (3, .int v3)], [])) rfl ?_
      exact qE_sub (qsubL [1, 2, 3, 4, 0] rfl (ks := [4, 0, 1, 2, 3]) rfl (by decide))
    · refine e_L 2 (f' := (34, [(0, .ref 76), (1, .int v1), (2, .int v2), (3, .int v3), (4, .int v4)], [.int v1, .int v3])) rfl ?_
      refine e_icmp 70 rfl rfl rfl (fun c4 => ?_) (fun c4 => ?_)
      · refine e_L 3 (f' := (14, [(4, .int (v4 + (1 : Int32))), (3, .int (v3 + (1 : Int32))), (0, .ref 76), (1, .int v1), (2, .int v2)], [])) rfl ?_
        exact qE_sub (qsubL [2, 3, 4, 1, 0] rfl (ks := [4, 3, 0, 1, 2]) rfl (by decide))
      · refine e_L 1 (f' := (38, [(0, .ref 76), (1, .int v1), (2, .int v2), (3, .int v3), (4, .int v4)], [.int v2])) rfl ?_
        refine e_ifz 49 rfl rfl rfl (fun c5 => ?_) (fun c5 => ?_)
        · refine e_L 2 (f' := (51, [(0, .ref 76), (1, .int v1), (2, .int v2), (3, .int v3), (4, .int v4)], [.int (1 : Int32), .int v2])) rfl ?_
          refine e_icmp 62 rfl rfl rfl (fun c6 => ?_) (fun c6 => ?_)
          · refine e_L 1 (f' := (63, [(0, .ref 76), (1, .int v1), (2, .int v2), (3, .int v3), (4, .int v4)], [.ref 76])) rfl ?_
            refine e_gR (q := 77) 0 0 rfl rfl lc_76 lr_76_0 ?_
            refine e_L 1 (f' := (68, [(0, .ref 76), (1, .int v1), (2, .int v2), (3, .int v3), (4, .int v4)], [.int v4, .ref 77])) rfl ?_
            refine e_ial (n := 10000) (k := v4.toNatClampNeg) rfl lc_77 ln_77 h2 rfl ?_
            exact e_rI rfl rfl
          · refine e_L 2 (f' := (58, [(0, .ref 76), (1, .int v1), (2, .int v2), (3, .int v3), (4, .int v4)], [.int (100 : Int32), .int v4])) rfl ?_
            refine e_rem rfl (by decide) ?_
            refine e_L 1 (f' := (69, [(0, .ref 76), (1, .int v1), (2, .int v2), (3, .int v3), (4, .int v4)], [.int (v4 - v4 / (100 : Int32) * (100 : Int32))])) rfl ?_
            exact e_rI rfl rfl
        · refine e_L 2 (f' := (45, [(0, .ref 76), (1, .int v1), (2, .int v2), (3, .int v3), (4, .int v4)], [.int (100 : Int32), .int v4])) rfl ?_
          refine e_div rfl (by decide) ?_
          refine e_L 1 (f' := (69, [(0, .ref 76), (1, .int v1), (2, .int v2), (3, .int v3), (4, .int v4)], [.int (v4 / (100 : Int32))])) rfl ?_
          exact e_rI rfl rfl
set_option maxRecDepth 100000 in
set_option maxHeartbeats 4000000 in
theorem le_X0_findRace (en : pN) (d : Nat) (a1 : Int32) (a2 : Int32) (s : qS) : qle (if (0 : Int32) ≤ a1 then L_X0_findRace_14 en d a1 a2 (0 : Int32) (0 : Int32) s else some (some (.int (s.1 76 6)), s)) (qev en (d + 1) 4 [.ref 76, .int a1, .int a2] s) := by
  refine e_enter ix_X0_findRace (Nat.le_of_ble_eq_true rfl) ?_
  show qle _ (qE (qev en d) en (some .int) tb_X0_findRace (0, [(0, .ref 76), (1, .int a1), (2, .int a2)], []) s)
  refine e_L 1 (f' := (1, [(0, .ref 76), (1, .int a1), (2, .int a2)], [.int a1])) rfl ?_
  refine e_ifz 9 rfl rfl rfl (fun c1 => ?_) (fun c1 => ?_)
  · refine e_L 4 (f' := (14, [(4, .int (0 : Int32)), (3, .int (0 : Int32)), (0, .ref 76), (1, .int a1), (2, .int a2)], [])) rfl ?_
    exact qE_sub (qsubL [2, 3, 4, 1, 0] rfl (ks := [4, 3, 0, 1, 2]) rfl (by decide))
  · refine e_L 1 (f' := (5, [(0, .ref 76), (1, .int a1), (2, .int a2)], [.ref 76])) rfl ?_
    refine e_gI 0 6 rfl rfl lc_76 ?_
    exact e_rI rfl rfl
noncomputable def L_X0_noteTaking_16 (en : pN) (d : Nat) (v3 : Int32) (v4 : Int32) (v5 : Int32) (s : qS) : Option qR := qE (qev en d) en none tb_X0_noteTaking (16, [(0, .ref 76), (3, .int v3), (4, .int v4), (5, .int v5)], []) s
set_option maxRecDepth 100000 in
set_option maxHeartbeats 4000000 in
theorem le_X0_noteTaking_16 (en : pN) (d : Nat) (v3 : Int32) (v4 : Int32) (v5 : Int32) (s : qS) : qle (if (4 : Int32) ≤ v5 then some (none, s) else if v3 < (0 : Int32) then some (none, s) else if ((v4 >>> (v5 &&& 31)) &&& (1 : Int32)) = (0 : Int32) then L_X0_noteTaking_16 en d v3 v4 (v5 + (1 : Int32)) s else if ¬ ((v4 >>> (v3 &&& 31)) &&& (1 : Int32)) = (0 : Int32) then L_X0_noteTaking_16 en d v3 v4 (v5 + (1 : Int32)) s else gd (p_inB v5 4 = true) (nm (uI s 79 (v5.toNatClampNeg) ((s.1 79 v5.toNatClampNeg) ||| ((1 : Int32) <<< (v3 &&& 31)))) (fun s6 => L_X0_noteTaking_16 en d v3 v4 (v5 + (1 : Int32)) s6))) (L_X0_noteTaking_16 en d v3 v4 v5 s) := by
  show qle _ (qE (qev en d) en none tb_X0_noteTaking (16, [(0, .ref 76), (3, .int v3), (4, .int v4), (5, .int v5)], []) s)
  refine e_L 2 (f' := (19, [(0, .ref 76), (3, .int v3), (4, .int v4), (5, .int v5)], [.int (4 : Int32), .int v5])) rfl ?_
  refine e_icmp 64 rfl rfl rfl (fun c1 => ?_) (fun c1 => ?_)
  · exact e_rV rfl rfl
  · refine e_L 1 (f' := (23, [(0, .ref 76), (3, .int v3), (4, .int v4), (5, .int v5)], [.int v3])) rfl ?_
    refine e_ifz 64 rfl rfl rfl (fun c2 => ?_) (fun c2 => ?_)
    · exact e_rV rfl rfl
    · refine e_L 5 (f' := (33, [(0, .ref 76), (3, .int v3), (4, .int v4), (5, .int v5)], [.int ((v4 >>> (v5 &&& 31)) &&& (1 : Int32))])) rfl ?_
      refine e_ifz 58 rfl rfl rfl (fun c3 => ?_) (fun c3 => ?_)
      · refine e_L 2 (f' := (16, [(5, .int (v5 + (1 : Int32))), (0, .ref 76), (3, .int v3), (4, .int v4)], [])) rfl ?_
        exact qE_sub (qsubL [1, 2, 3, 0] rfl (ks := [5, 0, 3, 4]) rfl (by decide))
      · refine e_L 5 (f' := (42, [(0, .ref 76), (3, .int v3), (4, .int v4), (5, .int v5)], [.int ((v4 >>> (v3 &&& 31)) &&& (1 : Int32))])) rfl ?_
        refine e_ifz 58 rfl rfl rfl (fun c4 => ?_) (fun c4 => ?_)
        · refine e_L 2 (f' := (16, [(5, .int (v5 + (1 : Int32))), (0, .ref 76), (3, .int v3), (4, .int v4)], [])) rfl ?_
          exact qE_sub (qsubL [1, 2, 3, 0] rfl (ks := [5, 0, 3, 4]) rfl (by decide))
        · refine e_L 1 (f' := (46, [(0, .ref 76), (3, .int v3), (4, .int v4), (5, .int v5)], [.ref 76])) rfl ?_
          refine e_gR (q := 79) 0 2 rfl rfl lc_76 lr_76_2 ?_
          refine e_L 2 (f' := (52, [(0, .ref 76), (3, .int v3), (4, .int v4), (5, .int v5)], [.int v5, .ref 79, .int v5, .ref 79])) rfl ?_
          refine qle_gd fun h5 => ?_
          refine e_ial (n := 4) (k := v5.toNatClampNeg) rfl lc_79 ln_79 h5 rfl ?_
          refine e_L 4 (f' := (57, [(0, .ref 76), (3, .int v3), (4, .int v4), (5, .int v5)], [.int ((s.1 79 v5.toNatClampNeg) ||| ((1 : Int32) <<< (v3 &&& 31))), .int v5, .ref 79])) rfl ?_
          refine e_ias (n := 4) (k := v5.toNatClampNeg) rfl lc_79 ln_79 h5 rfl ?_
          refine e_nS fun s6 => ?_
          refine e_L 2 (f' := (16, [(5, .int (v5 + (1 : Int32))), (0, .ref 76), (3, .int v3), (4, .int v4)], [])) rfl ?_
          exact qE_sub (qsubL [1, 2, 3, 0] rfl (ks := [5, 0, 3, 4]) rfl (by decide))
set_option maxRecDepth 100000 in
set_option maxHeartbeats 4000000 in
theorem le_X0_noteTaking (en : pN) (d : Nat) (a1 : Nat) (a2 : Int32) (s : qS) : qle (gd (lc a1 = 3) (bI (qev en d 51 [.ref a1, .int a2] s) (fun w1 s2 => bI (qev en d 50 [.ref a1, .int a2] s2) (fun w4 s5 => L_X0_noteTaking_16 en d w1 w4 (0 : Int32) s5)))) (qev en (d + 1) 5 [.ref 76, .ref a1, .int a2] s) := by
  refine e_enter ix_X0_noteTaking (Nat.le_of_ble_eq_true rfl) ?_
  show qle _ (qE (qev en d) en none tb_X0_noteTaking (0, [(0, .ref 76), (1, .ref a1), (2, .int a2)], []) s)
  refine qle_gd fun h_a1 => ?_
  refine e_L 2 (f' := (2, [(0, .ref 76), (1, .ref a1), (2, .int a2)], [.int a2, .ref a1])) rfl ?_
  refine e_vI 51 rfl rfl ix_X3_lockAhead rfl (q_recvOf h_a1 rfl) (Nat.le_of_ble_eq_true rfl) (fun w1 s2 e3 => ?_)
  refine e_L 3 (f' := (8, [(3, .int w1), (0, .ref 76), (1, .ref a1), (2, .int a2)], [.int a2, .ref a1])) rfl ?_
  refine e_vI 50 rfl rfl ix_X3_locksOf rfl (q_recvOf h_a1 rfl) (Nat.le_of_ble_eq_true rfl) (fun w4 s5 e6 => ?_)
  refine e_L 3 (f' := (16, [(5, .int (0 : Int32)), (4, .int w4), (3, .int w1), (0, .ref 76), (1, .ref a1), (2, .int a2)], [])) rfl ?_
  exact qE_sub (qsubL [3, 2, 1, 0] rfl (ks := [5, 4, 3, 0, 1, 2]) rfl (by decide))
noncomputable def L_X0_crossed_16 (en : pN) (d : Nat) (v1 : Int32) (s : qS) : Option qR := qE (qev en d) en (some .int) tb_X0_crossed (16, [(0, .ref 76), (1, .int v1)], []) s
noncomputable def L_X0_crossed_23 (en : pN) (d : Nat) (v1 : Int32) (v2 : Int32) (s : qS) : Option qR := qE (qev en d) en (some .int) tb_X0_crossed (23, [(0, .ref 76), (1, .int v1), (2, .int v2)], []) s
noncomputable def L_X0_crossed_72 (en : pN) (d : Nat) (v1 : Int32) (v2 : Int32) (s : qS) : Option qR := qE (qev en d) en (some .int) tb_X0_crossed (72, [(0, .ref 76), (1, .int v1), (2, .int v2)], []) s
set_option maxRecDepth 100000 in
set_option maxHeartbeats 4000000 in
theorem le_X0_crossed_16 (en : pN) (d : Nat) (v1 : Int32) (s : qS) : qle (if (4 : Int32) ≤ v1 then L_X0_crossed_72 en d (0 : Int32) (0 : Int32) s else L_X0_crossed_23 en d v1 (0 : Int32) s) (L_X0_crossed_16 en d v1 s) := by
  show qle _ (qE (qev en d) en (some .int) tb_X0_crossed (16, [(0, .ref 76), (1, .int v1)], []) s)
  refine e_L 2 (f' := (18, [(0, .ref 76), (1, .int v1)], [.int (4 : Int32), .int v1])) rfl ?_
  refine e_icmp 68 rfl rfl rfl (fun c1 => ?_) (fun c1 => ?_)
  · refine e_L 4 (f' := (72, [(2, .int (0 : Int32)), (1, .int (0 : Int32)), (0, .ref 76)], [])) rfl ?_
    exact qE_sub (qsubL [2, 1, 0] rfl (ks := [2, 1, 0]) rfl (by decide))
  · refine e_L 2 (f' := (23, [(2, .int (0 : Int32)), (0, .ref 76), (1, .int v1)], [])) rfl ?_
    exact qE_sub (qsubL [1, 2, 0] rfl (ks := [2, 0, 1]) rfl (by decide))
set_option maxRecDepth 100000 in
set_option maxHeartbeats 4000000 in
theorem le_X0_crossed_23 (en : pN) (d : Nat) (v1 : Int32) (v2 : Int32) (s : qS) : qle (if (4 : Int32) ≤ v2 then L_X0_crossed_16 en d (v1 + (1 : Int32)) s else gd (p_inB v2 4 = true) (if (((s.1 82 v2.toNatClampNeg) >>> (v1 &&& 31)) &&& (1 : Int32)) = (0 : Int32) then L_X0_crossed_23 en d v1 (v2 + (1 : Int32)) s else gd (p_inB v1 4 = true) (nm (uI s 82 (v2.toNatClampNeg) ((s.1 82 v2.toNatClampNeg) ||| (s.1 82 v1.toNatClampNeg))) (fun s5 => L_X0_crossed_23 en d v1 (v2 + (1 : Int32)) s5)))) (L_X0_crossed_23 en d v1 v2 s) := by
  show qle _ (qE (qev en d) en (some .int) tb_X0_crossed (23, [(0, .ref 76), (1, .int v1), (2, .int v2)], []) s)
  refine e_L 2 (f' := (25, [(0, .ref 76), (1, .int v1), (2, .int v2)], [.int (4 : Int32), .int v2])) rfl ?_
  refine e_icmp 62 rfl rfl rfl (fun c1 => ?_) (fun c1 => ?_)
  · refine e_L 2 (f' := (16, [(1, .int (v1 + (1 : Int32))), (0, .ref 76), (2, .int v2)], [])) rfl ?_
    exact qE_sub (qsubL [1, 0] rfl (ks := [1, 0, 2]) rfl (by decide))
  · refine e_L 1 (f' := (29, [(0, .ref 76), (1, .int v1), (2, .int v2)], [.ref 76])) rfl ?_
    refine e_gR (q := 82) 0 5 rfl rfl lc_76 lr_76_5 ?_
    refine e_L 1 (f' := (33, [(0, .ref 76), (1, .int v1), (2, .int v2)], [.int v2, .ref 82])) rfl ?_
    refine qle_gd fun h2 => ?_
    refine e_ial (n := 4) (k := v2.toNatClampNeg) rfl lc_82 ln_82 h2 rfl ?_
    refine e_L 4 (f' := (38, [(0, .ref 76), (1, .int v1), (2, .int v2)], [.int (((s.1 82 v2.toNatClampNeg) >>> (v1 &&& 31)) &&& (1 : Int32))])) rfl ?_
    refine e_ifz 56 rfl rfl rfl (fun c3 => ?_) (fun c3 => ?_)
    · refine e_L 2 (f' := (23, [(2, .int (v2 + (1 : Int32))), (0, .ref 76), (1, .int v1)], [])) rfl ?_
      exact qE_sub (qsubL [1, 2, 0] rfl (ks := [2, 0, 1]) rfl (by decide))
    · refine e_L 1 (f' := (42, [(0, .ref 76), (1, .int v1), (2, .int v2)], [.ref 76])) rfl ?_
      refine e_gR (q := 82) 0 5 rfl rfl lc_76 lr_76_5 ?_
      refine e_L 2 (f' := (47, [(0, .ref 76), (1, .int v1), (2, .int v2)], [.int v2, .ref 82, .int v2, .ref 82])) rfl ?_
      refine e_ial (n := 4) (k := v2.toNatClampNeg) rfl lc_82 ln_82 h2 rfl ?_
      refine e_L 1 (f' := (49, [(0, .ref 76), (1, .int v1), (2, .int v2)], [.ref 76, .int (s.1 82 v2.toNatClampNeg), .int v2, .ref 82])) rfl ?_
      refine e_gR (q := 82) 0 5 rfl rfl lc_76 lr_76_5 ?_
      refine e_L 1 (f' := (53, [(0, .ref 76), (1, .int v1), (2, .int v2)], [.int v1, .ref 82, .int (s.1 82 v2.toNatClampNeg), .int v2, .ref 82])) rfl ?_
      refine qle_gd fun h4 => ?_
      refine e_ial (n := 4) (k := v1.toNatClampNeg) rfl lc_82 ln_82 h4 rfl ?_
      refine e_L 1 (f' := (55, [(0, .ref 76), (1, .int v1), (2, .int v2)], [.int ((s.1 82 v2.toNatClampNeg) ||| (s.1 82 v1.toNatClampNeg)), .int v2, .ref 82])) rfl ?_
      refine e_ias (n := 4) (k := v2.toNatClampNeg) rfl lc_82 ln_82 h2 rfl ?_
      refine e_nS fun s5 => ?_
      refine e_L 2 (f' := (23, [(2, .int (v2 + (1 : Int32))), (0, .ref 76), (1, .int v1)], [])) rfl ?_
      exact qE_sub (qsubL [1, 2, 0] rfl (ks := [2, 0, 1]) rfl (by decide))
set_option maxRecDepth 100000 in
set_option maxHeartbeats 4000000 in
theorem le_X0_crossed_72 (en : pN) (d : Nat) (v1 : Int32) (v2 : Int32) (s : qS) : qle (if (4 : Int32) ≤ v2 then some (some (.int v1), s) else gd (p_inB v2 4 = true) (nm (v1 ||| (((s.1 82 v2.toNatClampNeg) >>> (v2 &&& 31)) &&& (1 : Int32))) (fun z3 => L_X0_crossed_72 en d z3 (v2 + (1 : Int32)) s))) (L_X0_crossed_72 en d v1 v2 s) := by
  show qle _ (qE (qev en d) en (some .int) tb_X0_crossed (72, [(0, .ref 76), (1, .int v1), (2, .int v2)], []) s)
  refine e_L 2 (f' := (74, [(0, .ref 76), (1, .int v1), (2, .int v2)], [.int (4 : Int32), .int v2])) rfl ?_
  refine e_icmp 96 rfl rfl rfl (fun c1 => ?_) (fun c1 => ?_)
  · refine e_L 1 (f' := (97, [(0, .ref 76), (1, .int v1), (2, .int v2)], [.int v1])) rfl ?_
    exact e_rI rfl rfl
  · refine e_L 2 (f' := (79, [(0, .ref 76), (1, .int v1), (2, .int v2)], [.ref 76, .int v1])) rfl ?_
    refine e_gR (q := 82) 0 5 rfl rfl lc_76 lr_76_5 ?_
    refine e_L 1 (f' := (83, [(0, .ref 76), (1, .int v1), (2, .int v2)], [.int v2, .ref 82, .int v1])) rfl ?_
    refine qle_gd fun h2 => ?_
    refine e_ial (n := 4) (k := v2.toNatClampNeg) rfl lc_82 ln_82 h2 rfl ?_
    refine e_L 5 (f' := (89, [(0, .ref 76), (1, .int v1), (2, .int v2)], [.int (v1 ||| (((s.1 82 v2.toNatClampNeg) >>> (v2 &&& 31)) &&& (1 : Int32)))])) rfl ?_
    refine e_nI fun z3 => ?_
    refine e_L 3 (f' := (72, [(2, .int (v2 + (1 : Int32))), (1, .int z3), (0, .ref 76)], [])) rfl ?_
    exact qE_sub (qsubL [2, 1, 0] rfl (ks := [2, 1, 0]) rfl (by decide))
set_option maxRecDepth 100000 in
set_option maxHeartbeats 4000000 in
theorem le_X0_crossed (en : pN) (d : Nat) (s : qS) : qle (gd (cpG (0 : Int32) (0 : Int32) (4 : Int32) 4 4) (nm (uIr s 82 (va_cpy (s.1 79) (s.1 82) (0 : Int32).toNatClampNeg (0 : Int32).toNatClampNeg (4 : Int32).toNatClampNeg)) (fun s2 => L_X0_crossed_16 en d (0 : Int32) s2))) (qev en (d + 1) 6 [.ref 76] s) := by
  refine e_enter ix_X0_crossed (Nat.le_of_ble_eq_true rfl) ?_
  show qle _ (qE (qev en d) en (some .int) tb_X0_crossed (0, [(0, .ref 76)], []) s)
  refine e_L 1 (f' := (1, [(0, .ref 76)], [.ref 76])) rfl ?_
  refine e_gR (q := 79) 0 2 rfl rfl lc_76 lr_76_2 ?_
  refine e_L 2 (f' := (6, [(0, .ref 76)], [.ref 76, .int (0 : Int32), .ref 79])) rfl ?_
  refine e_gR (q := 82) 0 5 rfl rfl lc_76 lr_76_5 ?_
  refine e_L 2 (f' := (11, [(0, .ref 76)], [.int (4 : Int32), .int (0 : Int32), .ref 82, .int (0 : Int32), .ref 79])) rfl ?_
  refine qle_gd fun h1 => ?_
  refine e_cpI (n0 := 4) (n1 := 4) rfl rfl (Nat.le_of_ble_eq_true rfl) ⟨lc_79, lc_82⟩ ln_79 ln_82 h1 ?_
  refine e_nS fun s2 => ?_
  refine e_L 2 (f' := (16, [(1, .int (0 : Int32)), (0, .ref 76)], [])) rfl ?_
  exact qE_sub (qsubL [1, 0] rfl (ks := [1, 0]) rfl (by decide))
noncomputable def L_X0_seeStuck_5 (en : pN) (d : Nat) (r1 : Nat) (v2 : Int32) (v3 : Int32) (v4 : Int32) (s : qS) : Option qR := qE (qev en d) en none tb_X0_seeStuck (5, [(0, .ref 76), (1, .ref r1), (2, .int v2), (3, .int v3), (4, .int v4)], []) s
noncomputable def L_X0_seeStuck_66 (en : pN) (d : Nat) (v2 : Int32) (v3 : Int32) (s : qS) : Option qR := qE (qev en d) en none tb_X0_seeStuck (66, [(0, .ref 76), (2, .int v2), (3, .int v3)], []) s
set_option maxRecDepth 100000 in
set_option maxHeartbeats 4000000 in
theorem le_X0_seeStuck_5 (en : pN) (d : Nat) (r1 : Nat) (v2 : Int32) (v3 : Int32) (v4 : Int32) (s : qS) : qle (gd (lc r1 = 3) (gd (s.2.2 r1 7 ≠ 0 ∧ lc (s.2.2 r1 7 - 1) = 5) (nm (s.2.2 r1 7 - 1) (fun q2 => if (s.1 q2 11) ≤ v4 then bI (qev en d 9 [.ref 76, .ref r1] s) (fun w4 s5 => if w4 < (0 : Int32) then L_X0_seeStuck_66 en d v2 v3 s5 else bV (qev en d 8 [.ref 76, .int (0 : Int32), .int v2, .int w4] s5) (fun s9 => L_X0_seeStuck_66 en d v2 v3 s9)) else if ¬ v3 = (0 : Int32) then L_X0_seeStuck_5 en d r1 v2 (1 : Int32) (v4 + (1 : Int32)) s else gd (p_inB ((0 : Int32) + v4) 236 = true) (if ¬ (s.1 (r1 + 1) ((0 : Int32) + v4).toNatClampNeg) = (2 : Int32) then L_X0_seeStuck_5 en d r1 v2 (0 : Int32) (v4 + (1 : Int32)) s else L_X0_seeStuck_5 en d r1 v2 (1 : Int32) (v4 + (1 : Int32)) s))))) (L_X0_seeStuck_5 en d r1 v2 v3 v4 s) := by
  show qle _ (qE (qev en d) en none tb_X0_seeStuck (5, [(0, .ref 76), (1, .ref r1), (2, .int v2), (3, .int v3), (4, .int v4)], []) s)
  refine qle_gd fun h_r1 => ?_
  refine e_L 2 (f' := (8, [(0, .ref 76), (1, .ref r1), (2, .int v2), (3, .int v3), (4, .int v4)], [.ref r1, .int v4])) rfl ?_
  refine qle_gd fun h1 => ?_
  refine e_gM 3 7 rfl rfl h_r1 h1.1 ?_
  refine e_nR (ci := 5) h1.2 fun q2 h_q2 => ?_
  refine e_gI 5 11 rfl rfl h_q2 ?_
  refine e_icmp 46 rfl rfl rfl (fun c3 => ?_) (fun c3 => ?_)
  · refine e_L 2 (f' := (48, [(0, .ref 76), (1, .ref r1), (2, .int v2), (3, .int v3), (4, .int v4)], [.ref r1, .ref 76])) rfl ?_
    refine e_vI 9 rfl rfl ix_X0_leastInRing rfl (q_recvOf lc_76 rfl) (Nat.le_of_ble_eq_true rfl) (fun w4 s5 e6 => ?_)
    refine e_L 2 (f' := (55, [(4, .int w4), (0, .ref 76), (1, .ref r1), (2, .int v2), (3, .int v3)], [.int w4])) rfl ?_
    refine e_ifz 66 rfl rfl rfl (fun c7 => ?_) (fun c7 => ?_)
    · exact qE_sub (qsubL [1, 3, 4] rfl (ks := [4, 0, 1, 2, 3]) rfl (by decide))
    · refine e_L 4 (f' := (63, [(4, .int w4), (0, .ref 76), (1, .ref r1), (2, .int v2), (3, .int v3)], [.int w4, .int v2, .int (0 : Int32), .ref 76])) rfl ?_
      refine e_vV 8 rfl rfl ix_X0_noteStuck rfl (q_recvOf lc_76 rfl) (Nat.le_of_ble_eq_true rfl) (fun s9 e10 => ?_)
      exact qE_sub (qsubL [1, 3, 4] rfl (ks := [4, 0, 1, 2, 3]) rfl (by decide))
  · refine e_L 1 (f' := (18, [(0, .ref 76), (1, .ref r1), (2, .int v2), (3, .int v3), (4, .int v4)], [.int v3])) rfl ?_
    refine e_ifz 34 rfl rfl rfl (fun c11 => ?_) (fun c11 => ?_)
    · refine e_L 5 (f' := (5, [(4, .int (v4 + (1 : Int32))), (3, .int (1 : Int32)), (0, .ref 76), (1, .ref r1), (2, .int v2)], [])) rfl ?_
      exact qE_sub (qsubL [2, 3, 4, 1, 0] rfl (ks := [4, 3, 0, 1, 2]) rfl (by decide))
    · refine e_L 1 (f' := (22, [(0, .ref 76), (1, .ref r1), (2, .int v2), (3, .int v3), (4, .int v4)], [.ref r1])) rfl ?_
      refine e_gR (q := (r1 + 1)) 3 0 rfl rfl h_r1 (fo_3_0 h_r1) ?_
      refine e_L 3 (f' := (29, [(0, .ref 76), (1, .ref r1), (2, .int v2), (3, .int v3), (4, .int v4)], [.int ((0 : Int32) + v4), .ref (r1 + 1)])) rfl ?_
      refine qle_gd fun h12 => ?_
      refine e_ial (n := 236) (k := ((0 : Int32) + v4).toNatClampNeg) rfl (fc_3_0 h_r1) (fl_3_0 h_r1) h12 rfl ?_
      refine e_L 1 (f' := (31, [(0, .ref 76), (1, .ref r1), (2, .int v2), (3, .int v3), (4, .int v4)], [.int (2 : Int32), .int (s.1 (r1 + 1) ((0 : Int32) + v4).toNatClampNeg)])) rfl ?_
      refine e_icmp 38 rfl rfl rfl (fun c13 => ?_) (fun c13 => ?_)
      · refine e_L 4 (f' := (5, [(4, .int (v4 + (1 : Int32))), (3, .int (0 : Int32)), (0, .ref 76), (1, .ref r1), (2, .int v2)], [])) rfl ?_
        exact qE_sub (qsubL [2, 3, 4, 1, 0] rfl (ks := [4, 3, 0, 1, 2]) rfl (by decide))
      · refine e_L 5 (f' := (5, [(4, .int (v4 + (1 : Int32))), (3, .int (1 : Int32)), (0, .ref 76), (1, .ref r1), (2, .int v2)], [])) rfl ?_
        exact qE_sub (qsubL [2, 3, 4, 1, 0] rfl (ks := [4, 3, 0, 1, 2]) rfl (by decide))
set_option maxRecDepth 100000 in
set_option maxHeartbeats 4000000 in
theorem le_X0_seeStuck_66 (en : pN) (d : Nat) (v2 : Int32) (v3 : Int32) (s : qS) : qle (if v3 = (0 : Int32) then some (none, s) else bV (qev en d 8 [.ref 76, .int (3 : Int32), .int v2, .int (-2 : Int32)] s) (fun s3 => some (none, s3))) (L_X0_seeStuck_66 en d v2 v3 s) := by
  show qle _ (qE (qev en d) en none tb_X0_seeStuck (66, [(0, .ref 76), (2, .int v2), (3, .int v3)], []) s)
  refine e_L 1 (f' := (67, [(0, .ref 76), (2, .int v2), (3, .int v3)], [.int v3])) rfl ?_
  refine e_ifz 78 rfl rfl rfl (fun c1 => ?_) (fun c1 => ?_)
  · exact e_rV rfl rfl
  · refine e_L 4 (f' := (75, [(0, .ref 76), (2, .int v2), (3, .int v3)], [.int (-2 : Int32), .int v2, .int (3 : Int32), .ref 76])) rfl ?_
    refine e_vV 8 rfl rfl ix_X0_noteStuck rfl (q_recvOf lc_76 rfl) (Nat.le_of_ble_eq_true rfl) (fun s3 e4 => ?_)
    exact e_rV rfl rfl
set_option maxRecDepth 100000 in
set_option maxHeartbeats 4000000 in
theorem le_X0_seeStuck (en : pN) (d : Nat) (a1 : Nat) (a2 : Int32) (s : qS) : qle (gd (lc a1 = 3) (L_X0_seeStuck_5 en d a1 a2 (0 : Int32) (0 : Int32) s)) (qev en (d + 1) 7 [.ref 76, .ref a1, .int a2] s) := by
  refine e_enter ix_X0_seeStuck (Nat.le_of_ble_eq_true rfl) ?_
  show qle _ (qE (qev en d) en none tb_X0_seeStuck (0, [(0, .ref 76), (1, .ref a1), (2, .int a2)], []) s)
  refine qle_gd fun h_a1 => ?_
  refine e_L 4 (f' := (5, [(4, .int (0 : Int32)), (3, .int (0 : Int32)), (0, .ref 76), (1, .ref a1), (2, .int a2)], [])) rfl ?_
  exact qE_sub (qsubL [2, 3, 4, 1, 0] rfl (ks := [4, 3, 0, 1, 2]) rfl (by decide))
noncomputable def L_X0_noteStuck_29 (en : pN) (d : Nat) (v1 : Int32) (s : qS) : Option qR := qE (qev en d) en none tb_X0_noteStuck (29, [(0, .ref 76), (1, .int v1)], []) s
set_option maxRecDepth 100000 in
set_option maxHeartbeats 4000000 in
theorem le_X0_noteStuck_29 (en : pN) (d : Nat) (v1 : Int32) (s : qS) : qle (gd (p_inB v1 5 = true) (nm (uI s 80 (v1.toNatClampNeg) ((s.1 80 v1.toNatClampNeg) + (1 : Int32))) (fun s2 => some (none, s2)))) (L_X0_noteStuck_29 en d v1 s) := by
  show qle _ (qE (qev en d) en none tb_X0_noteStuck (29, [(0, .ref 76), (1, .int v1)], []) s)
  refine e_L 1 (f' := (30, [(0, .ref 76), (1, .int v1)], [.ref 76])) rfl ?_
  refine e_gR (q := 80) 0 3 rfl rfl lc_76 lr_76_3 ?_
  refine e_L 2 (f' := (35, [(0, .ref 76), (1, .int v1)], [.int v1, .ref 80, .int v1, .ref 80])) rfl ?_
  refine qle_gd fun h1 => ?_
  refine e_ial (n := 5) (k := v1.toNatClampNeg) rfl lc_80 ln_80 h1 rfl ?_
  refine e_L 2 (f' := (38, [(0, .ref 76), (1, .int v1)], [.int ((s.1 80 v1.toNatClampNeg) + (1 : Int32)), .int v1, .ref 80])) rfl ?_
  refine e_ias (n := 5) (k := v1.toNatClampNeg) rfl lc_80 ln_80 h1 rfl ?_
  refine e_nS fun s2 => ?_
  exact e_rV rfl rfl
set_option maxRecDepth 100000 in
set_option maxHeartbeats 4000000 in
theorem le_X0_noteStuck (en : pN) (d : Nat) (a1 : Int32) (a2 : Int32) (a3 : Int32) (s : qS) : qle (gd (p_inB a1 5 = true) (if ¬ (s.1 80 a1.toNatClampNeg) = (0 : Int32) then L_X0_noteStuck_29 en d a1 s else gd (p_inB (a1 + (1 : Int32)) 5 = true) (nm (uI s 80 ((a1 + (1 : Int32)).toNatClampNeg) a2) (fun s4 => if ¬ a1 = (0 : Int32) then L_X0_noteStuck_29 en d a1 s4 else nm (uI s4 80 2 a3) (fun s6 => L_X0_noteStuck_29 en d a1 s6))))) (qev en (d + 1) 8 [.ref 76, .int a1, .int a2, .int a3] s) := by
  refine e_enter ix_X0_noteStuck (Nat.le_of_ble_eq_true rfl) ?_
  show qle _ (qE (qev en d) en none tb_X0_noteStuck (0, [(0, .ref 76), (1, .int a1), (2, .int a2), (3, .int a3)], []) s)
  refine e_L 1 (f' := (1, [(0, .ref 76), (1, .int a1), (2, .int a2), (3, .int a3)], [.ref 76])) rfl ?_
  refine e_gR (q := 80) 0 3 rfl rfl lc_76 lr_76_3 ?_
  refine e_L 1 (f' := (5, [(0, .ref 76), (1, .int a1), (2, .int a2), (3, .int a3)], [.int a1, .ref 80])) rfl ?_
  refine qle_gd fun h1 => ?_
  refine e_ial (n := 5) (k := a1.toNatClampNeg) rfl lc_80 ln_80 h1 rfl ?_
  refine e_ifz 29 rfl rfl rfl (fun c2 => ?_) (fun c2 => ?_)
  · exact qE_sub (qsubL [0, 1] rfl (ks := [0, 1, 2, 3]) rfl (by decide))
  · refine e_L 1 (f' := (10, [(0, .ref 76), (1, .int a1), (2, .int a2), (3, .int a3)], [.ref 76])) rfl ?_
    refine e_gR (q := 80) 0 3 rfl rfl lc_76 lr_76_3 ?_
    refine e_L 4 (f' := (17, [(0, .ref 76), (1, .int a1), (2, .int a2), (3, .int a3)], [.int a2, .int (a1 + (1 : Int32)), .ref 80])) rfl ?_
    refine qle_gd fun h3 => ?_
    refine e_ias (n := 5) (k := (a1 + (1 : Int32)).toNatClampNeg) rfl lc_80 ln_80 h3 rfl ?_
    refine e_nS fun s4 => ?_
    refine e_L 1 (f' := (19, [(0, .ref 76), (1, .int a1), (2, .int a2), (3, .int a3)], [.int a1])) rfl ?_
    refine e_ifz 29 rfl rfl rfl (fun c5 => ?_) (fun c5 => ?_)
    · exact qE_sub (qsubL [0, 1] rfl (ks := [0, 1, 2, 3]) rfl (by decide))
    · refine e_L 1 (f' := (23, [(0, .ref 76), (1, .int a1), (2, .int a2), (3, .int a3)], [.ref 76])) rfl ?_
      refine e_gR (q := 80) 0 3 rfl rfl lc_76 lr_76_3 ?_
      refine e_L 2 (f' := (28, [(0, .ref 76), (1, .int a1), (2, .int a2), (3, .int a3)], [.int a3, .int (2 : Int32), .ref 80])) rfl ?_
      refine e_ias (n := 5) (k := 2) rfl lc_80 ln_80 (by decide +kernel) (by decide +kernel) ?_
      refine e_nS fun s6 => ?_
      exact qE_sub (qsubL [0, 1] rfl (ks := [0, 1, 2, 3]) rfl (by decide))
noncomputable def L_X0_leastInRing_2 (en : pN) (d : Nat) (r1 : Nat) (v2 : Int32) (s : qS) : Option qR := qE (qev en d) en (some .int) tb_X0_leastInRing (2, [(1, .ref r1), (2, .int v2)], []) s
noncomputable def L_X0_leastInRing_18 (en : pN) (d : Nat) (r1 : Nat) (v2 : Int32) (v3 : Int32) (v4 : Int32) (s : qS) : Option qR := qE (qev en d) en (some .int) tb_X0_leastInRing (18, [(1, .ref r1), (2, .int v2), (3, .int v3), (4, .int v4)], []) s
noncomputable def L_X0_leastInRing_54 (en : pN) (d : Nat) (r1 : Nat) (v2 : Int32) (v4 : Int32) (vs0 : Int32) (s : qS) : Option qR := qE (qev en d) en (some .int) tb_X0_leastInRing (54, [(1, .ref r1), (2, .int v2), (4, .int v4)], [.int vs0]) s
set_option maxRecDepth 100000 in
set_option maxHeartbeats 4000000 in
theorem le_X0_leastInRing_2 (en : pN) (d : Nat) (r1 : Nat) (v2 : Int32) (s : qS) : qle (gd (lc r1 = 3) (gd (s.2.2 r1 7 ≠ 0 ∧ lc (s.2.2 r1 7 - 1) = 5) (nm (s.2.2 r1 7 - 1) (fun q2 => if (s.1 q2 11) ≤ v2 then some (some (.int (-1 : Int32)), s) else L_X0_leastInRing_18 en d r1 v2 v2 (0 : Int32) s)))) (L_X0_leastInRing_2 en d r1 v2 s) := by
  show qle _ (qE (qev en d) en (some .int) tb_X0_leastInRing (2, [(1, .ref r1), (2, .int v2)], []) s)
  refine qle_gd fun h_r1 => ?_
  refine e_L 2 (f' := (4, [(1, .ref r1), (2, .int v2)], [.ref r1, .int v2])) rfl ?_
  refine qle_gd fun h1 => ?_
  refine e_gM 3 7 rfl rfl h_r1 h1.1 ?_
  refine e_nR (ci := 5) h1.2 fun q2 h_q2 => ?_
  refine e_gI 5 11 rfl rfl h_q2 ?_
  refine e_icmp 74 rfl rfl rfl (fun c3 => ?_) (fun c3 => ?_)
  · refine e_L 1 (f' := (75, [(1, .ref r1), (2, .int v2)], [.int (-1 : Int32)])) rfl ?_
    exact e_rI rfl rfl
  · refine e_L 4 (f' := (18, [(4, .int (0 : Int32)), (3, .int v2), (1, .ref r1), (2, .int v2)], [])) rfl ?_
    exact qE_sub (qsubL [2, 3, 1, 0] rfl (ks := [4, 3, 1, 2]) rfl (by decide))
set_option maxRecDepth 100000 in
set_option maxHeartbeats 4000000 in
theorem le_X0_leastInRing_18 (en : pN) (d : Nat) (r1 : Nat) (v2 : Int32) (v3 : Int32) (v4 : Int32) (s : qS) : qle (gd (lc r1 = 3) (if (4 : Int32) ≤ v4 then L_X0_leastInRing_2 en d r1 (v2 + (1 : Int32)) s else if v3 < (0 : Int32) then L_X0_leastInRing_2 en d r1 (v2 + (1 : Int32)) s else bI (qev en d 51 [.ref r1, .int v3] s) (fun w3 s4 => if (0 : Int32) ≤ w3 then gd (p_inB ((40 : Int32) + w3) 236 = true) (L_X0_leastInRing_54 en d r1 v2 v4 (s4.1 (r1 + 1) ((40 : Int32) + w3).toNatClampNeg) s4) else L_X0_leastInRing_54 en d r1 v2 v4 (-1 : Int32) s4))) (L_X0_leastInRing_18 en d r1 v2 v3 v4 s) := by
  show qle _ (qE (qev en d) en (some .int) tb_X0_leastInRing (18, [(1, .ref r1), (2, .int v2), (3, .int v3), (4, .int v4)], []) s)
  refine qle_gd fun h_r1 => ?_
  refine e_L 2 (f' := (21, [(1, .ref r1), (2, .int v2), (3, .int v3), (4, .int v4)], [.int (4 : Int32), .int v4])) rfl ?_
  refine e_icmp 68 rfl rfl rfl (fun c1 => ?_) (fun c1 => ?_)
  · refine e_L 2 (f' := (2, [(2, .int (v2 + (1 : Int32))), (1, .ref r1), (3, .int v3), (4, .int v4)], [])) rfl ?_
    exact qE_sub (qsubL [1, 0] rfl (ks := [2, 1, 3, 4]) rfl (by decide))
  · refine e_L 1 (f' := (25, [(1, .ref r1), (2, .int v2), (3, .int v3), (4, .int v4)], [.int v3])) rfl ?_
    refine e_ifz 68 rfl rfl rfl (fun c2 => ?_) (fun c2 => ?_)
    · refine e_L 2 (f' := (2, [(2, .int (v2 + (1 : Int32))), (1, .ref r1), (3, .int v3), (4, .int v4)], [])) rfl ?_
      exact qE_sub (qsubL [1, 0] rfl (ks := [2, 1, 3, 4]) rfl (by decide))
    · refine e_L 2 (f' := (30, [(1, .ref r1), (2, .int v2), (3, .int v3), (4, .int v4)], [.int v3, .ref r1])) rfl ?_
      refine e_vI 51 rfl rfl ix_X3_lockAhead rfl (q_recvOf h_r1 rfl) (Nat.le_of_ble_eq_true rfl) (fun w3 s4 e5 => ?_)
      refine e_L 2 (f' := (37, [(5, .int w3), (1, .ref r1), (2, .int v2), (3, .int v3), (4, .int v4)], [.int w3])) rfl ?_
      refine e_ifz 44 rfl rfl rfl (fun c6 => ?_) (fun c6 => ?_)
      · refine e_L 1 (f' := (45, [(5, .int w3), (1, .ref r1), (2, .int v2), (3, .int v3), (4, .int v4)], [.ref r1])) rfl ?_
        refine e_gR (q := (r1 + 1)) 3 0 rfl rfl h_r1 (fo_3_0 h_r1) ?_
        refine e_L 3 (f' := (53, [(5, .int w3), (1, .ref r1), (2, .int v2), (3, .int v3), (4, .int v4)], [.int ((40 : Int32) + w3), .ref (r1 + 1)])) rfl ?_
        refine qle_gd fun h7 => ?_
        refine e_ial (n := 236) (k := ((40 : Int32) + w3).toNatClampNeg) rfl (fc_3_0 h_r1) (fl_3_0 h_r1) h7 rfl ?_
        exact qE_sub (qsubL [1, 2, 4] rfl (ks := [5, 1, 2, 3, 4]) rfl (by decide))
      · refine e_L 2 (f' := (54, [(5, .int w3), (1, .ref r1), (2, .int v2), (3, .int v3), (4, .int v4)], [.int (-1 : Int32)])) rfl ?_
        exact qE_sub (qsubL [1, 2, 4] rfl (ks := [5, 1, 2, 3, 4]) rfl (by decide))
set_option maxRecDepth 100000 in
set_option maxHeartbeats 4000000 in
theorem le_X0_leastInRing_54 (en : pN) (d : Nat) (r1 : Nat) (v2 : Int32) (v4 : Int32) (vs0 : Int32) (s : qS) : qle (gd (lc r1 = 3) (if ¬ vs0 = v2 then L_X0_leastInRing_18 en d r1 v2 vs0 (v4 + (1 : Int32)) s else some (some (.int v2), s))) (L_X0_leastInRing_54 en d r1 v2 v4 vs0 s) := by
  show qle _ (qE (qev en d) en (some .int) tb_X0_leastInRing (54, [(1, .ref r1), (2, .int v2), (4, .int v4)], [.int vs0]) s)
  refine qle_gd fun h_r1 => ?_
  refine e_L 3 (f' := (57, [(3, .int vs0), (1, .ref r1), (2, .int v2), (4, .int v4)], [.int v2, .int vs0])) rfl ?_
  refine e_icmp 62 rfl rfl rfl (fun c1 => ?_) (fun c1 => ?_)
  · refine e_L 2 (f' := (18, [(4, .int (v4 + (1 : Int32))), (3, .int vs0), (1, .ref r1), (2, .int v2)], [])) rfl ?_
    exact qE_sub (qsubL [2, 3, 1, 0] rfl (ks := [4, 3, 1, 2]) rfl (by decide))
  · refine e_L 1 (f' := (61, [(3, .int vs0), (1, .ref r1), (2, .int v2), (4, .int v4)], [.int v2])) rfl ?_
    exact e_rI rfl rfl
set_option maxRecDepth 100000 in
set_option maxHeartbeats 4000000 in
theorem le_X0_leastInRing (en : pN) (d : Nat) (a1 : Nat) (s : qS) : qle (gd (lc a1 = 3) (L_X0_leastInRing_2 en d a1 (0 : Int32) s)) (qev en (d + 1) 9 [.ref 76, .ref a1] s) := by
  refine e_enter ix_X0_leastInRing (Nat.le_of_ble_eq_true rfl) ?_
  show qle _ (qE (qev en d) en (some .int) tb_X0_leastInRing (0, [(0, .ref 76), (1, .ref a1)], []) s)
  refine qle_gd fun h_a1 => ?_
  refine e_L 2 (f' := (2, [(2, .int (0 : Int32)), (0, .ref 76), (1, .ref a1)], [])) rfl ?_
  exact qE_sub (qsubL [2, 0] rfl (ks := [2, 0, 1]) rfl (by decide))
noncomputable def L_X1_arrange_35 (en : pN) (d : Nat) (v3 : Int32) (s : qS) : Option qR := qE (qev en d) en (some .int) tb_X1_arrange (35, [(0, .ref 125), (3, .int v3)], []) s
set_option maxRecDepth 100000 in
set_option maxHeartbeats 4000000 in
theorem le_X1_arrange_35 (en : pN) (d : Nat) (v3 : Int32) (s : qS) : qle (if (s.1 125 8) ≤ v3 then nm (uI s 134 0 (0 : Int32)) (fun s2 => nm (uI s2 147 0 (0 : Int32)) (fun s3 => bI (qev en d 14 [.ref 125, .int (0 : Int32), .int (0 : Int32)] s3) (fun w4 s5 => if ¬ w4 = (0 : Int32) then gd (cpG (0 : Int32) (0 : Int32) (s5.1 125 7) 12 12) (nm (uIr s5 150 (va_cpy (s5.1 149) (s5.1 150) (0 : Int32).toNatClampNeg (0 : Int32).toNatClampNeg (s5.1 125 7).toNatClampNeg)) (fun s9 => nm (uI s9 125 6 (s9.1 125 7)) (fun s10 => some (some (.int (1 : Int32)), s10)))) else some (some (.int (0 : Int32)), s5)))) else gd (p_inB v3 200 = true) (if (s.1 131 v3.toNatClampNeg) < (0 : Int32) then L_X1_arrange_35 en d (v3 + (1 : Int32)) s else nm (uI s 125 9 ((s.1 125 9) ||| ((1 : Int32) <<< (v3 &&& 31)))) (fun s13 => L_X1_arrange_35 en d (v3 + (1 : Int32)) s13))) (L_X1_arrange_35 en d v3 s) := by
  show qle _ (qE (qev en d) en (some .int) tb_X1_arrange (35, [(0, .ref 125), (3, .int v3)], []) s)
  refine e_L 2 (f' := (37, [(0, .ref 125), (3, .int v3)], [.ref 125, .int v3])) rfl ?_
  refine e_gI 1 8 rfl rfl lc_125 ?_
  refine e_icmp 72 rfl rfl rfl (fun c1 => ?_) (fun c1 => ?_)
  · refine e_L 1 (f' := (73, [(0, .ref 125), (3, .int v3)], [.ref 125])) rfl ?_
    refine e_gR (q := 133) 1 1 rfl rfl lc_125 lr_125_1 ?_
    refine e_L 1 (f' := (77, [(0, .ref 125), (3, .int v3)], [.int (0 : Int32), .ref 133])) rfl ?_
    refine e_aal (n := 13) (q := 134) rfl lc_133 ln_133 (by decide +kernel) (by decide +kernel) ?_
    refine e_L 2 (f' := (80, [(0, .ref 125), (3, .int v3)], [.int (0 : Int32), .int (0 : Int32), .ref 134])) rfl ?_
    refine e_ias (n := 13) (k := 0) rfl lc_134 ln_134 (by decide +kernel) (by decide +kernel) ?_
    refine e_nS fun s2 => ?_
    refine e_L 1 (f' := (82, [(0, .ref 125), (3, .int v3)], [.ref 125])) rfl ?_
    refine e_gR (q := 147) 1 2 rfl rfl lc_125 lr_125_2 ?_
    refine e_L 2 (f' := (87, [(0, .ref 125), (3, .int v3)], [.int (0 : Int32), .int (0 : Int32), .ref 147])) rfl ?_
    refine e_ias (n := 13) (k := 0) rfl lc_147 ln_147 (by decide +kernel) (by decide +kernel) ?_
    refine e_nS fun s3 => ?_
    refine e_L 3 (f' := (91, [(0, .ref 125), (3, .int v3)], [.int (0 : Int32), .int (0 : Int32), .ref 125])) rfl ?_
    refine e_vI 14 rfl rfl ix_X1_extend rfl (q_recvOf lc_125 rfl) (Nat.le_of_ble_eq_true rfl) (fun w4 s5 e6 => ?_)
    refine e_ifz 99 rfl rfl rfl (fun c7 => ?_) (fun c7 => ?_)
    · refine e_L 1 (f' := (100, [(0, .ref 125), (3, .int v3)], [.ref 125])) rfl ?_
      refine e_gR (q := 149) 1 4 rfl rfl lc_125 lr_125_4 ?_
      refine e_L 2 (f' := (105, [(0, .ref 125), (3, .int v3)], [.ref 125, .int (0 : Int32), .ref 149])) rfl ?_
      refine e_gR (q := 150) 1 5 rfl rfl lc_125 lr_125_5 ?_
      refine e_L 2 (f' := (110, [(0, .ref 125), (3, .int v3)], [.ref 125, .int (0 : Int32), .ref 150, .int (0 : Int32), .ref 149])) rfl ?_
      refine e_gI 1 7 rfl rfl lc_125 ?_
      refine qle_gd fun h8 => ?_
      refine e_cpI (n0 := 12) (n1 := 12) rfl rfl (Nat.le_of_ble_eq_true rfl) ⟨lc_149, lc_150⟩ ln_149 ln_150 h8 ?_
      refine e_nS fun s9 => ?_
      refine e_L 2 (f' := (118, [(0, .ref 125), (3, .int v3)], [.ref 125, .ref 125])) rfl ?_
      refine e_gI 1 7 rfl rfl lc_125 ?_
      refine e_pI 1 6 rfl rfl lc_125 rfl ?_
      refine e_nS fun s10 => ?_
      refine e_L 1 (f' := (125, [(0, .ref 125), (3, .int v3)], [.int (1 : Int32)])) rfl ?_
      exact e_rI rfl rfl
    · refine e_L 1 (f' := (98, [(0, .ref 125), (3, .int v3)], [.int (0 : Int32)])) rfl ?_
      exact e_rI rfl rfl
  · refine e_L 1 (f' := (44, [(0, .ref 125), (3, .int v3)], [.ref 125])) rfl ?_
    refine e_gR (q := 126) 1 0 rfl rfl lc_125 lr_125_0 ?_
    refine e_L 1 (f' := (48, [(0, .ref 125), (3, .int v3)], [.int (4 : Int32), .ref 126])) rfl ?_
    refine e_aal (n := 6) (q := 131) rfl lc_126 ln_126 (by decide +kernel) (by decide +kernel) ?_
    refine e_L 1 (f' := (50, [(0, .ref 125), (3, .int v3)], [.int v3, .ref 131])) rfl ?_
    refine qle_gd fun h11 => ?_
    refine e_ial (n := 200) (k := v3.toNatClampNeg) rfl lc_131 ln_131 h11 rfl ?_
    refine e_ifz 66 rfl rfl rfl (fun c12 => ?_) (fun c12 => ?_)
    · refine e_L 2 (f' := (35, [(3, .int (v3 + (1 : Int32))), (0, .ref 125)], [])) rfl ?_
      exact qE_sub (qsubL [1, 0] rfl (ks := [3, 0]) rfl (by decide))
    · refine e_L 2 (f' := (56, [(0, .ref 125), (3, .int v3)], [.ref 125, .ref 125])) rfl ?_
      refine e_gI 1 9 rfl rfl lc_125 ?_
      refine e_L 4 (f' := (63, [(0, .ref 125), (3, .int v3)], [.int ((s.1 125 9) ||| ((1 : Int32) <<< (v3 &&& 31))), .ref 125])) rfl ?_
      refine e_pI 1 9 rfl rfl lc_125 rfl ?_
      refine e_nS fun s13 => ?_
      refine e_L 2 (f' := (35, [(3, .int (v3 + (1 : Int32))), (0, .ref 125)], [])) rfl ?_
      exact qE_sub (qsubL [1, 0] rfl (ks := [3, 0]) rfl (by decide))
set_option maxRecDepth 100000 in
set_option maxHeartbeats 4000000 in
theorem le_X1_arrange (en : pN) (d : Nat) (a2 : Int32) (s : qS) : qle (nm (uI s 125 10 a2) (fun s1 => bI (qev en d 12 [.ref 125, .ref 111] s1) (fun w2 s3 => if ¬ w2 = (0 : Int32) then if (s3.1 125 8) ≤ (12 : Int32) then nm (uI s3 125 9 (0 : Int32)) (fun s7 => L_X1_arrange_35 en d (0 : Int32) s7) else some (some (.int (-3 : Int32)), s3) else some (some (.int (-2 : Int32)), s3)))) (qev en (d + 1) 11 [.ref 125, .ref 111, .int a2] s) := by
  refine e_enter ix_X1_arrange (Nat.le_of_ble_eq_true rfl) ?_
  show qle _ (qE (qev en d) en (some .int) tb_X1_arrange (0, [(0, .ref 125), (1, .ref 111), (2, .int a2)], []) s)
  refine e_L 2 (f' := (2, [(0, .ref 125), (1, .ref 111), (2, .int a2)], [.int a2, .ref 125])) rfl ?_
  refine e_pI 1 10 rfl rfl lc_125 rfl ?_
  refine e_nS fun s1 => ?_
  refine e_L 2 (f' := (7, [(0, .ref 125), (1, .ref 111), (2, .int a2)], [.ref 111, .ref 125])) rfl ?_
  refine e_vI 12 rfl rfl ix_X1_gather rfl (q_recvOf lc_125 rfl) (Nat.le_of_ble_eq_true rfl) (fun w2 s3 e4 => ?_)
  refine e_ifz 16 rfl rfl rfl (fun c5 => ?_) (fun c5 => ?_)
  · refine e_L 1 (f' := (17, [(0, .ref 125), (1, .ref 111), (2, .int a2)], [.ref 125])) rfl ?_
    refine e_gI 1 8 rfl rfl lc_125 ?_
    refine e_L 1 (f' := (22, [(0, .ref 125), (1, .ref 111), (2, .int a2)], [.int (12 : Int32), .int (s3.1 125 8)])) rfl ?_
    refine e_icmp 28 rfl rfl rfl (fun c6 => ?_) (fun c6 => ?_)
    · refine e_L 2 (f' := (30, [(0, .ref 125), (1, .ref 111), (2, .int a2)], [.int (0 : Int32), .ref 125])) rfl ?_
      refine e_pI 1 9 rfl rfl lc_125 rfl ?_
      refine e_nS fun s7 => ?_
      refine e_L 2 (f' := (35, [(3, .int (0 : Int32)), (0, .ref 125), (1, .ref 111), (2, .int a2)], [])) rfl ?_
      exact qE_sub (qsubL [1, 0] rfl (ks := [3, 0, 1, 2]) rfl (by decide))
    · refine e_L 1 (f' := (27, [(0, .ref 125), (1, .ref 111), (2, .int a2)], [.int (-3 : Int32)])) rfl ?_
      exact e_rI rfl rfl
  · refine e_L 1 (f' := (15, [(0, .ref 125), (1, .ref 111), (2, .int a2)], [.int (-2 : Int32)])) rfl ?_
    exact e_rI rfl rfl
noncomputable def L_X1_gather_15 (en : pN) (d : Nat) (v2 : Int32) (s : qS) : Option qR := qE (qev en d) en (some .boolean) tb_X1_gather (15, [(0, .ref 125), (1, .ref 111), (2, .int v2)], []) s
noncomputable def L_X1_gather_106 (en : pN) (d : Nat) (v2 : Int32) (v3 : Int32) (v4 : Int32) (s : qS) : Option qR := qE (qev en d) en (some .boolean) tb_X1_gather (106, [(0, .ref 125), (1, .ref 111), (2, .int v2), (3, .int v3), (4, .int v4)], []) s
set_option maxRecDepth 100000 in
set_option maxHeartbeats 4000000 in
theorem le_X1_gather_15 (en : pN) (d : Nat) (v2 : Int32) (s : qS) : qle (if (s.1 111 3) ≤ v2 then some (some (.int (1 : Int32)), s) else gd (p_inB v2 200 = true) (nm (s.1 118 v2.toNatClampNeg) (fun z3 => if ¬ (s.1 121 v2.toNatClampNeg) = (15 : Int32) then if ¬ (s.1 121 v2.toNatClampNeg) = (16 : Int32) then L_X1_gather_15 en d (v2 + (1 : Int32)) s else gd (p_inB z3 4 = true) (if (0 : Int32) ≤ (s.1 148 z3.toNatClampNeg) then gd (p_inB (s.1 148 z3.toNatClampNeg) 200 = true) (nm (uI s 131 ((s.1 148 z3.toNatClampNeg).toNatClampNeg) v2) (fun s9 => gd (p_inB (s9.1 148 z3.toNatClampNeg) 200 = true) (nm (uI s9 132 ((s9.1 148 z3.toNatClampNeg).toNatClampNeg) (s9.1 123 v2.toNatClampNeg)) (fun s11 => nm (uI s11 148 (z3.toNatClampNeg) (-1 : Int32)) (fun s12 => L_X1_gather_15 en d (v2 + (1 : Int32)) s12))))) else some (some (.int (0 : Int32)), s)) else gd (s.2.2 112 7 ≠ 0 ∧ lc (s.2.2 112 7 - 1) = 5) (nm (s.2.2 112 7 - 1) (fun q14 => gd (p_inB (s.1 120 v2.toNatClampNeg) 100 = true) (nm (s.1 (q14 + 16) (s.1 120 v2.toNatClampNeg).toNatClampNeg) (fun z16 => gd (p_inB z3 4 = true) (if (0 : Int32) ≤ (s.1 148 z3.toNatClampNeg) then some (some (.int (0 : Int32)), s) else gd (p_inB (s.1 125 10) 4 = true) (if z16 = (([0, 2, 3, 5] : List Int32).getD (s.1 125 10).toNatClampNeg 0) then L_X1_gather_106 en d v2 z3 z16 s else if z16 = (([1, 1, 4, 6] : List Int32).getD (s.1 125 10).toNatClampNeg 0) then L_X1_gather_106 en d v2 z3 z16 s else some (some (.int (0 : Int32)), s)))))))))) (L_X1_gather_15 en d v2 s) := by
  show qle _ (qE (qev en d) en (some .boolean) tb_X1_gather (15, [(0, .ref 125), (1, .ref 111), (2, .int v2)], []) s)
  refine e_L 2 (f' := (17, [(0, .ref 125), (1, .ref 111), (2, .int v2)], [.ref 111, .int v2])) rfl ?_
  refine e_gI 8 3 rfl rfl lc_111 ?_
  refine e_icmp 207 rfl rfl rfl (fun c1 => ?_) (fun c1 => ?_)
  · refine e_L 1 (f' := (208, [(0, .ref 125), (1, .ref 111), (2, .int v2)], [.int (1 : Int32)])) rfl ?_
    exact e_rZ rfl rfl (by decide)
  · refine e_L 1 (f' := (24, [(0, .ref 125), (1, .ref 111), (2, .int v2)], [.ref 111])) rfl ?_
    refine e_gR (q := 117) 8 1 rfl rfl lc_111 lr_111_1 ?_
    refine e_L 1 (f' := (28, [(0, .ref 125), (1, .ref 111), (2, .int v2)], [.int (0 : Int32), .ref 117])) rfl ?_
    refine e_aal (n := 6) (q := 118) rfl lc_117 ln_117 (by decide +kernel) (by decide +kernel) ?_
    refine e_L 1 (f' := (30, [(0, .ref 125), (1, .ref 111), (2, .int v2)], [.int v2, .ref 118])) rfl ?_
    refine qle_gd fun h2 => ?_
    refine e_ial (n := 200) (k := v2.toNatClampNeg) rfl lc_118 ln_118 h2 rfl ?_
    refine e_nI fun z3 => ?_
    refine e_L 2 (f' := (33, [(3, .int z3), (0, .ref 125), (1, .ref 111), (2, .int v2)], [.ref 111])) rfl ?_
    refine e_gR (q := 117) 8 1 rfl rfl lc_111 lr_111_1 ?_
    refine e_L 1 (f' := (37, [(3, .int z3), (0, .ref 125), (1, .ref 111), (2, .int v2)], [.int (3 : Int32), .ref 117])) rfl ?_
    refine e_aal (n := 6) (q := 121) rfl lc_117 ln_117 (by decide +kernel) (by decide +kernel) ?_
    refine e_L 1 (f' := (39, [(3, .int z3), (0, .ref 125), (1, .ref 111), (2, .int v2)], [.int v2, .ref 121])) rfl ?_
    refine e_ial (n := 200) (k := v2.toNatClampNeg) rfl lc_121 ln_121 h2 rfl ?_
    refine e_L 1 (f' := (42, [(3, .int z3), (0, .ref 125), (1, .ref 111), (2, .int v2)], [.int (15 : Int32), .int (s.1 121 v2.toNatClampNeg)])) rfl ?_
    refine e_icmp 135 rfl rfl rfl (fun c4 => ?_) (fun c4 => ?_)
    · refine e_L 1 (f' := (136, [(3, .int z3), (0, .ref 125), (1, .ref 111), (2, .int v2)], [.ref 111])) rfl ?_
      refine e_gR (q := 117) 8 1 rfl rfl lc_111 lr_111_1 ?_
      refine e_L 1 (f' := (140, [(3, .int z3), (0, .ref 125), (1, .ref 111), (2, .int v2)], [.int (3 : Int32), .ref 117])) rfl ?_
      refine e_aal (n := 6) (q := 121) rfl lc_117 ln_117 (by decide +kernel) (by decide +kernel) ?_
      refine e_L 1 (f' := (142, [(3, .int z3), (0, .ref 125), (1, .ref 111), (2, .int v2)], [.int v2, .ref 121])) rfl ?_
      refine e_ial (n := 200) (k := v2.toNatClampNeg) rfl lc_121 ln_121 h2 rfl ?_
      refine e_L 1 (f' := (145, [(3, .int z3), (0, .ref 125), (1, .ref 111), (2, .int v2)], [.int (16 : Int32), .int (s.1 121 v2.toNatClampNeg)])) rfl ?_
      refine e_icmp 201 rfl rfl rfl (fun c5 => ?_) (fun c5 => ?_)
      · refine e_L 2 (f' := (15, [(2, .int (v2 + (1 : Int32))), (3, .int z3), (0, .ref 125), (1, .ref 111)], [])) rfl ?_
        exact qE_sub (qsubL [2, 3, 0] rfl (ks := [2, 3, 0, 1]) rfl (by decide))
      · refine e_L 1 (f' := (149, [(3, .int z3), (0, .ref 125), (1, .ref 111), (2, .int v2)], [.ref 125])) rfl ?_
        refine e_gR (q := 148) 1 3 rfl rfl lc_125 lr_125_3 ?_
        refine e_L 1 (f' := (153, [(3, .int z3), (0, .ref 125), (1, .ref 111), (2, .int v2)], [.int z3, .ref 148])) rfl ?_
        refine qle_gd fun h6 => ?_
        refine e_ial (n := 4) (k := z3.toNatClampNeg) rfl lc_148 ln_148 h6 rfl ?_
        refine e_ifz 159 rfl rfl rfl (fun c7 => ?_) (fun c7 => ?_)
        · refine e_L 1 (f' := (160, [(3, .int z3), (0, .ref 125), (1, .ref 111), (2, .int v2)], [.ref 125])) rfl ?_
          refine e_gR (q := 126) 1 0 rfl rfl lc_125 lr_125_0 ?_
          refine e_L 1 (f' := (164, [(3, .int z3), (0, .ref 125), (1, .ref 111), (2, .int v2)], [.int (4 : Int32), .ref 126])) rfl ?_
          refine e_aal (n := 6) (q := 131) rfl lc_126 ln_126 (by decide +kernel) (by decide +kernel) ?_
          refine e_L 1 (f' := (166, [(3, .int z3), (0, .ref 125), (1, .ref 111), (2, .int v2)], [.ref 125, .ref 131])) rfl ?_
          refine e_gR (q := 148) 1 3 rfl rfl lc_125 lr_125_3 ?_
          refine e_L 1 (f' := (170, [(3, .int z3), (0, .ref 125), (1, .ref 111), (2, .int v2)], [.int z3, .ref 148, .ref 131])) rfl ?_
          refine e_ial (n := 4) (k := z3.toNatClampNeg) rfl lc_148 ln_148 h6 rfl ?_
          refine e_L 1 (f' := (172, [(3, .int z3), (0, .ref 125), (1, .ref 111), (2, .int v2)], [.int v2, .int (s.1 148 z3.toNatClampNeg), .ref 131])) rfl ?_
          refine qle_gd fun h8 => ?_
          refine e_ias (n := 200) (k := (s.1 148 z3.toNatClampNeg).toNatClampNeg) rfl lc_131 ln_131 h8 rfl ?_
          refine e_nS fun s9 => ?_
          refine e_L 1 (f' := (174, [(3, .int z3), (0, .ref 125), (1, .ref 111), (2, .int v2)], [.ref 125])) rfl ?_
          refine e_gR (q := 126) 1 0 rfl rfl lc_125 lr_125_0 ?_
          refine e_L 1 (f' := (178, [(3, .int z3), (0, .ref 125), (1, .ref 111), (2, .int v2)], [.int (5 : Int32), .ref 126])) rfl ?_
          refine e_aal (n := 6) (q := 132) rfl lc_126 ln_126 (by decide +kernel) (by decide +kernel) ?_
          refine e_L 1 (f' := (180, [(3, .int z3), (0, .ref 125), (1, .ref 111), (2, .int v2)], [.ref 125, .ref 132])) rfl ?_
          refine e_gR (q := 148) 1 3 rfl rfl lc_125 lr_125_3 ?_
          refine e_L 1 (f' := (184, [(3, .int z3), (0, .ref 125), (1, .ref 111), (2, .int v2)], [.int z3, .ref 148, .ref 132])) rfl ?_
          refine e_ial (n := 4) (k := z3.toNatClampNeg) rfl lc_148 ln_148 h6 rfl ?_
          refine e_L 1 (f' := (186, [(3, .int z3), (0, .ref 125), (1, .ref 111), (2, .int v2)], [.ref 111, .int (s9.1 148 z3.toNatClampNeg), .ref 132])) rfl ?_
          refine e_gR (q := 117) 8 1 rfl rfl lc_111 lr_111_1 ?_
          refine e_L 1 (f' := (190, [(3, .int z3), (0, .ref 125), (1, .ref 111), (2, .int v2)], [.int (5 : Int32), .ref 117, .int (s9.1 148 z3.toNatClampNeg), .ref 132])) rfl ?_
          refine e_aal (n := 6) (q := 123) rfl lc_117 ln_117 (by decide +kernel) (by decide +kernel) ?_
          refine e_L 1 (f' := (192, [(3, .int z3), (0, .ref 125), (1, .ref 111), (2, .int v2)], [.int v2, .ref 123, .int (s9.1 148 z3.toNatClampNeg), .ref 132])) rfl ?_
          refine e_ial (n := 200) (k := v2.toNatClampNeg) rfl lc_123 ln_123 h2 rfl ?_
          refine qle_gd fun h10 => ?_
          refine e_ias (n := 200) (k := (s9.1 148 z3.toNatClampNeg).toNatClampNeg) rfl lc_132 ln_132 h10 rfl ?_
          refine e_nS fun s11 => ?_
          refine e_L 1 (f' := (195, [(3, .int z3), (0, .ref 125), (1, .ref 111), (2, .int v2)], [.ref 125])) rfl ?_
          refine e_gR (q := 148) 1 3 rfl rfl lc_125 lr_125_3 ?_
          refine e_L 2 (f' := (200, [(3, .int z3), (0, .ref 125), (1, .ref 111), (2, .int v2)], [.int (-1 : Int32), .int z3, .ref 148])) rfl ?_
          refine e_ias (n := 4) (k := z3.toNatClampNeg) rfl lc_148 ln_148 h6 rfl ?_
          refine e_nS fun s12 => ?_
          refine e_L 2 (f' := (15, [(2, .int (v2 + (1 : Int32))), (3, .int z3), (0, .ref 125), (1, .ref 111)], [])) rfl ?_
          exact qE_sub (qsubL [2, 3, 0] rfl (ks := [2, 3, 0, 1]) rfl (by decide))
        · refine e_L 1 (f' := (158, [(3, .int z3), (0, .ref 125), (1, .ref 111), (2, .int v2)], [.int (0 : Int32)])) rfl ?_
          exact e_rZ rfl rfl (by decide)
    · refine e_L 1 (f' := (46, [(3, .int z3), (0, .ref 125), (1, .ref 111), (2, .int v2)], [.ref 111])) rfl ?_
      refine e_gR (q := 112) 8 0 rfl rfl lc_111 lr_111_0 ?_
      refine qle_gd fun h13 => ?_
      refine e_gM 3 7 rfl rfl lc_112 h13.1 ?_
      refine e_nR (ci := 5) h13.2 fun q14 h_q14 => ?_
      refine e_gR (q := (q14 + 6)) 5 6 rfl rfl h_q14 (fo_5_6 h_q14) ?_
      refine e_L 1 (f' := (57, [(3, .int z3), (0, .ref 125), (1, .ref 111), (2, .int v2)], [.int (9 : Int32), .ref (q14 + 6)])) rfl ?_
      refine e_aal (n := 18) (q := (q14 + 16)) rfl (fc_5_6 h_q14) (fl_5_6 h_q14) (by decide +kernel) (pe_9 h_q14) ?_
      refine e_L 1 (f' := (59, [(3, .int z3), (0, .ref 125), (1, .ref 111), (2, .int v2)], [.ref 111, .ref (q14 + 16)])) rfl ?_
      refine e_gR (q := 117) 8 1 rfl rfl lc_111 lr_111_1 ?_
      refine e_L 1 (f' := (63, [(3, .int z3), (0, .ref 125), (1, .ref 111), (2, .int v2)], [.int (2 : Int32), .ref 117, .ref (q14 + 16)])) rfl ?_
      refine e_aal (n := 6) (q := 120) rfl lc_117 ln_117 (by decide +kernel) (by decide +kernel) ?_
      refine e_L 1 (f' := (65, [(3, .int z3), (0, .ref 125), (1, .ref 111), (2, .int v2)], [.int v2, .ref 120, .ref (q14 + 16)])) rfl ?_
      refine e_ial (n := 200) (k := v2.toNatClampNeg) rfl lc_120 ln_120 h2 rfl ?_
      refine qle_gd fun h15 => ?_
      refine e_ial (n := 100) (k := (s.1 120 v2.toNatClampNeg).toNatClampNeg) rfl (pe_c_9 h_q14) (pe_l_9 h_q14) h15 rfl ?_
      refine e_nI fun z16 => ?_
      refine e_L 2 (f' := (70, [(4, .int z16), (3, .int z3), (0, .ref 125), (1, .ref 111), (2, .int v2)], [.ref 125])) rfl ?_
      refine e_gR (q := 148) 1 3 rfl rfl lc_125 lr_125_3 ?_
      refine e_L 1 (f' := (74, [(4, .int z16), (3, .int z3), (0, .ref 125), (1, .ref 111), (2, .int v2)], [.int z3, .ref 148])) rfl ?_
      refine qle_gd fun h17 => ?_
      refine e_ial (n := 4) (k := z3.toNatClampNeg) rfl lc_148 ln_148 h17 rfl ?_
      refine e_ifz 104 rfl rfl rfl (fun c18 => ?_) (fun c18 => ?_)
      · refine e_L 1 (f' := (105, [(4, .int z16), (3, .int z3), (0, .ref 125), (1, .ref 111), (2, .int v2)], [.int (0 : Int32)])) rfl ?_
        exact e_rZ rfl rfl (by decide)
      · refine e_L 1 (f' := (80, [(4, .int z16), (3, .int z3), (0, .ref 125), (1, .ref 111), (2, .int v2)], [.int z16])) rfl ?_
        refine e_gs (w := .retAddr 7) rfl rfl ?_
        refine e_L 1 (f' := (84, [(4, .int z16), (3, .int z3), (0, .ref 125), (1, .ref 111), (2, .int v2)], [.ref 125, .retAddr 7, .int z16])) rfl ?_
        refine e_gI 1 10 rfl rfl lc_125 ?_
        refine qle_gd fun h19 => ?_
        refine e_oal (n := 4) (f := (fun j => ([0, 2, 3, 5] : List Int32).getD j 0)) rfl rfl h19 ?_
        refine e_icmp 106 rfl rfl rfl (fun c20 => ?_) (fun c20 => ?_)
        · exact qE_sub (qsubL [2, 3, 4, 1, 0] rfl (ks := [4, 3, 0, 1, 2]) rfl (by decide))
        · refine e_L 1 (f' := (93, [(4, .int z16), (3, .int z3), (0, .ref 125), (1, .ref 111), (2, .int v2)], [.int z16])) rfl ?_
          refine e_gs (w := .retAddr 8) rfl rfl ?_
          refine e_L 1 (f' := (97, [(4, .int z16), (3, .int z3), (0, .ref 125), (1, .ref 111), (2, .int v2)], [.ref 125, .retAddr 8, .int z16])) rfl ?_
          refine e_gI 1 10 rfl rfl lc_125 ?_
          refine e_oal (n := 4) (f := (fun j => ([1, 1, 4, 6] : List Int32).getD j 0)) rfl rfl h19 ?_
          refine e_icmp 106 rfl rfl rfl (fun c21 => ?_) (fun c21 => ?_)
          · exact qE_sub (qsubL [2, 3, 4, 1, 0] rfl (ks := [4, 3, 0, 1, 2]) rfl (by decide))
          · refine e_L 1 (f' := (105, [(4, .int z16), (3, .int z3), (0, .ref 125), (1, .ref 111), (2, .int v2)], [.int (0 : Int32)])) rfl ?_
            exact e_rZ rfl rfl (by decide)
set_option maxRecDepth 100000 in
set_option maxHeartbeats 4000000 in
theorem le_X1_gather_106 (en : pN) (d : Nat) (v2 : Int32) (v3 : Int32) (v4 : Int32) (s : qS) : qle (gd (p_inB v3 4 = true) (nm (uI s 148 (v3.toNatClampNeg) (s.1 125 8)) (fun s2 => gd (p_inB v2 200 = true) (bV (qev en d 13 [.ref 125, .int v3, .int v4, .int (s2.1 123 v2.toNatClampNeg), .int v2] s2) (fun s5 => L_X1_gather_15 en d (v2 + (1 : Int32)) s5))))) (L_X1_gather_106 en d v2 v3 v4 s) := by
  show qle _ (qE (qev en d) en (some .boolean) tb_X1_gather (106, [(0, .ref 125), (1, .ref 111), (2, .int v2), (3, .int v3), (4, .int v4)], []) s)
  refine e_L 1 (f' := (107, [(0, .ref 125), (1, .ref 111), (2, .int v2), (3, .int v3), (4, .int v4)], [.ref 125])) rfl ?_
  refine e_gR (q := 148) 1 3 rfl rfl lc_125 lr_125_3 ?_
  refine e_L 2 (f' := (112, [(0, .ref 125), (1, .ref 111), (2, .int v2), (3, .int v3), (4, .int v4)], [.ref 125, .int v3, .ref 148])) rfl ?_
  refine e_gI 1 8 rfl rfl lc_125 ?_
  refine qle_gd fun h1 => ?_
  refine e_ias (n := 4) (k := v3.toNatClampNeg) rfl lc_148 ln_148 h1 rfl ?_
  refine e_nS fun s2 => ?_
  refine e_L 4 (f' := (121, [(0, .ref 125), (1, .ref 111), (2, .int v2), (3, .int v3), (4, .int v4)], [.ref 111, .int v4, .int v3, .ref 125])) rfl ?_
  refine e_gR (q := 117) 8 1 rfl rfl lc_111 lr_111_1 ?_
  refine e_L 1 (f' := (125, [(0, .ref 125), (1, .ref 111), (2, .int v2), (3, .int v3), (4, .int v4)], [.int (5 : Int32), .ref 117, .int v4, .int v3, .ref 125])) rfl ?_
  refine e_aal (n := 6) (q := 123) rfl lc_117 ln_117 (by decide +kernel) (by decide +kernel) ?_
  refine e_L 1 (f' := (127, [(0, .ref 125), (1, .ref 111), (2, .int v2), (3, .int v3), (4, .int v4)], [.int v2, .ref 123, .int v4, .int v3, .ref 125])) rfl ?_
  refine qle_gd fun h3 => ?_
  refine e_ial (n := 200) (k := v2.toNatClampNeg) rfl lc_123 ln_123 h3 rfl ?_
  refine e_L 1 (f' := (129, [(0, .ref 125), (1, .ref 111), (2, .int v2), (3, .int v3), (4, .int v4)], [.int v2, .int (s2.1 123 v2.toNatClampNeg), .int v4, .int v3, .ref 125])) rfl ?_
  refine e_vV 13 rfl rfl ix_X1_addCall rfl (q_recvOf lc_125 rfl) (Nat.le_of_ble_eq_true rfl) (fun s5 e6 => ?_)
  refine e_L 3 (f' := (15, [(2, .int (v2 + (1 : Int32))), (0, .ref 125), (1, .ref 111), (3, .int v3), (4, .int v4)], [])) rfl ?_
  exact qE_sub (qsubL [1, 2, 0] rfl (ks := [2, 0, 1, 3, 4]) rfl (by decide))
set_option maxRecDepth 100000 in
set_option maxHeartbeats 4000000 in
theorem le_X1_gather (en : pN) (d : Nat) (s : qS) : qle (nm (uI s 125 8 (0 : Int32)) (fun s1 => bV (qev en d 435 [.ref 148, .int (-1 : Int32)] s1) (fun s3 => L_X1_gather_15 en d (0 : Int32) s3))) (qev en (d + 1) 12 [.ref 125, .ref 111] s) := by
  refine e_enter ix_X1_gather (Nat.le_of_ble_eq_true rfl) ?_
  show qle _ (qE (qev en d) en (some .boolean) tb_X1_gather (0, [(0, .ref 125), (1, .ref 111)], []) s)
  refine e_L 2 (f' := (2, [(0, .ref 125), (1, .ref 111)], [.int (0 : Int32), .ref 125])) rfl ?_
  refine e_pI 1 8 rfl rfl lc_125 rfl ?_
  refine e_nS fun s1 => ?_
  refine e_L 1 (f' := (6, [(0, .ref 125), (1, .ref 111)], [.ref 125])) rfl ?_
  refine e_gR (q := 148) 1 3 rfl rfl lc_125 lr_125_3 ?_
  refine e_L 1 (f' := (10, [(0, .ref 125), (1, .ref 111)], [.int (-1 : Int32), .ref 148])) rfl ?_
  refine e_sV 435 rfl rfl rfl ix_J7_fill_53178 rfl (Nat.le_of_ble_eq_true rfl) (fun s3 e4 => ?_)
  refine e_L 2 (f' := (15, [(2, .int (0 : Int32)), (0, .ref 125), (1, .ref 111)], [])) rfl ?_
  exact qE_sub (qsubL [1, 2, 0] rfl (ks := [2, 0, 1]) rfl (by decide))
set_option maxRecDepth 100000 in
set_option maxHeartbeats 4000000 in
theorem le_X1_addCall (en : pN) (d : Nat) (a1 : Int32) (a2 : Int32) (a3 : Int32) (a4 : Int32) (s : qS) : qle (gd (p_inB (s.1 125 8) 200 = true) (nm (uI s 127 ((s.1 125 8).toNatClampNeg) a1) (fun s2 => gd (p_inB (s2.1 125 8) 200 = true) (nm (uI s2 128 ((s2.1 125 8).toNatClampNeg) a2) (fun s4 => gd (p_inB (s4.1 125 8) 200 = true) (nm (uI s4 129 ((s4.1 125 8).toNatClampNeg) a3) (fun s6 => gd (p_inB (s6.1 125 8) 200 = true) (nm (uI s6 130 ((s6.1 125 8).toNatClampNeg) a4) (fun s8 => gd (p_inB (s8.1 125 8) 200 = true) (nm (uI s8 131 ((s8.1 125 8).toNatClampNeg) (-1 : Int32)) (fun s10 => gd (p_inB (s10.1 125 8) 200 = true) (nm (uI s10 132 ((s10.1 125 8).toNatClampNeg) (0 : Int32)) (fun s12 => nm (uI s12 125 8 ((s12.1 125 8) + (1 : Int32))) (fun s13 => some (none, s13))))))))))))))) (qev en (d + 1) 13 [.ref 125, .int a1, .int a2, .int a3, .int a4] s) := by
  refine e_enter ix_X1_addCall (Nat.le_of_ble_eq_true rfl) ?_
  show qle _ (qE (qev en d) en none tb_X1_addCall (0, [(0, .ref 125), (1, .int a1), (2, .int a2), (3, .int a3), (4, .int a4)], []) s)
  refine e_L 1 (f' := (1, [(0, .ref 125), (1, .int a1), (2, .int a2), (3, .int a3), (4, .int a4)], [.ref 125])) rfl ?_
  refine e_gR (q := 126) 1 0 rfl rfl lc_125 lr_125_0 ?_
  refine e_L 1 (f' := (5, [(0, .ref 125), (1, .int a1), (2, .int a2), (3, .int a3), (4, .int a4)], [.int (0 : Int32), .ref 126])) rfl ?_
  refine e_aal (n := 6) (q := 127) rfl lc_126 ln_126 (by decide +kernel) (by decide +kernel) ?_
  refine e_L 1 (f' := (7, [(0, .ref 125), (1, .int a1), (2, .int a2), (3, .int a3), (4, .int a4)], [.ref 125, .ref 127])) rfl ?_
  refine e_gI 1 8 rfl rfl lc_125 ?_
  refine e_L 1 (f' := (11, [(0, .ref 125), (1, .int a1), (2, .int a2), (3, .int a3), (4, .int a4)], [.int a1, .int (s.1 125 8), .ref 127])) rfl ?_
  refine qle_gd fun h1 => ?_
  refine e_ias (n := 200) (k := (s.1 125 8).toNatClampNeg) rfl lc_127 ln_127 h1 rfl ?_
  refine e_nS fun s2 => ?_
  refine e_L 1 (f' := (13, [(0, .ref 125), (1, .int a1), (2, .int a2), (3, .int a3), (4, .int a4)], [.ref 125])) rfl ?_
  refine e_gR (q := 126) 1 0 rfl rfl lc_125 lr_125_0 ?_
  refine e_L 1 (f' := (17, [(0, .ref 125), (1, .int a1), (2, .int a2), (3, .int a3), (4, .int a4)], [.int (1 : Int32), .ref 126])) rfl ?_
  refine e_aal (n := 6) (q := 128) rfl lc_126 ln_126 (by decide +kernel) (by decide +kernel) ?_
  refine e_L 1 (f' := (19, [(0, .ref 125), (1, .int a1), (2, .int a2), (3, .int a3), (4, .int a4)], [.ref 125, .ref 128])) rfl ?_
  refine e_gI 1 8 rfl rfl lc_125 ?_
  refine e_L 1 (f' := (23, [(0, .ref 125), (1, .int a1), (2, .int a2), (3, .int a3), (4, .int a4)], [.int a2, .int (s2.1 125 8), .ref 128])) rfl ?_
  refine qle_gd fun h3 => ?_
  refine e_ias (n := 200) (k := (s2.1 125 8).toNatClampNeg) rfl lc_128 ln_128 h3 rfl ?_
  refine e_nS fun s4 => ?_
  refine e_L 1 (f' := (25, [(0, .ref 125), (1, .int a1), (2, .int a2), (3, .int a3), (4, .int a4)], [.ref 125])) rfl ?_
  refine e_gR (q := 126) 1 0 rfl rfl lc_125 lr_125_0 ?_
  refine e_L 1 (f' := (29, [(0, .ref 125), (1, .int a1), (2, .int a2), (3, .int a3), (4, .int a4)], [.int (2 : Int32), .ref 126])) rfl ?_
  refine e_aal (n := 6) (q := 129) rfl lc_126 ln_126 (by decide +kernel) (by decide +kernel) ?_
  refine e_L 1 (f' := (31, [(0, .ref 125), (1, .int a1), (2, .int a2), (3, .int a3), (4, .int a4)], [.ref 125, .ref 129])) rfl ?_
  refine e_gI 1 8 rfl rfl lc_125 ?_
  refine e_L 1 (f' := (35, [(0, .ref 125), (1, .int a1), (2, .int a2), (3, .int a3), (4, .int a4)], [.int a3, .int (s4.1 125 8), .ref 129])) rfl ?_
  refine qle_gd fun h5 => ?_
  refine e_ias (n := 200) (k := (s4.1 125 8).toNatClampNeg) rfl lc_129 ln_129 h5 rfl ?_
  refine e_nS fun s6 => ?_
  refine e_L 1 (f' := (37, [(0, .ref 125), (1, .int a1), (2, .int a2), (3, .int a3), (4, .int a4)], [.ref 125])) rfl ?_
  refine e_gR (q := 126) 1 0 rfl rfl lc_125 lr_125_0 ?_
  refine e_L 1 (f' := (41, [(0, .ref 125), (1, .int a1), (2, .int a2), (3, .int a3), (4, .int a4)], [.int (3 : Int32), .ref 126])) rfl ?_
  refine e_aal (n := 6) (q := 130) rfl lc_126 ln_126 (by decide +kernel) (by decide +kernel) ?_
  refine e_L 1 (f' := (43, [(0, .ref 125), (1, .int a1), (2, .int a2), (3, .int a3), (4, .int a4)], [.ref 125, .ref 130])) rfl ?_
  refine e_gI 1 8 rfl rfl lc_125 ?_
  refine e_L 1 (f' := (48, [(0, .ref 125), (1, .int a1), (2, .int a2), (3, .int a3), (4, .int a4)], [.int a4, .int (s6.1 125 8), .ref 130])) rfl ?_
  refine qle_gd fun h7 => ?_
  refine e_ias (n := 200) (k := (s6.1 125 8).toNatClampNeg) rfl lc_130 ln_130 h7 rfl ?_
  refine e_nS fun s8 => ?_
  refine e_L 1 (f' := (50, [(0, .ref 125), (1, .int a1), (2, .int a2), (3, .int a3), (4, .int a4)], [.ref 125])) rfl ?_
  refine e_gR (q := 126) 1 0 rfl rfl lc_125 lr_125_0 ?_
  refine e_L 1 (f' := (54, [(0, .ref 125), (1, .int a1), (2, .int a2), (3, .int a3), (4, .int a4)], [.int (4 : Int32), .ref 126])) rfl ?_
  refine e_aal (n := 6) (q := 131) rfl lc_126 ln_126 (by decide +kernel) (by decide +kernel) ?_
  refine e_L 1 (f' := (56, [(0, .ref 125), (1, .int a1), (2, .int a2), (3, .int a3), (4, .int a4)], [.ref 125, .ref 131])) rfl ?_
  refine e_gI 1 8 rfl rfl lc_125 ?_
  refine e_L 1 (f' := (60, [(0, .ref 125), (1, .int a1), (2, .int a2), (3, .int a3), (4, .int a4)], [.int (-1 : Int32), .int (s8.1 125 8), .ref 131])) rfl ?_
  refine qle_gd fun h9 => ?_
  refine e_ias (n := 200) (k := (s8.1 125 8).toNatClampNeg) rfl lc_131 ln_131 h9 rfl ?_
  refine e_nS fun s10 => ?_
  refine e_L 1 (f' := (62, [(0, .ref 125), (1, .int a1), (2, .int a2), (3, .int a3), (4, .int a4)], [.ref 125])) rfl ?_
  refine e_gR (q := 126) 1 0 rfl rfl lc_125 lr_125_0 ?_
  refine e_L 1 (f' := (66, [(0, .ref 125), (1, .int a1), (2, .int a2), (3, .int a3), (4, .int a4)], [.int (5 : Int32), .ref 126])) rfl ?_
  refine e_aal (n := 6) (q := 132) rfl lc_126 ln_126 (by decide +kernel) (by decide +kernel) ?_
  refine e_L 1 (f' := (68, [(0, .ref 125), (1, .int a1), (2, .int a2), (3, .int a3), (4, .int a4)], [.ref 125, .ref 132])) rfl ?_
  refine e_gI 1 8 rfl rfl lc_125 ?_
  refine e_L 1 (f' := (72, [(0, .ref 125), (1, .int a1), (2, .int a2), (3, .int a3), (4, .int a4)], [.int (0 : Int32), .int (s10.1 125 8), .ref 132])) rfl ?_
  refine qle_gd fun h11 => ?_
  refine e_ias (n := 200) (k := (s10.1 125 8).toNatClampNeg) rfl lc_132 ln_132 h11 rfl ?_
  refine e_nS fun s12 => ?_
  refine e_L 2 (f' := (75, [(0, .ref 125), (1, .int a1), (2, .int a2), (3, .int a3), (4, .int a4)], [.ref 125, .ref 125])) rfl ?_
  refine e_gI 1 8 rfl rfl lc_125 ?_
  refine e_L 2 (f' := (80, [(0, .ref 125), (1, .int a1), (2, .int a2), (3, .int a3), (4, .int a4)], [.int ((s12.1 125 8) + (1 : Int32)), .ref 125])) rfl ?_
  refine e_pI 1 8 rfl rfl lc_125 rfl ?_
  refine e_nS fun s13 => ?_
  exact e_rV rfl rfl
noncomputable def L_X1_extend_22 (en : pN) (d : Nat) (v1 : Int32) (v2 : Int32) (v3 : Int32) (s : qS) : Option qR := qE (qev en d) en (some .boolean) tb_X1_extend (22, [(0, .ref 125), (1, .int v1), (2, .int v2), (3, .int v3)], []) s
set_option maxRecDepth 100000 in
set_option maxHeartbeats 4000000 in
theorem le_X1_extend_22 (en : pN) (d : Nat) (v1 : Int32) (v2 : Int32) (v3 : Int32) (s : qS) : qle (if (s.1 125 8) ≤ v3 then some (some (.int (0 : Int32)), s) else if (12 : Int32) ≤ v1 then some (some (.int (0 : Int32)), s) else bI (qev en d 16 [.ref 125, .int v3, .int v2] s) (fun w3 s4 => if w3 = (0 : Int32) then L_X1_extend_22 en d v1 v2 (v3 + (1 : Int32)) s4 else bI (qev en d 15 [.ref 125, .int v3, .int v1, .int v2] s4) (fun w7 s8 => if w7 = (0 : Int32) then L_X1_extend_22 en d v1 v2 (v3 + (1 : Int32)) s8 else some (some (.int (1 : Int32)), s8)))) (L_X1_extend_22 en d v1 v2 v3 s) := by
  show qle _ (qE (qev en d) en (some .boolean) tb_X1_extend (22, [(0, .ref 125), (1, .int v1), (2, .int v2), (3, .int v3)], []) s)
  refine e_L 2 (f' := (24, [(0, .ref 125), (1, .int v1), (2, .int v2), (3, .int v3)], [.ref 125, .int v3])) rfl ?_
  refine e_gI 1 8 rfl rfl lc_125 ?_
  refine e_icmp 63 rfl rfl rfl (fun c1 => ?_) (fun c1 => ?_)
  · refine e_L 1 (f' := (64, [(0, .ref 125), (1, .int v1), (2, .int v2), (3, .int v3)], [.int (0 : Int32)])) rfl ?_
    exact e_rZ rfl rfl (by decide)
  · refine e_L 2 (f' := (33, [(0, .ref 125), (1, .int v1), (2, .int v2), (3, .int v3)], [.int (12 : Int32), .int v1])) rfl ?_
    refine e_icmp 63 rfl rfl rfl (fun c2 => ?_) (fun c2 => ?_)
    · refine e_L 1 (f' := (64, [(0, .ref 125), (1, .int v1), (2, .int v2), (3, .int v3)], [.int (0 : Int32)])) rfl ?_
      exact e_rZ rfl rfl (by decide)
    · refine e_L 3 (f' := (39, [(0, .ref 125), (1, .int v1), (2, .int v2), (3, .int v3)], [.int v2, .int v3, .ref 125])) rfl ?_
      refine e_vI 16 rfl rfl ix_X1_mayBeNext rfl (q_recvOf lc_125 rfl) (Nat.le_of_ble_eq_true rfl) (fun w3 s4 e5 => ?_)
      refine e_ifz 57 rfl rfl rfl (fun c6 => ?_) (fun c6 => ?_)
      · refine e_L 2 (f' := (22, [(3, .int (v3 + (1 : Int32))), (0, .ref 125), (1, .int v1), (2, .int v2)], [])) rfl ?_
        exact qE_sub (qsubL [1, 2, 3, 0] rfl (ks := [3, 0, 1, 2]) rfl (by decide))
      · refine e_L 4 (f' := (49, [(0, .ref 125), (1, .int v1), (2, .int v2), (3, .int v3)], [.int v2, .int v1, .int v3, .ref 125])) rfl ?_
        refine e_vI 15 rfl rfl ix_X1_place rfl (q_recvOf lc_125 rfl) (Nat.le_of_ble_eq_true rfl) (fun w7 s8 e9 => ?_)
        refine e_ifz 57 rfl rfl rfl (fun c10 => ?_) (fun c10 => ?_)
        · refine e_L 2 (f' := (22, [(3, .int (v3 + (1 : Int32))), (0, .ref 125), (1, .int v1), (2, .int v2)], [])) rfl ?_
          exact qE_sub (qsubL [1, 2, 3, 0] rfl (ks := [3, 0, 1, 2]) rfl (by decide))
        · refine e_L 1 (f' := (56, [(0, .ref 125), (1, .int v1), (2, .int v2), (3, .int v3)], [.int (1 : Int32)])) rfl ?_
          exact e_rZ rfl rfl (by decide)
set_option maxRecDepth 100000 in
set_option maxHeartbeats 4000000 in
theorem le_X1_extend (en : pN) (d : Nat) (a1 : Int32) (a2 : Int32) (s : qS) : qle (if ¬ (a2 &&& (s.1 125 9)) = (s.1 125 9) then L_X1_extend_22 en d a1 a2 (0 : Int32) s else nm (uI s 125 7 a1) (fun s2 => some (some (.int (1 : Int32)), s2))) (qev en (d + 1) 14 [.ref 125, .int a1, .int a2] s) := by
  refine e_enter ix_X1_extend (Nat.le_of_ble_eq_true rfl) ?_
  show qle _ (qE (qev en d) en (some .boolean) tb_X1_extend (0, [(0, .ref 125), (1, .int a1), (2, .int a2)], []) s)
  refine e_L 2 (f' := (2, [(0, .ref 125), (1, .int a1), (2, .int a2)], [.ref 125, .int a2])) rfl ?_
  refine e_gI 1 9 rfl rfl lc_125 ?_
  refine e_L 2 (f' := (7, [(0, .ref 125), (1, .int a1), (2, .int a2)], [.ref 125, .int (a2 &&& (s.1 125 9))])) rfl ?_
  refine e_gI 1 9 rfl rfl lc_125 ?_
  refine e_icmp 20 rfl rfl rfl (fun c1 => ?_) (fun c1 => ?_)
  · refine e_L 2 (f' := (22, [(3, .int (0 : Int32)), (0, .ref 125), (1, .int a1), (2, .int a2)], [])) rfl ?_
    exact qE_sub (qsubL [1, 2, 3, 0] rfl (ks := [3, 0, 1, 2]) rfl (by decide))
  · refine e_L 2 (f' := (15, [(0, .ref 125), (1, .int a1), (2, .int a2)], [.int a1, .ref 125])) rfl ?_
    refine e_pI 1 7 rfl rfl lc_125 rfl ?_
    refine e_nS fun s2 => ?_
    refine e_L 1 (f' := (19, [(0, .ref 125), (1, .int a1), (2, .int a2)], [.int (1 : Int32)])) rfl ?_
    exact e_rZ rfl rfl (by decide)
noncomputable def L_X1_place_34 (en : pN) (d : Nat) (v1 : Int32) (v2 : Int32) (v3 : Int32) (s : qS) : Option qR := qE (qev en d) en (some .boolean) tb_X1_place (34, [(0, .ref 125), (1, .int v1), (2, .int v2), (3, .int v3)], []) s
set_option maxRecDepth 100000 in
set_option maxHeartbeats 4000000 in
theorem le_X1_place_34 (en : pN) (d : Nat) (v1 : Int32) (v2 : Int32) (v3 : Int32) (s : qS) : qle (gd (p_inB v2 12 = true) (nm (uI s 149 (v2.toNatClampNeg) v1) (fun s2 => bI (qev en d 14 [.ref 125, .int (v2 + (1 : Int32)), .int (v3 ||| ((1 : Int32) <<< (v1 &&& 31)))] s2) (fun w3 s4 => gd (w3 = 0 ∨ w3 = 1) (some (some (.int w3), s4)))))) (L_X1_place_34 en d v1 v2 v3 s) := by
  show qle _ (qE (qev en d) en (some .boolean) tb_X1_place (34, [(0, .ref 125), (1, .int v1), (2, .int v2), (3, .int v3)], []) s)
  refine e_L 1 (f' := (35, [(0, .ref 125), (1, .int v1), (2, .int v2), (3, .int v3)], [.ref 125])) rfl ?_
  refine e_gR (q := 149) 1 4 rfl rfl lc_125 lr_125_4 ?_
  refine e_L 2 (f' := (40, [(0, .ref 125), (1, .int v1), (2, .int v2), (3, .int v3)], [.int v1, .int v2, .ref 149])) rfl ?_
  refine qle_gd fun h1 => ?_
  refine e_ias (n := 12) (k := v2.toNatClampNeg) rfl lc_149 ln_149 h1 rfl ?_
  refine e_nS fun s2 => ?_
  refine e_L 9 (f' := (50, [(0, .ref 125), (1, .int v1), (2, .int v2), (3, .int v3)], [.int (v3 ||| ((1 : Int32) <<< (v1 &&& 31))), .int (v2 + (1 : Int32)), .ref 125])) rfl ?_
  refine e_vI 14 rfl rfl ix_X1_extend rfl (q_recvOf lc_125 rfl) (Nat.le_of_ble_eq_true rfl) (fun w3 s4 e5 => ?_)
  exact qle_gd fun h6 => e_rZ rfl rfl h6
set_option maxRecDepth 100000 in
set_option maxHeartbeats 4000000 in
theorem le_X1_place (en : pN) (d : Nat) (a1 : Int32) (a2 : Int32) (a3 : Int32) (s : qS) : qle (bI (qev en d 17 [.ref 125, .int a1, .int a2] s) (fun w1 s2 => gd (p_inB a1 200 = true) (if (s2.1 131 a1.toNatClampNeg) < (0 : Int32) then L_X1_place_34 en d a1 a2 a3 s2 else if (s2.1 132 a1.toNatClampNeg) = w1 then L_X1_place_34 en d a1 a2 a3 s2 else some (some (.int (0 : Int32)), s2)))) (qev en (d + 1) 15 [.ref 125, .int a1, .int a2, .int a3] s) := by
  refine e_enter ix_X1_place (Nat.le_of_ble_eq_true rfl) ?_
  show qle _ (qE (qev en d) en (some .boolean) tb_X1_place (0, [(0, .ref 125), (1, .int a1), (2, .int a2), (3, .int a3)], []) s)
  refine e_L 3 (f' := (3, [(0, .ref 125), (1, .int a1), (2, .int a2), (3, .int a3)], [.int a2, .int a1, .ref 125])) rfl ?_
  refine e_vI 17 rfl rfl ix_X1_perform rfl (q_recvOf lc_125 rfl) (Nat.le_of_ble_eq_true rfl) (fun w1 s2 e3 => ?_)
  refine e_L 2 (f' := (9, [(4, .int w1), (0, .ref 125), (1, .int a1), (2, .int a2), (3, .int a3)], [.ref 125])) rfl ?_
  refine e_gR (q := 126) 1 0 rfl rfl lc_125 lr_125_0 ?_
  refine e_L 1 (f' := (13, [(4, .int w1), (0, .ref 125), (1, .int a1), (2, .int a2), (3, .int a3)], [.int (4 : Int32), .ref 126])) rfl ?_
  refine e_aal (n := 6) (q := 131) rfl lc_126 ln_126 (by decide +kernel) (by decide +kernel) ?_
  refine e_L 1 (f' := (15, [(4, .int w1), (0, .ref 125), (1, .int a1), (2, .int a2), (3, .int a3)], [.int a1, .ref 131])) rfl ?_
  refine qle_gd fun h4 => ?_
  refine e_ial (n := 200) (k := a1.toNatClampNeg) rfl lc_131 ln_131 h4 rfl ?_
  refine e_ifz 34 rfl rfl rfl (fun c5 => ?_) (fun c5 => ?_)
  · exact qE_sub (qsubL [1, 2, 3, 4] rfl (ks := [4, 0, 1, 2, 3]) rfl (by decide))
  · refine e_L 1 (f' := (20, [(4, .int w1), (0, .ref 125), (1, .int a1), (2, .int a2), (3, .int a3)], [.ref 125])) rfl ?_
    refine e_gR (q := 126) 1 0 rfl rfl lc_125 lr_125_0 ?_
    refine e_L 1 (f' := (24, [(4, .int w1), (0, .ref 125), (1, .int a1), (2, .int a2), (3, .int a3)], [.int (5 : Int32), .ref 126])) rfl ?_
    refine e_aal (n := 6) (q := 132) rfl lc_126 ln_126 (by decide +kernel) (by decide +kernel) ?_
    refine e_L 1 (f' := (26, [(4, .int w1), (0, .ref 125), (1, .int a1), (2, .int a2), (3, .int a3)], [.int a1, .ref 132])) rfl ?_
    refine e_ial (n := 200) (k := a1.toNatClampNeg) rfl lc_132 ln_132 h4 rfl ?_
    refine e_L 1 (f' := (29, [(4, .int w1), (0, .ref 125), (1, .int a1), (2, .int a2), (3, .int a3)], [.int w1, .int (s2.1 132 a1.toNatClampNeg)])) rfl ?_
    refine e_icmp 34 rfl rfl rfl (fun c6 => ?_) (fun c6 => ?_)
    · exact qE_sub (qsubL [1, 2, 3, 4] rfl (ks := [4, 0, 1, 2, 3]) rfl (by decide))
    · refine e_L 1 (f' := (33, [(4, .int w1), (0, .ref 125), (1, .int a1), (2, .int a2), (3, .int a3)], [.int (0 : Int32)])) rfl ?_
      exact e_rZ rfl rfl (by decide)
noncomputable def L_X1_mayBeNext_12 (en : pN) (d : Nat) (v1 : Int32) (v2 : Int32) (v3 : Int32) (s : qS) : Option qR := qE (qev en d) en (some .boolean) tb_X1_mayBeNext (12, [(0, .ref 125), (1, .int v1), (2, .int v2), (3, .int v3)], []) s
noncomputable def L_X1_mayBeNext_55 (en : pN) (d : Nat) (v1 : Int32) (v2 : Int32) (v3 : Int32) (vs0 : Int32) (s : qS) : Option qR := qE (qev en d) en (some .boolean) tb_X1_mayBeNext (55, [(0, .ref 125), (1, .int v1), (2, .int v2), (3, .int v3)], [.int vs0]) s
set_option maxRecDepth 100000 in
set_option maxHeartbeats 4000000 in
theorem le_X1_mayBeNext_12 (en : pN) (d : Nat) (v1 : Int32) (v2 : Int32) (v3 : Int32) (s : qS) : qle (if (s.1 125 8) ≤ v3 then some (some (.int (1 : Int32)), s) else gd (p_inB v3 200 = true) (if (s.1 131 v3.toNatClampNeg) < (0 : Int32) then L_X1_mayBeNext_55 en d v1 v2 v3 (0 : Int32) s else gd (p_inB v1 200 = true) (if (s.1 130 v1.toNatClampNeg) ≤ (s.1 131 v3.toNatClampNeg) then L_X1_mayBeNext_55 en d v1 v2 v3 (0 : Int32) s else L_X1_mayBeNext_55 en d v1 v2 v3 (1 : Int32) s))) (L_X1_mayBeNext_12 en d v1 v2 v3 s) := by
  show qle _ (qE (qev en d) en (some .boolean) tb_X1_mayBeNext (12, [(0, .ref 125), (1, .int v1), (2, .int v2), (3, .int v3)], []) s)
  refine e_L 2 (f' := (14, [(0, .ref 125), (1, .int v1), (2, .int v2), (3, .int v3)], [.ref 125, .int v3])) rfl ?_
  refine e_gI 1 8 rfl rfl lc_125 ?_
  refine e_icmp 78 rfl rfl rfl (fun c1 => ?_) (fun c1 => ?_)
  · refine e_L 1 (f' := (79, [(0, .ref 125), (1, .int v1), (2, .int v2), (3, .int v3)], [.int (1 : Int32)])) rfl ?_
    exact e_rZ rfl rfl (by decide)
  · refine e_L 1 (f' := (21, [(0, .ref 125), (1, .int v1), (2, .int v2), (3, .int v3)], [.ref 125])) rfl ?_
    refine e_gR (q := 126) 1 0 rfl rfl lc_125 lr_125_0 ?_
    refine e_L 1 (f' := (25, [(0, .ref 125), (1, .int v1), (2, .int v2), (3, .int v3)], [.int (4 : Int32), .ref 126])) rfl ?_
    refine e_aal (n := 6) (q := 131) rfl lc_126 ln_126 (by decide +kernel) (by decide +kernel) ?_
    refine e_L 1 (f' := (27, [(0, .ref 125), (1, .int v1), (2, .int v2), (3, .int v3)], [.int v3, .ref 131])) rfl ?_
    refine qle_gd fun h2 => ?_
    refine e_ial (n := 200) (k := v3.toNatClampNeg) rfl lc_131 ln_131 h2 rfl ?_
    refine e_ifz 54 rfl rfl rfl (fun c3 => ?_) (fun c3 => ?_)
    · refine e_L 1 (f' := (55, [(0, .ref 125), (1, .int v1), (2, .int v2), (3, .int v3)], [.int (0 : Int32)])) rfl ?_
      exact qE_sub (qsubL [0, 1, 2, 3] rfl (ks := [0, 1, 2, 3]) rfl (by decide))
    · refine e_L 1 (f' := (32, [(0, .ref 125), (1, .int v1), (2, .int v2), (3, .int v3)], [.ref 125])) rfl ?_
      refine e_gR (q := 126) 1 0 rfl rfl lc_125 lr_125_0 ?_
      refine e_L 1 (f' := (36, [(0, .ref 125), (1, .int v1), (2, .int v2), (3, .int v3)], [.int (4 : Int32), .ref 126])) rfl ?_
      refine e_aal (n := 6) (q := 131) rfl lc_126 ln_126 (by decide +kernel) (by decide +kernel) ?_
      refine e_L 1 (f' := (38, [(0, .ref 125), (1, .int v1), (2, .int v2), (3, .int v3)], [.int v3, .ref 131])) rfl ?_
      refine e_ial (n := 200) (k := v3.toNatClampNeg) rfl lc_131 ln_131 h2 rfl ?_
      refine e_L 1 (f' := (40, [(0, .ref 125), (1, .int v1), (2, .int v2), (3, .int v3)], [.ref 125, .int (s.1 131 v3.toNatClampNeg)])) rfl ?_
      refine e_gR (q := 126) 1 0 rfl rfl lc_125 lr_125_0 ?_
      refine e_L 1 (f' := (44, [(0, .ref 125), (1, .int v1), (2, .int v2), (3, .int v3)], [.int (3 : Int32), .ref 126, .int (s.1 131 v3.toNatClampNeg)])) rfl ?_
      refine e_aal (n := 6) (q := 130) rfl lc_126 ln_126 (by decide +kernel) (by decide +kernel) ?_
      refine e_L 1 (f' := (46, [(0, .ref 125), (1, .int v1), (2, .int v2), (3, .int v3)], [.int v1, .ref 130, .int (s.1 131 v3.toNatClampNeg)])) rfl ?_
      refine qle_gd fun h4 => ?_
      refine e_ial (n := 200) (k := v1.toNatClampNeg) rfl lc_130 ln_130 h4 rfl ?_
      refine e_icmp 54 rfl rfl rfl (fun c5 => ?_) (fun c5 => ?_)
      · refine e_L 1 (f' := (55, [(0, .ref 125), (1, .int v1), (2, .int v2), (3, .int v3)], [.int (0 : Int32)])) rfl ?_
        exact qE_sub (qsubL [0, 1, 2, 3] rfl (ks := [0, 1, 2, 3]) rfl (by decide))
      · refine e_L 2 (f' := (55, [(0, .ref 125), (1, .int v1), (2, .int v2), (3, .int v3)], [.int (1 : Int32)])) rfl ?_
        exact qE_sub (qsubL [0, 1, 2, 3] rfl (ks := [0, 1, 2, 3]) rfl (by decide))
set_option maxRecDepth 100000 in
set_option maxHeartbeats 4000000 in
theorem le_X1_mayBeNext_55 (en : pN) (d : Nat) (v1 : Int32) (v2 : Int32) (v3 : Int32) (vs0 : Int32) (s : qS) : qle (if vs0 = (0 : Int32) then L_X1_mayBeNext_12 en d v1 v2 (v3 + (1 : Int32)) s else if ¬ ((v2 >>> (v3 &&& 31)) &&& (1 : Int32)) = (0 : Int32) then L_X1_mayBeNext_12 en d v1 v2 (v3 + (1 : Int32)) s else some (some (.int (0 : Int32)), s)) (L_X1_mayBeNext_55 en d v1 v2 v3 vs0 s) := by
  show qle _ (qE (qev en d) en (some .boolean) tb_X1_mayBeNext (55, [(0, .ref 125), (1, .int v1), (2, .int v2), (3, .int v3)], [.int vs0]) s)
  refine e_L 2 (f' := (59, [(4, .int vs0), (0, .ref 125), (1, .int v1), (2, .int v2), (3, .int v3)], [.int vs0])) rfl ?_
  refine e_ifz 72 rfl rfl rfl (fun c1 => ?_) (fun c1 => ?_)
  · refine e_L 2 (f' := (12, [(3, .int (v3 + (1 : Int32))), (4, .int vs0), (0, .ref 125), (1, .int v1), (2, .int v2)], [])) rfl ?_
    exact qE_sub (qsubL [2, 3, 4, 0] rfl (ks := [3, 4, 0, 1, 2]) rfl (by decide))
  · refine e_L 5 (f' := (67, [(4, .int vs0), (0, .ref 125), (1, .int v1), (2, .int v2), (3, .int v3)], [.int ((v2 >>> (v3 &&& 31)) &&& (1 : Int32))])) rfl ?_
    refine e_ifz 72 rfl rfl rfl (fun c2 => ?_) (fun c2 => ?_)
    · refine e_L 2 (f' := (12, [(3, .int (v3 + (1 : Int32))), (4, .int vs0), (0, .ref 125), (1, .int v1), (2, .int v2)], [])) rfl ?_
      exact qE_sub (qsubL [2, 3, 4, 0] rfl (ks := [3, 4, 0, 1, 2]) rfl (by decide))
    · refine e_L 1 (f' := (71, [(4, .int vs0), (0, .ref 125), (1, .int v1), (2, .int v2), (3, .int v3)], [.int (0 : Int32)])) rfl ?_
      exact e_rZ rfl rfl (by decide)
set_option maxRecDepth 100000 in
set_option maxHeartbeats 4000000 in
theorem le_X1_mayBeNext (en : pN) (d : Nat) (a1 : Int32) (a2 : Int32) (s : qS) : qle (if ((a2 >>> (a1 &&& 31)) &&& (1 : Int32)) = (0 : Int32) then L_X1_mayBeNext_12 en d a1 a2 (0 : Int32) s else some (some (.int (0 : Int32)), s)) (qev en (d + 1) 16 [.ref 125, .int a1, .int a2] s) := by
  refine e_enter ix_X1_mayBeNext (Nat.le_of_ble_eq_true rfl) ?_
  show qle _ (qE (qev en d) en (some .boolean) tb_X1_mayBeNext (0, [(0, .ref 125), (1, .int a1), (2, .int a2)], []) s)
  refine e_L 5 (f' := (5, [(0, .ref 125), (1, .int a1), (2, .int a2)], [.int ((a2 >>> (a1 &&& 31)) &&& (1 : Int32))])) rfl ?_
  refine e_ifz 10 rfl rfl rfl (fun c1 => ?_) (fun c1 => ?_)
  · refine e_L 2 (f' := (12, [(3, .int (0 : Int32)), (0, .ref 125), (1, .int a1), (2, .int a2)], [])) rfl ?_
    exact qE_sub (qsubL [1, 2, 3, 0] rfl (ks := [3, 0, 1, 2]) rfl (by decide))
  · refine e_L 1 (f' := (9, [(0, .ref 125), (1, .int a1), (2, .int a2)], [.int (0 : Int32)])) rfl ?_
    exact e_rZ rfl rfl (by decide)
noncomputable def L_X1_perform_59 (en : pN) (d : Nat) (v2 : Int32) (r3 : Nat) (r4 : Nat) (v5 : Int32) (v6 : Int32) (vs0 : Int32) (s : qS) : Option qR := qE (qev en d) en (some .int) tb_X1_perform (59, [(0, .ref 125), (2, .int v2), (3, .ref r3), (4, .ref r4), (5, .int v5), (6, .int v6)], [.int vs0]) s
noncomputable def L_X1_perform_116 (en : pN) (d : Nat) (r3 : Nat) (v7 : Int32) (rs0 : Nat) (vs1 : Int32) (vs2 : Int32) (s : qS) : Option qR := qE (qev en d) en (some .int) tb_X1_perform (116, [(0, .ref 125), (3, .ref r3), (7, .int v7)], [.int vs2, .int vs1, .ref rs0]) s
noncomputable def L_X1_perform_117 (en : pN) (d : Nat) (r3 : Nat) (v7 : Int32) (s : qS) : Option qR := qE (qev en d) en (some .int) tb_X1_perform (117, [(0, .ref 125), (3, .ref r3), (7, .int v7)], []) s
noncomputable def L_X1_perform_133 (en : pN) (d : Nat) (r3 : Nat) (s : qS) : Option qR := qE (qev en d) en (some .int) tb_X1_perform (133, [(3, .ref r3)], []) s
set_option maxRecDepth 100000 in
set_option maxHeartbeats 4000000 in
theorem le_X1_perform_59 (en : pN) (d : Nat) (v2 : Int32) (r3 : Nat) (r4 : Nat) (v5 : Int32) (v6 : Int32) (vs0 : Int32) (s : qS) : qle (gd (lc r3 = 20) (gd (lc r4 = 20) (gd (cpG (0 : Int32) (0 : Int32) (13 : Int32) (ln r3) (ln r4)) (nm (uIr s r4 (va_cpy (s.1 r3) (s.1 r4) (0 : Int32).toNatClampNeg (0 : Int32).toNatClampNeg (13 : Int32).toNatClampNeg)) (fun s2 => gd (p_inB (v2 + (1 : Int32)) 13 = true) (nm (uI s2 147 ((v2 + (1 : Int32)).toNatClampNeg) v5) (fun s4 => if (1 : Int32) < (s4.1 125 10) then if vs0 = (0 : Int32) then if ¬ v5 = (0 : Int32) then nm (uI s4 147 ((v2 + (1 : Int32)).toNatClampNeg) (v5 - (1 : Int32))) (fun s8 => if ¬ (s8.1 125 10) = (2 : Int32) then gd (cpG (1 : Int32) (0 : Int32) (v5 - (1 : Int32)) (ln r3) (ln r4)) (nm (uIr s8 r4 (va_cpy (s8.1 r3) (s8.1 r4) (1 : Int32).toNatClampNeg (0 : Int32).toNatClampNeg (v5 - (1 : Int32)).toNatClampNeg)) (fun s11 => gd (p_inB (0 : Int32) (ln r3) = true) (some (some (.int (s11.1 r3 0)), s11)))) else gd (p_inB (v5 - (1 : Int32)) (ln r3) = true) (some (some (.int (s8.1 r3 (v5 - (1 : Int32)).toNatClampNeg)), s8))) else some (some (.int (-1 : Int32)), s4) else gd (p_inB v5 (ln r4) = true) (nm (uI s4 r4 (v5.toNatClampNeg) v6) (fun s15 => nm (uI s15 147 ((v2 + (1 : Int32)).toNatClampNeg) (v5 + (1 : Int32))) (fun s16 => some (some (.int (0 : Int32)), s16)))) else if vs0 = (0 : Int32) then L_X1_perform_117 en d r3 vs0 s4 else if ¬ (s4.1 125 10) = (1 : Int32) then L_X1_perform_116 en d r3 vs0 r4 (0 : Int32) v6 s4 else gd (p_inB (0 : Int32) (ln r3) = true) (L_X1_perform_116 en d r3 vs0 r4 (0 : Int32) ((s4.1 r3 0) + v6) s4)))))))) (L_X1_perform_59 en d v2 r3 r4 v5 v6 vs0 s) := by
  show qle _ (qE (qev en d) en (some .int) tb_X1_perform (59, [(0, .ref 125), (2, .int v2), (3, .ref r3), (4, .ref r4), (5, .int v5), (6, .int v6)], [.int vs0]) s)
  refine qle_gd fun h_r3 => ?_
  refine qle_gd fun h_r4 => ?_
  refine e_L 6 (f' := (68, [(7, .int vs0), (0, .ref 125), (2, .int v2), (3, .ref r3), (4, .ref r4), (5, .int v5), (6, .int v6)], [.int (13 : Int32), .int (0 : Int32), .ref r4, .int (0 : Int32), .ref r3])) rfl ?_
  refine qle_gd fun h1 => ?_
  refine e_cpI (n0 := (ln r3)) (n1 := (ln r4)) rfl rfl (Nat.le_of_ble_eq_true rfl) ⟨h_r3, h_r4⟩ rfl rfl h1 ?_
  refine e_nS fun s2 => ?_
  refine e_L 1 (f' := (72, [(7, .int vs0), (0, .ref 125), (2, .int v2), (3, .ref r3), (4, .ref r4), (5, .int v5), (6, .int v6)], [.ref 125])) rfl ?_
  refine e_gR (q := 147) 1 2 rfl rfl lc_125 lr_125_2 ?_
  refine e_L 4 (f' := (80, [(7, .int vs0), (0, .ref 125), (2, .int v2), (3, .ref r3), (4, .ref r4), (5, .int v5), (6, .int v6)], [.int v5, .int (v2 + (1 : Int32)), .ref 147])) rfl ?_
  refine qle_gd fun h3 => ?_
  refine e_ias (n := 13) (k := (v2 + (1 : Int32)).toNatClampNeg) rfl lc_147 ln_147 h3 rfl ?_
  refine e_nS fun s4 => ?_
  refine e_L 1 (f' := (82, [(7, .int vs0), (0, .ref 125), (2, .int v2), (3, .ref r3), (4, .ref r4), (5, .int v5), (6, .int v6)], [.ref 125])) rfl ?_
  refine e_gI 1 10 rfl rfl lc_125 ?_
  refine e_L 1 (f' := (86, [(7, .int vs0), (0, .ref 125), (2, .int v2), (3, .ref r3), (4, .ref r4), (5, .int v5), (6, .int v6)], [.int (1 : Int32), .int (s4.1 125 10)])) rfl ?_
  refine e_icmp 137 rfl rfl rfl (fun c5 => ?_) (fun c5 => ?_)
  · refine e_L 1 (f' := (139, [(7, .int vs0), (0, .ref 125), (2, .int v2), (3, .ref r3), (4, .ref r4), (5, .int v5), (6, .int v6)], [.int vs0])) rfl ?_
    refine e_ifz 163 rfl rfl rfl (fun c6 => ?_) (fun c6 => ?_)
    · refine e_L 1 (f' := (165, [(7, .int vs0), (0, .ref 125), (2, .int v2), (3, .ref r3), (4, .ref r4), (5, .int v5), (6, .int v6)], [.int v5])) rfl ?_
      refine e_ifz 170 rfl rfl rfl (fun c7 => ?_) (fun c7 => ?_)
      · refine e_L 1 (f' := (171, [(7, .int vs0), (0, .ref 125), (2, .int v2), (3, .ref r3), (4, .ref r4), (5, .int v5), (6, .int v6)], [.ref 125])) rfl ?_
        refine e_gR (q := 147) 1 2 rfl rfl lc_125 lr_125_2 ?_
        refine e_L 6 (f' := (181, [(7, .int vs0), (0, .ref 125), (2, .int v2), (3, .ref r3), (4, .ref r4), (5, .int v5), (6, .int v6)], [.int (v5 - (1 : Int32)), .int (v2 + (1 : Int32)), .ref 147])) rfl ?_
        refine e_ias (n := 13) (k := (v2 + (1 : Int32)).toNatClampNeg) rfl lc_147 ln_147 h3 rfl ?_
        refine e_nS fun s8 => ?_
        refine e_L 1 (f' := (183, [(7, .int vs0), (0, .ref 125), (2, .int v2), (3, .ref r3), (4, .ref r4), (5, .int v5), (6, .int v6)], [.ref 125])) rfl ?_
        refine e_gI 1 10 rfl rfl lc_125 ?_
        refine e_L 1 (f' := (187, [(7, .int vs0), (0, .ref 125), (2, .int v2), (3, .ref r3), (4, .ref r4), (5, .int v5), (6, .int v6)], [.int (2 : Int32), .int (s8.1 125 10)])) rfl ?_
        refine e_icmp 197 rfl rfl rfl (fun c9 => ?_) (fun c9 => ?_)
        · refine e_L 7 (f' := (206, [(7, .int vs0), (0, .ref 125), (2, .int v2), (3, .ref r3), (4, .ref r4), (5, .int v5), (6, .int v6)], [.int (v5 - (1 : Int32)), .int (0 : Int32), .ref r4, .int (1 : Int32), .ref r3])) rfl ?_
          refine qle_gd fun h10 => ?_
          refine e_cpI (n0 := (ln r3)) (n1 := (ln r4)) rfl rfl (Nat.le_of_ble_eq_true rfl) ⟨h_r3, h_r4⟩ rfl rfl h10 ?_
          refine e_nS fun s11 => ?_
          refine e_L 2 (f' := (211, [(7, .int vs0), (0, .ref 125), (2, .int v2), (3, .ref r3), (4, .ref r4), (5, .int v5), (6, .int v6)], [.int (0 : Int32), .ref r3])) rfl ?_
          refine qle_gd fun h12 => ?_
          refine e_ial (n := (ln r3)) (k := 0) rfl h_r3 rfl h12 (by decide +kernel) ?_
          exact e_rI rfl rfl
        · refine e_L 4 (f' := (195, [(7, .int vs0), (0, .ref 125), (2, .int v2), (3, .ref r3), (4, .ref r4), (5, .int v5), (6, .int v6)], [.int (v5 - (1 : Int32)), .ref r3])) rfl ?_
          refine qle_gd fun h13 => ?_
          refine e_ial (n := (ln r3)) (k := (v5 - (1 : Int32)).toNatClampNeg) rfl h_r3 rfl h13 rfl ?_
          exact e_rI rfl rfl
      · refine e_L 1 (f' := (169, [(7, .int vs0), (0, .ref 125), (2, .int v2), (3, .ref r3), (4, .ref r4), (5, .int v5), (6, .int v6)], [.int (-1 : Int32)])) rfl ?_
        exact e_rI rfl rfl
    · refine e_L 3 (f' := (148, [(7, .int vs0), (0, .ref 125), (2, .int v2), (3, .ref r3), (4, .ref r4), (5, .int v5), (6, .int v6)], [.int v6, .int v5, .ref r4])) rfl ?_
      refine qle_gd fun h14 => ?_
      refine e_ias (n := (ln r4)) (k := v5.toNatClampNeg) rfl h_r4 rfl h14 rfl ?_
      refine e_nS fun s15 => ?_
      refine e_L 1 (f' := (150, [(7, .int vs0), (0, .ref 125), (2, .int v2), (3, .ref r3), (4, .ref r4), (5, .int v5), (6, .int v6)], [.ref 125])) rfl ?_
      refine e_gR (q := 147) 1 2 rfl rfl lc_125 lr_125_2 ?_
      refine e_L 6 (f' := (160, [(7, .int vs0), (0, .ref 125), (2, .int v2), (3, .ref r3), (4, .ref r4), (5, .int v5), (6, .int v6)], [.int (v5 + (1 : Int32)), .int (v2 + (1 : Int32)), .ref 147])) rfl ?_
      refine e_ias (n := 13) (k := (v2 + (1 : Int32)).toNatClampNeg) rfl lc_147 ln_147 h3 rfl ?_
      refine e_nS fun s16 => ?_
      refine e_L 1 (f' := (162, [(7, .int vs0), (0, .ref 125), (2, .int v2), (3, .ref r3), (4, .ref r4), (5, .int v5), (6, .int v6)], [.int (0 : Int32)])) rfl ?_
      exact e_rI rfl rfl
  · refine e_L 1 (f' := (91, [(7, .int vs0), (0, .ref 125), (2, .int v2), (3, .ref r3), (4, .ref r4), (5, .int v5), (6, .int v6)], [.int vs0])) rfl ?_
    refine e_ifz 117 rfl rfl rfl (fun c17 => ?_) (fun c17 => ?_)
    · exact qE_sub (qsubL [1, 3, 0] rfl (ks := [7, 0, 2, 3, 4, 5, 6]) rfl (by decide))
    · refine e_L 3 (f' := (98, [(7, .int vs0), (0, .ref 125), (2, .int v2), (3, .ref r3), (4, .ref r4), (5, .int v5), (6, .int v6)], [.ref 125, .int (0 : Int32), .ref r4])) rfl ?_
      refine e_gI 1 10 rfl rfl lc_125 ?_
      refine e_L 1 (f' := (102, [(7, .int vs0), (0, .ref 125), (2, .int v2), (3, .ref r3), (4, .ref r4), (5, .int v5), (6, .int v6)], [.int (1 : Int32), .int (s4.1 125 10), .int (0 : Int32), .ref r4])) rfl ?_
      refine e_icmp 114 rfl rfl rfl (fun c18 => ?_) (fun c18 => ?_)
      · refine e_L 1 (f' := (116, [(7, .int vs0), (0, .ref 125), (2, .int v2), (3, .ref r3), (4, .ref r4), (5, .int v5), (6, .int v6)], [.int v6, .int (0 : Int32), .ref r4])) rfl ?_
        exact qE_sub (qsubL [1, 3, 0] rfl (ks := [7, 0, 2, 3, 4, 5, 6]) rfl (by decide))
      · refine e_L 2 (f' := (107, [(7, .int vs0), (0, .ref 125), (2, .int v2), (3, .ref r3), (4, .ref r4), (5, .int v5), (6, .int v6)], [.int (0 : Int32), .ref r3, .int (0 : Int32), .ref r4])) rfl ?_
        refine qle_gd fun h19 => ?_
        refine e_ial (n := (ln r3)) (k := 0) rfl h_r3 rfl h19 (by decide +kernel) ?_
        refine e_L 3 (f' := (116, [(7, .int vs0), (0, .ref 125), (2, .int v2), (3, .ref r3), (4, .ref r4), (5, .int v5), (6, .int v6)], [.int ((s4.1 r3 0) + v6), .int (0 : Int32), .ref r4])) rfl ?_
        exact qE_sub (qsubL [1, 3, 0] rfl (ks := [7, 0, 2, 3, 4, 5, 6]) rfl (by decide))
set_option maxRecDepth 100000 in
set_option maxHeartbeats 4000000 in
theorem le_X1_perform_116 (en : pN) (d : Nat) (r3 : Nat) (v7 : Int32) (rs0 : Nat) (vs1 : Int32) (vs2 : Int32) (s : qS) : qle (gd (lc r3 = 20) (gd (lc rs0 = 20) (gd (p_inB vs1 (ln rs0) = true) (nm (uI s rs0 (vs1.toNatClampNeg) vs2) (fun s2 => L_X1_perform_117 en d r3 v7 s2))))) (L_X1_perform_116 en d r3 v7 rs0 vs1 vs2 s) := by
  show qle _ (qE (qev en d) en (some .int) tb_X1_perform (116, [(0, .ref 125), (3, .ref r3), (7, .int v7)], [.int vs2, .int vs1, .ref rs0]) s)
  refine qle_gd fun h_r3 => ?_
  refine qle_gd fun h_rs0 => ?_
  refine qle_gd fun h1 => ?_
  refine e_ias (n := (ln rs0)) (k := vs1.toNatClampNeg) rfl h_rs0 rfl h1 rfl ?_
  refine e_nS fun s2 => ?_
  exact qE_sub (qsubL [0, 1, 2] rfl (ks := [0, 3, 7]) rfl (by decide))
set_option maxRecDepth 100000 in
set_option maxHeartbeats 4000000 in
theorem le_X1_perform_117 (en : pN) (d : Nat) (r3 : Nat) (v7 : Int32) (s : qS) : qle (gd (lc r3 = 20) (if v7 = (0 : Int32) then L_X1_perform_133 en d r3 s else if ¬ (s.1 125 10) = (0 : Int32) then L_X1_perform_133 en d r3 s else some (some (.int (0 : Int32)), s))) (L_X1_perform_117 en d r3 v7 s) := by
  show qle _ (qE (qev en d) en (some .int) tb_X1_perform (117, [(0, .ref 125), (3, .ref r3), (7, .int v7)], []) s)
  refine qle_gd fun h_r3 => ?_
  refine e_L 1 (f' := (119, [(0, .ref 125), (3, .ref r3), (7, .int v7)], [.int v7])) rfl ?_
  refine e_ifz 133 rfl rfl rfl (fun c1 => ?_) (fun c1 => ?_)
  · exact qE_sub (qsubL [1] rfl (ks := [0, 3, 7]) rfl (by decide))
  · refine e_L 1 (f' := (123, [(0, .ref 125), (3, .ref r3), (7, .int v7)], [.ref 125])) rfl ?_
    refine e_gI 1 10 rfl rfl lc_125 ?_
    refine e_ifz 133 rfl rfl rfl (fun c2 => ?_) (fun c2 => ?_)
    · exact qE_sub (qsubL [1] rfl (ks := [0, 3, 7]) rfl (by decide))
    · refine e_L 2 (f' := (136, [(0, .ref 125), (3, .ref r3), (7, .int v7)], [.int (0 : Int32)])) rfl ?_
      exact e_rI rfl rfl
set_option maxRecDepth 100000 in
set_option maxHeartbeats 4000000 in
theorem le_X1_perform_133 (en : pN) (d : Nat) (r3 : Nat) (s : qS) : qle (gd (lc r3 = 20) (gd (p_inB (0 : Int32) (ln r3) = true) (some (some (.int (s.1 r3 0)), s)))) (L_X1_perform_133 en d r3 s) := by
  show qle _ (qE (qev en d) en (some .int) tb_X1_perform (133, [(3, .ref r3)], []) s)
  refine qle_gd fun h_r3 => ?_
  refine e_L 2 (f' := (135, [(3, .ref r3)], [.int (0 : Int32), .ref r3])) rfl ?_
  refine qle_gd fun h1 => ?_
  refine e_ial (n := (ln r3)) (k := 0) rfl h_r3 rfl h1 (by decide +kernel) ?_
  exact e_rI rfl rfl
set_option maxRecDepth 100000 in
set_option maxHeartbeats 4000000 in
theorem le_X1_perform (en : pN) (d : Nat) (a1 : Int32) (a2 : Int32) (s : qS) : qle (gd (p_inB a2 13 = true) (gd (p_inB (a2 + (1 : Int32)) 13 = true) (nm (s.1 147 a2.toNatClampNeg) (fun z3 => gd (p_inB a1 200 = true) (nm (s.1 129 a1.toNatClampNeg) (fun z5 => gd (p_inB (s.1 125 10) 4 = true) (if ¬ (s.1 128 a1.toNatClampNeg) = (([0, 2, 3, 5] : List Int32).getD (s.1 125 10).toNatClampNeg 0) then L_X1_perform_59 en d a2 (134 + a2.toNatClampNeg) (134 + (a2 + (1 : Int32)).toNatClampNeg) z3 z5 (0 : Int32) s else L_X1_perform_59 en d a2 (134 + a2.toNatClampNeg) (134 + (a2 + (1 : Int32)).toNatClampNeg) z3 z5 (1 : Int32) s))))))) (qev en (d + 1) 17 [.ref 125, .int a1, .int a2] s) := by
  refine e_enter ix_X1_perform (Nat.le_of_ble_eq_true rfl) ?_
  show qle _ (qE (qev en d) en (some .int) tb_X1_perform (0, [(0, .ref 125), (1, .int a1), (2, .int a2)], []) s)
  refine e_L 1 (f' := (1, [(0, .ref 125), (1, .int a1), (2, .int a2)], [.ref 125])) rfl ?_
  refine e_gR (q := 133) 1 1 rfl rfl lc_125 lr_125_1 ?_
  refine e_L 1 (f' := (5, [(0, .ref 125), (1, .int a1), (2, .int a2)], [.int a2, .ref 133])) rfl ?_
  refine qle_gd fun h1 => ?_
  refine e_aal (n := 13) (q := (134 + a2.toNatClampNeg)) rfl lc_133 ln_133 h1 (row_e_133 _) ?_
  refine e_L 2 (f' := (8, [(3, .ref (134 + a2.toNatClampNeg)), (0, .ref 125), (1, .int a1), (2, .int a2)], [.ref 125])) rfl ?_
  refine e_gR (q := 133) 1 1 rfl rfl lc_125 lr_125_1 ?_
  refine e_L 3 (f' := (14, [(3, .ref (134 + a2.toNatClampNeg)), (0, .ref 125), (1, .int a1), (2, .int a2)], [.int (a2 + (1 : Int32)), .ref 133])) rfl ?_
  refine qle_gd fun h2 => ?_
  refine e_aal (n := 13) (q := (134 + (a2 + (1 : Int32)).toNatClampNeg)) rfl lc_133 ln_133 h2 (row_e_133 _) ?_
  refine e_L 2 (f' := (18, [(4, .ref (134 + (a2 + (1 : Int32)).toNatClampNeg)), (3, .ref (134 + a2.toNatClampNeg)), (0, .ref 125), (1, .int a1), (2, .int a2)], [.ref 125])) rfl ?_
  refine e_gR (q := 147) 1 2 rfl rfl lc_125 lr_125_2 ?_
  refine e_L 1 (f' := (22, [(4, .ref (134 + (a2 + (1 : Int32)).toNatClampNeg)), (3, .ref (134 + a2.toNatClampNeg)), (0, .ref 125), (1, .int a1), (2, .int a2)], [.int a2, .ref 147])) rfl ?_
  refine e_ial (n := 13) (k := a2.toNatClampNeg) rfl lc_147 ln_147 h1 rfl ?_
  refine e_nI fun z3 => ?_
  refine e_L 2 (f' := (26, [(5, .int z3), (4, .ref (134 + (a2 + (1 : Int32)).toNatClampNeg)), (3, .ref (134 + a2.toNatClampNeg)), (0, .ref 125), (1, .int a1), (2, .int a2)], [.ref 125])) rfl ?_
  refine e_gR (q := 126) 1 0 rfl rfl lc_125 lr_125_0 ?_
  refine e_L 1 (f' := (30, [(5, .int z3), (4, .ref (134 + (a2 + (1 : Int32)).toNatClampNeg)), (3, .ref (134 + a2.toNatClampNeg)), (0, .ref 125), (1, .int a1), (2, .int a2)], [.int (2 : Int32), .ref 126])) rfl ?_
  refine e_aal (n := 6) (q := 129) rfl lc_126 ln_126 (by decide +kernel) (by decide +kernel) ?_
  refine e_L 1 (f' := (32, [(5, .int z3), (4, .ref (134 + (a2 + (1 : Int32)).toNatClampNeg)), (3, .ref (134 + a2.toNatClampNeg)), (0, .ref 125), (1, .int a1), (2, .int a2)], [.int a1, .ref 129])) rfl ?_
  refine qle_gd fun h4 => ?_
  refine e_ial (n := 200) (k := a1.toNatClampNeg) rfl lc_129 ln_129 h4 rfl ?_
  refine e_nI fun z5 => ?_
  refine e_L 2 (f' := (36, [(6, .int z5), (5, .int z3), (4, .ref (134 + (a2 + (1 : Int32)).toNatClampNeg)), (3, .ref (134 + a2.toNatClampNeg)), (0, .ref 125), (1, .int a1), (2, .int a2)], [.ref 125])) rfl ?_
  refine e_gR (q := 126) 1 0 rfl rfl lc_125 lr_125_0 ?_
  refine e_L 1 (f' := (40, [(6, .int z5), (5, .int z3), (4, .ref (134 + (a2 + (1 : Int32)).toNatClampNeg)), (3, .ref (134 + a2.toNatClampNeg)), (0, .ref 125), (1, .int a1), (2, .int a2)], [.int (1 : Int32), .ref 126])) rfl ?_
  refine e_aal (n := 6) (q := 128) rfl lc_126 ln_126 (by decide +kernel) (by decide +kernel) ?_
  refine e_L 1 (f' := (42, [(6, .int z5), (5, .int z3), (4, .ref (134 + (a2 + (1 : Int32)).toNatClampNeg)), (3, .ref (134 + a2.toNatClampNeg)), (0, .ref 125), (1, .int a1), (2, .int a2)], [.int a1, .ref 128])) rfl ?_
  refine e_ial (n := 200) (k := a1.toNatClampNeg) rfl lc_128 ln_128 h4 rfl ?_
  refine e_gs (w := .retAddr 7) rfl rfl ?_
  refine e_L 1 (f' := (47, [(6, .int z5), (5, .int z3), (4, .ref (134 + (a2 + (1 : Int32)).toNatClampNeg)), (3, .ref (134 + a2.toNatClampNeg)), (0, .ref 125), (1, .int a1), (2, .int a2)], [.ref 125, .retAddr 7, .int (s.1 128 a1.toNatClampNeg)])) rfl ?_
  refine e_gI 1 10 rfl rfl lc_125 ?_
  refine qle_gd fun h6 => ?_
  refine e_oal (n := 4) (f := (fun j => ([0, 2, 3, 5] : List Int32).getD j 0)) rfl rfl h6 ?_
  refine e_icmp 58 rfl rfl rfl (fun c7 => ?_) (fun c7 => ?_)
  · refine e_L 1 (f' := (59, [(6, .int z5), (5, .int z3), (4, .ref (134 + (a2 + (1 : Int32)).toNatClampNeg)), (3, .ref (134 + a2.toNatClampNeg)), (0, .ref 125), (1, .int a1), (2, .int a2)], [.int (0 : Int32)])) rfl ?_
    exact qE_sub (qsubL [4, 6, 3, 2, 1, 0] rfl (ks := [6, 5, 4, 3, 0, 1, 2]) rfl (by decide))
  · refine e_L 2 (f' := (59, [(6, .int z5), (5, .int z3), (4, .ref (134 + (a2 + (1 : Int32)).toNatClampNeg)), (3, .ref (134 + a2.toNatClampNeg)), (0, .ref 125), (1, .int a1), (2, .int a2)], [.int (1 : Int32)])) rfl ?_
    exact qE_sub (qsubL [4, 6, 3, 2, 1, 0] rfl (ks := [6, 5, 4, 3, 0, 1, 2]) rfl (by decide))
noncomputable def L_X2_holds_14 (en : pN) (d : Nat) (v1 : Int32) (v2 : Int32) (rs1 : Nat) (vs2 : Int32) (s : qS) : Option qR := qE (qev en d) en (some .boolean) tb_X2_holds (14, [(0, .ref 103), (1, .int v1), (2, .int v2)], [.int vs2, .ref rs1, .ref 103]) s
set_option maxRecDepth 100000 in
set_option maxHeartbeats 4000000 in
theorem le_X2_holds_14 (en : pN) (d : Nat) (v1 : Int32) (v2 : Int32) (rs1 : Nat) (vs2 : Int32) (s : qS) : qle (gd (lc rs1 = 20) (bV (qev en d 20 [.ref 103, .ref rs1, .int vs2] s) (fun s2 => swI v1.toInt 322 [bI (qev en d 22 [.ref 103, .int (1 : Int32), .int (0 : Int32)] s2) (fun w4 s5 => nm (uI s5 103 13 w4) (fun s7 => if ¬ (s7.1 103 13) = (-2 : Int32) then some (some (.int (0 : Int32)), s7) else some (some (.int (1 : Int32)), s7))), bI (qev en d 22 [.ref 103, .int (1 : Int32), .int (1 : Int32)] s2) (fun w9 s10 => nm (uI s10 103 13 w9) (fun s12 => if ¬ (s12.1 103 13) = (-2 : Int32) then some (some (.int (0 : Int32)), s12) else some (some (.int (1 : Int32)), s12))), bI (qev en d 22 [.ref 103, .int (1 : Int32), .int (1 : Int32)] s2) (fun w14 s15 => nm (uI s15 103 13 w14) (fun s17 => if (s17.1 103 13) = (-2 : Int32) then some (some (.int (0 : Int32)), s17) else some (some (.int (1 : Int32)), s17)))] (bV (qev en d 26 [.ref 103, .int v2] s2) (fun s20 => bV (qev en d 24 [.ref 103] s20) (fun s23 => bI (qev en d 22 [.ref 103, .int (12 : Int32), .int (12 : Int32)] s23) (fun w25 s26 => nm (uI s26 103 13 w25) (fun s28 => if ¬ (s28.1 103 13) = (-2 : Int32) then some (some (.int (0 : Int32)), s28) else some (some (.int (1 : Int32)), s28))))))))) (L_X2_holds_14 en d v1 v2 rs1 vs2 s) := by
  show qle _ (qE (qev en d) en (some .boolean) tb_X2_holds (14, [(0, .ref 103), (1, .int v1), (2, .int v2)], [.int vs2, .ref rs1, .ref 103]) s)
  refine qle_gd fun h_rs1 => ?_
  refine e_vV 20 rfl rfl ix_X2_flag rfl (q_recvOf lc_103 rfl) (Nat.le_of_ble_eq_true rfl) (fun s2 e3 => ?_)
  refine e_L 1 (f' := (18, [(0, .ref 103), (1, .int v1), (2, .int v2)], [.int v1])) rfl ?_
  refine e_tsw rfl (by decide) ⟨?_, ?_, ?_, trivial⟩ ?_
  · refine e_L 4 (f' := (48, [(0, .ref 103), (1, .int v1), (2, .int v2)], [.int (0 : Int32), .int (1 : Int32), .ref 103, .ref 103])) rfl ?_
    refine e_vI 22 rfl rfl ix_X2_least rfl (q_recvOf lc_103 rfl) (Nat.le_of_ble_eq_true rfl) (fun w4 s5 e6 => ?_)
    refine e_pI 2 13 rfl rfl lc_103 rfl ?_
    refine e_nS fun s7 => ?_
    refine e_L 1 (f' := (55, [(0, .ref 103), (1, .int v1), (2, .int v2)], [.ref 103])) rfl ?_
    refine e_gI 2 13 rfl rfl lc_103 ?_
    refine e_L 1 (f' := (60, [(0, .ref 103), (1, .int v1), (2, .int v2)], [.int (-2 : Int32), .int (s7.1 103 13)])) rfl ?_
    refine e_icmp 67 rfl rfl rfl (fun c8 => ?_) (fun c8 => ?_)
    · refine e_L 1 (f' := (68, [(0, .ref 103), (1, .int v1), (2, .int v2)], [.int (0 : Int32)])) rfl ?_
      exact e_rZ rfl rfl (by decide)
    · refine e_L 2 (f' := (68, [(0, .ref 103), (1, .int v1), (2, .int v2)], [.int (1 : Int32)])) rfl ?_
      exact e_rZ rfl rfl (by decide)
  · refine e_L 4 (f' := (73, [(0, .ref 103), (1, .int v1), (2, .int v2)], [.int (1 : Int32), .int (1 : Int32), .ref 103, .ref 103])) rfl ?_
    refine e_vI 22 rfl rfl ix_X2_least rfl (q_recvOf lc_103 rfl) (Nat.le_of_ble_eq_true rfl) (fun w9 s10 e11 => ?_)
    refine e_pI 2 13 rfl rfl lc_103 rfl ?_
    refine e_nS fun s12 => ?_
    refine e_L 1 (f' := (80, [(0, .ref 103), (1, .int v1), (2, .int v2)], [.ref 103])) rfl ?_
    refine e_gI 2 13 rfl rfl lc_103 ?_
    refine e_L 1 (f' := (85, [(0, .ref 103), (1, .int v1), (2, .int v2)], [.int (-2 : Int32), .int (s12.1 103 13)])) rfl ?_
    refine e_icmp 92 rfl rfl rfl (fun c13 => ?_) (fun c13 => ?_)
    · refine e_L 1 (f' := (93, [(0, .ref 103), (1, .int v1), (2, .int v2)], [.int (0 : Int32)])) rfl ?_
      exact e_rZ rfl rfl (by decide)
    · refine e_L 2 (f' := (93, [(0, .ref 103), (1, .int v1), (2, .int v2)], [.int (1 : Int32)])) rfl ?_
      exact e_rZ rfl rfl (by decide)
  · refine e_L 4 (f' := (98, [(0, .ref 103), (1, .int v1), (2, .int v2)], [.int (1 : Int32), .int (1 : Int32), .ref 103, .ref 103])) rfl ?_
    refine e_vI 22 rfl rfl ix_X2_least rfl (q_recvOf lc_103 rfl) (Nat.le_of_ble_eq_true rfl) (fun w14 s15 e16 => ?_)
    refine e_pI 2 13 rfl rfl lc_103 rfl ?_
    refine e_nS fun s17 => ?_
    refine e_L 1 (f' := (105, [(0, .ref 103), (1, .int v1), (2, .int v2)], [.ref 103])) rfl ?_
    refine e_gI 2 13 rfl rfl lc_103 ?_
    refine e_L 1 (f' := (110, [(0, .ref 103), (1, .int v1), (2, .int v2)], [.int (-2 : Int32), .int (s17.1 103 13)])) rfl ?_
    refine e_icmp 117 rfl rfl rfl (fun c18 => ?_) (fun c18 => ?_)
    · refine e_L 1 (f' := (118, [(0, .ref 103), (1, .int v1), (2, .int v2)], [.int (0 : Int32)])) rfl ?_
      exact e_rZ rfl rfl (by decide)
    · refine e_L 2 (f' := (118, [(0, .ref 103), (1, .int v1), (2, .int v2)], [.int (1 : Int32)])) rfl ?_
      exact e_rZ rfl rfl (by decide)
  · refine e_L 2 (f' := (121, [(0, .ref 103), (1, .int v1), (2, .int v2)], [.int v2, .ref 103])) rfl ?_
    refine e_vV 26 rfl rfl ix_X2_findLacking rfl (q_recvOf lc_103 rfl) (Nat.le_of_ble_eq_true rfl) (fun s20 e21 => ?_)
    refine e_L 1 (f' := (125, [(0, .ref 103), (1, .int v1), (2, .int v2)], [.ref 103])) rfl ?_
    refine e_vV 24 rfl rfl ix_X2_findReached rfl (q_recvOf lc_103 rfl) (Nat.le_of_ble_eq_true rfl) (fun s23 e24 => ?_)
    refine e_L 4 (f' := (134, [(0, .ref 103), (1, .int v1), (2, .int v2)], [.int (12 : Int32), .int (12 : Int32), .ref 103, .ref 103])) rfl ?_
    refine e_vI 22 rfl rfl ix_X2_least rfl (q_recvOf lc_103 rfl) (Nat.le_of_ble_eq_true rfl) (fun w25 s26 e27 => ?_)
    refine e_pI 2 13 rfl rfl lc_103 rfl ?_
    refine e_nS fun s28 => ?_
    refine e_L 1 (f' := (141, [(0, .ref 103), (1, .int v1), (2, .int v2)], [.ref 103])) rfl ?_
    refine e_gI 2 13 rfl rfl lc_103 ?_
    refine e_L 1 (f' := (146, [(0, .ref 103), (1, .int v1), (2, .int v2)], [.int (-2 : Int32), .int (s28.1 103 13)])) rfl ?_
    refine e_icmp 153 rfl rfl rfl (fun c29 => ?_) (fun c29 => ?_)
    · refine e_L 1 (f' := (154, [(0, .ref 103), (1, .int v1), (2, .int v2)], [.int (0 : Int32)])) rfl ?_
      exact e_rZ rfl rfl (by decide)
    · refine e_L 2 (f' := (154, [(0, .ref 103), (1, .int v1), (2, .int v2)], [.int (1 : Int32)])) rfl ?_
      exact e_rZ rfl rfl (by decide)
set_option maxRecDepth 100000 in
set_option maxHeartbeats 4000000 in
theorem le_X2_holds (en : pN) (d : Nat) (a1 : Int32) (a2 : Int32) (a3 : Nat) (s : qS) : qle (gd (lc a3 = 20) (if ¬ a1 = (326 : Int32) then L_X2_holds_14 en d a1 a2 a3 (0 : Int32) s else L_X2_holds_14 en d a1 a2 a3 (1 : Int32) s)) (qev en (d + 1) 19 [.ref 103, .int a1, .int a2, .ref a3] s) := by
  refine e_enter ix_X2_holds (Nat.le_of_ble_eq_true rfl) ?_
  show qle _ (qE (qev en d) en (some .boolean) tb_X2_holds (0, [(0, .ref 103), (1, .int a1), (2, .int a2), (3, .ref a3)], []) s)
  refine qle_gd fun h_a3 => ?_
  refine e_L 4 (f' := (6, [(0, .ref 103), (1, .int a1), (2, .int a2), (3, .ref a3)], [.int (326 : Int32), .int a1, .ref a3, .ref 103])) rfl ?_
  refine e_icmp 13 rfl rfl rfl (fun c1 => ?_) (fun c1 => ?_)
  · refine e_L 1 (f' := (14, [(0, .ref 103), (1, .int a1), (2, .int a2), (3, .ref a3)], [.int (0 : Int32), .ref a3, .ref 103])) rfl ?_
    exact qE_sub (qsubL [0, 1, 2] rfl (ks := [0, 1, 2, 3]) rfl (by decide))
  · refine e_L 2 (f' := (14, [(0, .ref 103), (1, .int a1), (2, .int a2), (3, .ref a3)], [.int (1 : Int32), .ref a3, .ref 103])) rfl ?_
    exact qE_sub (qsubL [0, 1, 2] rfl (ks := [0, 1, 2, 3]) rfl (by decide))
noncomputable def L_X2_flag_14 (en : pN) (d : Nat) (r1 : Nat) (v2 : Int32) (v4 : Int32) (s : qS) : Option qR := qE (qev en d) en none tb_X2_flag (14, [(0, .ref 103), (1, .ref r1), (2, .int v2), (3, .ref 72), (4, .int v4)], []) s
noncomputable def L_X2_flag_87 (en : pN) (d : Nat) (r1 : Nat) (v2 : Int32) (v4 : Int32) (vs1 : Int32) (vs2 : Int32) (s : qS) : Option qR := qE (qev en d) en none tb_X2_flag (87, [(0, .ref 103), (1, .ref r1), (2, .int v2), (3, .ref 72), (4, .int v4)], [.int vs2, .int vs1, .ref 72]) s
noncomputable def L_X2_flag_121 (en : pN) (d : Nat) (r1 : Nat) (v2 : Int32) (v4 : Int32) (v5 : Int32) (vs0 : Int32) (s : qS) : Option qR := qE (qev en d) en none tb_X2_flag (121, [(0, .ref 103), (1, .ref r1), (2, .int v2), (3, .ref 72), (4, .int v4), (5, .int v5)], [.int vs0]) s
noncomputable def L_X2_flag_142 (en : pN) (d : Nat) (r1 : Nat) (v2 : Int32) (v4 : Int32) (v6 : Int32) (vs0 : Int32) (s : qS) : Option qR := qE (qev en d) en none tb_X2_flag (142, [(0, .ref 103), (1, .ref r1), (2, .int v2), (3, .ref 72), (4, .int v4), (6, .int v6)], [.int vs0]) s
noncomputable def L_X2_flag_160 (en : pN) (d : Nat) (r1 : Nat) (v2 : Int32) (v4 : Int32) (v7 : Int32) (vs1 : Int32) (vs2 : Int32) (s : qS) : Option qR := qE (qev en d) en none tb_X2_flag (160, [(0, .ref 103), (1, .ref r1), (2, .int v2), (3, .ref 72), (4, .int v4), (7, .int v7)], [.int vs2, .int vs1, .ref 104]) s
noncomputable def L_X2_flag_170 (en : pN) (d : Nat) (r1 : Nat) (v2 : Int32) (v4 : Int32) (vs1 : Int32) (vs2 : Int32) (vs3 : Int32) (s : qS) : Option qR := qE (qev en d) en none tb_X2_flag (170, [(0, .ref 103), (1, .ref r1), (2, .int v2), (3, .ref 72), (4, .int v4)], [.int vs3, .int vs2, .int vs1, .ref 104]) s
set_option maxRecDepth 100000 in
set_option maxHeartbeats 4000000 in
theorem le_X2_flag_14 (en : pN) (d : Nat) (r1 : Nat) (v2 : Int32) (v4 : Int32) (s : qS) : qle (gd (lc r1 = 20) (if (s.1 83 3) ≤ v4 then some (none, s) else bV (qev en d 39 [.ref 71, .ref 84, .int (v4 * (s.1 83 4))] s) (fun s3 => gd (p_inB v4 20000 = true) (if ((s3.1 93 v4.toNatClampNeg) &&& (32 : Int32)) = (0 : Int32) then L_X2_flag_87 en d r1 v2 v4 (234 : Int32) (0 : Int32) s3 else L_X2_flag_87 en d r1 v2 v4 (234 : Int32) (1 : Int32) s3)))) (L_X2_flag_14 en d r1 v2 v4 s) := by
  show qle _ (qE (qev en d) en none tb_X2_flag (14, [(0, .ref 103), (1, .ref r1), (2, .int v2), (3, .ref 72), (4, .int v4)], []) s)
  refine qle_gd fun h_r1 => ?_
  refine e_L 2 (f' := (17, [(0, .ref 103), (1, .ref r1), (2, .int v2), (3, .ref 72), (4, .int v4)], [.ref 103, .int v4])) rfl ?_
  refine e_gR (q := 70) 2 0 rfl rfl lc_103 lr_103_0 ?_
  refine e_gR (q := 83) 10 2 rfl rfl lc_70 lr_70_2 ?_
  refine e_gI 7 3 rfl rfl lc_83 ?_
  refine e_icmp 178 rfl rfl rfl (fun c1 => ?_) (fun c1 => ?_)
  · exact e_rV rfl rfl
  · refine e_L 1 (f' := (30, [(0, .ref 103), (1, .ref r1), (2, .int v2), (3, .ref 72), (4, .int v4)], [.ref 103])) rfl ?_
    refine e_gR (q := 70) 2 0 rfl rfl lc_103 lr_103_0 ?_
    refine e_gR (q := 71) 10 0 rfl rfl lc_70 lr_70_0 ?_
    refine e_L 1 (f' := (37, [(0, .ref 103), (1, .ref r1), (2, .int v2), (3, .ref 72), (4, .int v4)], [.ref 103, .ref 71])) rfl ?_
    refine e_gR (q := 70) 2 0 rfl rfl lc_103 lr_103_0 ?_
    refine e_gR (q := 83) 10 2 rfl rfl lc_70 lr_70_2 ?_
    refine e_gR (q := 84) 7 0 rfl rfl lc_83 lr_83_0 ?_
    refine e_L 2 (f' := (49, [(0, .ref 103), (1, .ref r1), (2, .int v2), (3, .ref 72), (4, .int v4)], [.ref 103, .int v4, .ref 84, .ref 71])) rfl ?_
    refine e_gR (q := 70) 2 0 rfl rfl lc_103 lr_103_0 ?_
    refine e_gR (q := 83) 10 2 rfl rfl lc_70 lr_70_2 ?_
    refine e_gI 7 4 rfl rfl lc_83 ?_
    refine e_L 1 (f' := (59, [(0, .ref 103), (1, .ref r1), (2, .int v2), (3, .ref 72), (4, .int v4)], [.int (v4 * (s.1 83 4)), .ref 84, .ref 71])) rfl ?_
    refine e_vV 39 rfl rfl ix_X3_unpack rfl (q_recvOf lc_71 rfl) (Nat.le_of_ble_eq_true rfl) (fun s3 e4 => ?_)
    refine e_L 3 (f' := (67, [(0, .ref 103), (1, .ref r1), (2, .int v2), (3, .ref 72), (4, .int v4)], [.ref 103, .int (234 : Int32), .ref 72])) rfl ?_
    refine e_gR (q := 70) 2 0 rfl rfl lc_103 lr_103_0 ?_
    refine e_gR (q := 93) 10 7 rfl rfl lc_70 lr_70_7 ?_
    refine e_L 1 (f' := (75, [(0, .ref 103), (1, .ref r1), (2, .int v2), (3, .ref 72), (4, .int v4)], [.int v4, .ref 93, .int (234 : Int32), .ref 72])) rfl ?_
    refine qle_gd fun h5 => ?_
    refine e_ial (n := 20000) (k := v4.toNatClampNeg) rfl lc_93 ln_93 h5 rfl ?_
    refine e_L 2 (f' := (79, [(0, .ref 103), (1, .ref r1), (2, .int v2), (3, .ref 72), (4, .int v4)], [.int ((s3.1 93 v4.toNatClampNeg) &&& (32 : Int32)), .int (234 : Int32), .ref 72])) rfl ?_
    refine e_ifz 86 rfl rfl rfl (fun c6 => ?_) (fun c6 => ?_)
    · refine e_L 1 (f' := (87, [(0, .ref 103), (1, .ref r1), (2, .int v2), (3, .ref 72), (4, .int v4)], [.int (0 : Int32), .int (234 : Int32), .ref 72])) rfl ?_
      exact qE_sub (qsubL [0, 1, 2, 3, 4] rfl (ks := [0, 1, 2, 3, 4]) rfl (by decide))
    · refine e_L 2 (f' := (87, [(0, .ref 103), (1, .ref r1), (2, .int v2), (3, .ref 72), (4, .int v4)], [.int (1 : Int32), .int (234 : Int32), .ref 72])) rfl ?_
      exact qE_sub (qsubL [0, 1, 2, 3, 4] rfl (ks := [0, 1, 2, 3, 4]) rfl (by decide))
set_option maxRecDepth 100000 in
set_option maxHeartbeats 4000000 in
theorem le_X2_flag_87 (en : pN) (d : Nat) (r1 : Nat) (v2 : Int32) (v4 : Int32) (vs1 : Int32) (vs2 : Int32) (s : qS) : qle (gd (lc r1 = 20) (gd (p_inB vs1 236 = true) (nm (uI s 72 (vs1.toNatClampNeg) vs2) (fun s2 => gd (p_inB (0 : Int32) (ln r1) = true) (gd (p_inB (1 : Int32) (ln r1) = true) (bI (qev en d 21 [.ref 103, .int (s2.1 r1 0), .int (s2.1 r1 1), .ref 72] s2) (fun w5 s6 => if v2 = (0 : Int32) then L_X2_flag_121 en d r1 v2 v4 w5 w5 s6 else gd (p_inB (2 : Int32) (ln r1) = true) (gd (p_inB (3 : Int32) (ln r1) = true) (bI (qev en d 21 [.ref 103, .int (s6.1 r1 2), .int (s6.1 r1 3), .ref 72] s6) (fun w11 s12 => L_X2_flag_121 en d r1 v2 v4 w5 w11 s12)))))))))) (L_X2_flag_87 en d r1 v2 v4 vs1 vs2 s) := by
  show qle _ (qE (qev en d) en none tb_X2_flag (87, [(0, .ref 103), (1, .ref r1), (2, .int v2), (3, .ref 72), (4, .int v4)], [.int vs2, .int vs1, .ref 72]) s)
  refine qle_gd fun h_r1 => ?_
  refine qle_gd fun h1 => ?_
  refine e_ias (n := 236) (k := vs1.toNatClampNeg) rfl lc_72 ln_72 h1 rfl ?_
  refine e_nS fun s2 => ?_
  refine e_L 3 (f' := (91, [(0, .ref 103), (1, .ref r1), (2, .int v2), (3, .ref 72), (4, .int v4)], [.int (0 : Int32), .ref r1, .ref 103])) rfl ?_
  refine qle_gd fun h3 => ?_
  refine e_ial (n := (ln r1)) (k := 0) rfl h_r1 rfl h3 (by decide +kernel) ?_
  refine e_L 2 (f' := (94, [(0, .ref 103), (1, .ref r1), (2, .int v2), (3, .ref 72), (4, .int v4)], [.int (1 : Int32), .ref r1, .int (s2.1 r1 0), .ref 103])) rfl ?_
  refine qle_gd fun h4 => ?_
  refine e_ial (n := (ln r1)) (k := 1) rfl h_r1 rfl h4 (by decide +kernel) ?_
  refine e_L 1 (f' := (96, [(0, .ref 103), (1, .ref r1), (2, .int v2), (3, .ref 72), (4, .int v4)], [.ref 72, .int (s2.1 r1 1), .int (s2.1 r1 0), .ref 103])) rfl ?_
  refine e_vI 21 rfl rfl ix_X2_isTrue rfl (q_recvOf lc_103 rfl) (Nat.le_of_ble_eq_true rfl) (fun w5 s6 e7 => ?_)
  refine e_L 2 (f' := (102, [(5, .int w5), (0, .ref 103), (1, .ref r1), (2, .int v2), (3, .ref 72), (4, .int v4)], [.int v2])) rfl ?_
  refine e_ifz 119 rfl rfl rfl (fun c8 => ?_) (fun c8 => ?_)
  · refine e_L 1 (f' := (121, [(5, .int w5), (0, .ref 103), (1, .ref r1), (2, .int v2), (3, .ref 72), (4, .int v4)], [.int w5])) rfl ?_
    exact qE_sub (qsubL [1, 2, 3, 4, 5, 0] rfl (ks := [5, 0, 1, 2, 3, 4]) rfl (by decide))
  · refine e_L 3 (f' := (108, [(5, .int w5), (0, .ref 103), (1, .ref r1), (2, .int v2), (3, .ref 72), (4, .int v4)], [.int (2 : Int32), .ref r1, .ref 103])) rfl ?_
    refine qle_gd fun h9 => ?_
    refine e_ial (n := (ln r1)) (k := 2) rfl h_r1 rfl h9 (by decide +kernel) ?_
    refine e_L 2 (f' := (111, [(5, .int w5), (0, .ref 103), (1, .ref r1), (2, .int v2), (3, .ref 72), (4, .int v4)], [.int (3 : Int32), .ref r1, .int (s6.1 r1 2), .ref 103])) rfl ?_
    refine qle_gd fun h10 => ?_
    refine e_ial (n := (ln r1)) (k := 3) rfl h_r1 rfl h10 (by decide +kernel) ?_
    refine e_L 1 (f' := (113, [(5, .int w5), (0, .ref 103), (1, .ref r1), (2, .int v2), (3, .ref 72), (4, .int v4)], [.ref 72, .int (s6.1 r1 3), .int (s6.1 r1 2), .ref 103])) rfl ?_
    refine e_vI 21 rfl rfl ix_X2_isTrue rfl (q_recvOf lc_103 rfl) (Nat.le_of_ble_eq_true rfl) (fun w11 s12 e13 => ?_)
    refine e_L 1 (f' := (121, [(5, .int w5), (0, .ref 103), (1, .ref r1), (2, .int v2), (3, .ref 72), (4, .int v4)], [.int w11])) rfl ?_
    exact qE_sub (qsubL [1, 2, 3, 4, 5, 0] rfl (ks := [5, 0, 1, 2, 3, 4]) rfl (by decide))
set_option maxRecDepth 100000 in
set_option maxHeartbeats 4000000 in
theorem le_X2_flag_121 (en : pN) (d : Nat) (r1 : Nat) (v2 : Int32) (v4 : Int32) (v5 : Int32) (vs0 : Int32) (s : qS) : qle (gd (lc r1 = 20) (if v2 = (0 : Int32) then if ¬ v4 = (0 : Int32) then L_X2_flag_142 en d r1 v2 v4 vs0 (0 : Int32) s else L_X2_flag_142 en d r1 v2 v4 vs0 (1 : Int32) s else L_X2_flag_142 en d r1 v2 v4 vs0 v5 s)) (L_X2_flag_121 en d r1 v2 v4 v5 vs0 s) := by
  show qle _ (qE (qev en d) en none tb_X2_flag (121, [(0, .ref 103), (1, .ref r1), (2, .int v2), (3, .ref 72), (4, .int v4), (5, .int v5)], [.int vs0]) s)
  refine qle_gd fun h_r1 => ?_
  refine e_L 2 (f' := (124, [(6, .int vs0), (0, .ref 103), (1, .ref r1), (2, .int v2), (3, .ref 72), (4, .int v4), (5, .int v5)], [.int v2])) rfl ?_
  refine e_ifz 132 rfl rfl rfl (fun c1 => ?_) (fun c1 => ?_)
  · refine e_L 1 (f' := (134, [(6, .int vs0), (0, .ref 103), (1, .ref r1), (2, .int v2), (3, .ref 72), (4, .int v4), (5, .int v5)], [.int v4])) rfl ?_
    refine e_ifz 141 rfl rfl rfl (fun c2 => ?_) (fun c2 => ?_)
    · refine e_L 1 (f' := (142, [(6, .int vs0), (0, .ref 103), (1, .ref r1), (2, .int v2), (3, .ref 72), (4, .int v4), (5, .int v5)], [.int (0 : Int32)])) rfl ?_
      exact qE_sub (qsubL [1, 2, 3, 4, 5, 0] rfl (ks := [6, 0, 1, 2, 3, 4, 5]) rfl (by decide))
    · refine e_L 2 (f' := (142, [(6, .int vs0), (0, .ref 103), (1, .ref r1), (2, .int v2), (3, .ref 72), (4, .int v4), (5, .int v5)], [.int (1 : Int32)])) rfl ?_
      exact qE_sub (qsubL [1, 2, 3, 4, 5, 0] rfl (ks := [6, 0, 1, 2, 3, 4, 5]) rfl (by decide))
  · refine e_L 2 (f' := (142, [(6, .int vs0), (0, .ref 103), (1, .ref r1), (2, .int v2), (3, .ref 72), (4, .int v4), (5, .int v5)], [.int v5])) rfl ?_
    exact qE_sub (qsubL [1, 2, 3, 4, 5, 0] rfl (ks := [6, 0, 1, 2, 3, 4, 5]) rfl (by decide))
set_option maxRecDepth 100000 in
set_option maxHeartbeats 4000000 in
theorem le_X2_flag_142 (en : pN) (d : Nat) (r1 : Nat) (v2 : Int32) (v4 : Int32) (v6 : Int32) (vs0 : Int32) (s : qS) : qle (gd (lc r1 = 20) (if v6 = (0 : Int32) then L_X2_flag_160 en d r1 v2 v4 vs0 v4 (0 : Int32) s else L_X2_flag_160 en d r1 v2 v4 vs0 v4 (1 : Int32) s)) (L_X2_flag_142 en d r1 v2 v4 v6 vs0 s) := by
  show qle _ (qE (qev en d) en none tb_X2_flag (142, [(0, .ref 103), (1, .ref r1), (2, .int v2), (3, .ref 72), (4, .int v4), (6, .int v6)], [.int vs0]) s)
  refine qle_gd fun h_r1 => ?_
  refine e_L 2 (f' := (145, [(7, .int vs0), (0, .ref 103), (1, .ref r1), (2, .int v2), (3, .ref 72), (4, .int v4), (6, .int v6)], [.ref 103])) rfl ?_
  refine e_gR (q := 104) 2 2 rfl rfl lc_103 lr_103_2 ?_
  refine e_L 2 (f' := (152, [(7, .int vs0), (0, .ref 103), (1, .ref r1), (2, .int v2), (3, .ref 72), (4, .int v4), (6, .int v6)], [.int v6, .int v4, .ref 104])) rfl ?_
  refine e_ifz 159 rfl rfl rfl (fun c1 => ?_) (fun c1 => ?_)
  · refine e_L 1 (f' := (160, [(7, .int vs0), (0, .ref 103), (1, .ref r1), (2, .int v2), (3, .ref 72), (4, .int v4), (6, .int v6)], [.int (0 : Int32), .int v4, .ref 104])) rfl ?_
    exact qE_sub (qsubL [1, 2, 3, 4, 5, 0] rfl (ks := [7, 0, 1, 2, 3, 4, 6]) rfl (by decide))
  · refine e_L 2 (f' := (160, [(7, .int vs0), (0, .ref 103), (1, .ref r1), (2, .int v2), (3, .ref 72), (4, .int v4), (6, .int v6)], [.int (1 : Int32), .int v4, .ref 104])) rfl ?_
    exact qE_sub (qsubL [1, 2, 3, 4, 5, 0] rfl (ks := [7, 0, 1, 2, 3, 4, 6]) rfl (by decide))
set_option maxRecDepth 100000 in
set_option maxHeartbeats 4000000 in
theorem le_X2_flag_160 (en : pN) (d : Nat) (r1 : Nat) (v2 : Int32) (v4 : Int32) (v7 : Int32) (vs1 : Int32) (vs2 : Int32) (s : qS) : qle (gd (lc r1 = 20) (if v7 = (0 : Int32) then L_X2_flag_170 en d r1 v2 v4 vs1 vs2 (0 : Int32) s else L_X2_flag_170 en d r1 v2 v4 vs1 vs2 (2 : Int32) s)) (L_X2_flag_160 en d r1 v2 v4 v7 vs1 vs2 s) := by
  show qle _ (qE (qev en d) en none tb_X2_flag (160, [(0, .ref 103), (1, .ref r1), (2, .int v2), (3, .ref 72), (4, .int v4), (7, .int v7)], [.int vs2, .int vs1, .ref 104]) s)
  refine qle_gd fun h_r1 => ?_
  refine e_L 1 (f' := (162, [(0, .ref 103), (1, .ref r1), (2, .int v2), (3, .ref 72), (4, .int v4), (7, .int v7)], [.int v7, .int vs2, .int vs1, .ref 104])) rfl ?_
  refine e_ifz 169 rfl rfl rfl (fun c1 => ?_) (fun c1 => ?_)
  · refine e_L 1 (f' := (170, [(0, .ref 103), (1, .ref r1), (2, .int v2), (3, .ref 72), (4, .int v4), (7, .int v7)], [.int (0 : Int32), .int vs2, .int vs1, .ref 104])) rfl ?_
    exact qE_sub (qsubL [0, 1, 2, 3, 4] rfl (ks := [0, 1, 2, 3, 4, 7]) rfl (by decide))
  · refine e_L 2 (f' := (170, [(0, .ref 103), (1, .ref r1), (2, .int v2), (3, .ref 72), (4, .int v4), (7, .int v7)], [.int (2 : Int32), .int vs2, .int vs1, .ref 104])) rfl ?_
    exact qE_sub (qsubL [0, 1, 2, 3, 4] rfl (ks := [0, 1, 2, 3, 4, 7]) rfl (by decide))
set_option maxRecDepth 100000 in
set_option maxHeartbeats 4000000 in
theorem le_X2_flag_170 (en : pN) (d : Nat) (r1 : Nat) (v2 : Int32) (v4 : Int32) (vs1 : Int32) (vs2 : Int32) (vs3 : Int32) (s : qS) : qle (gd (lc r1 = 20) (gd (p_inB vs1 20000 = true) (nm (uI s 104 (vs1.toNatClampNeg) (vs2 ||| vs3)) (fun s2 => L_X2_flag_14 en d r1 v2 (v4 + (1 : Int32)) s2)))) (L_X2_flag_170 en d r1 v2 v4 vs1 vs2 vs3 s) := by
  show qle _ (qE (qev en d) en none tb_X2_flag (170, [(0, .ref 103), (1, .ref r1), (2, .int v2), (3, .ref 72), (4, .int v4)], [.int vs3, .int vs2, .int vs1, .ref 104]) s)
  refine qle_gd fun h_r1 => ?_
  refine e_L 1 (f' := (171, [(0, .ref 103), (1, .ref r1), (2, .int v2), (3, .ref 72), (4, .int v4)], [.int (vs2 ||| vs3), .int vs1, .ref 104])) rfl ?_
  refine qle_gd fun h1 => ?_
  refine e_ias (n := 20000) (k := vs1.toNatClampNeg) rfl lc_104 ln_104 h1 rfl ?_
  refine e_nS fun s2 => ?_
  refine e_L 2 (f' := (14, [(4, .int (v4 + (1 : Int32))), (0, .ref 103), (1, .ref r1), (2, .int v2), (3, .ref 72)], [])) rfl ?_
  exact qE_sub (qsubL [1, 2, 3, 4, 0] rfl (ks := [4, 0, 1, 2, 3]) rfl (by decide))
set_option maxRecDepth 100000 in
set_option maxHeartbeats 4000000 in
theorem le_X2_flag (en : pN) (d : Nat) (a1 : Nat) (a2 : Int32) (s : qS) : qle (gd (lc a1 = 20) (L_X2_flag_14 en d a1 a2 (0 : Int32) s)) (qev en (d + 1) 20 [.ref 103, .ref a1, .int a2] s) := by
  refine e_enter ix_X2_flag (Nat.le_of_ble_eq_true rfl) ?_
  show qle _ (qE (qev en d) en none tb_X2_flag (0, [(0, .ref 103), (1, .ref a1), (2, .int a2)], []) s)
  refine qle_gd fun h_a1 => ?_
  refine e_L 1 (f' := (1, [(0, .ref 103), (1, .ref a1), (2, .int a2)], [.ref 103])) rfl ?_
  refine e_gR (q := 70) 2 0 rfl rfl lc_103 lr_103_0 ?_
  refine e_gR (q := 71) 10 0 rfl rfl lc_70 lr_70_0 ?_
  refine e_gR (q := 72) 3 0 rfl rfl lc_71 lr_71_0 ?_
  refine e_L 3 (f' := (14, [(4, .int (0 : Int32)), (3, .ref 72), (0, .ref 103), (1, .ref a1), (2, .int a2)], [])) rfl ?_
  exact qE_sub (qsubL [2, 3, 4, 1, 0] rfl (ks := [4, 3, 0, 1, 2]) rfl (by decide))
set_option maxRecDepth 100000 in
set_option maxHeartbeats 4000000 in
theorem le_X2_isTrue (en : pN) (d : Nat) (a1 : Int32) (a2 : Int32) (a3 : Nat) (s : qS) : qle (gd (lc a3 = 20) (bI (qev en d 78 [.ref 61, .int a1, .int a2, .ref a3] s) (fun w1 s2 => if w1 = (0 : Int32) then some (some (.int (0 : Int32)), s2) else if ¬ (s2.1 61 4) = (0 : Int32) then some (some (.int (0 : Int32)), s2) else some (some (.int (1 : Int32)), s2)))) (qev en (d + 1) 21 [.ref 103, .int a1, .int a2, .ref a3] s) := by
  refine e_enter ix_X2_isTrue (Nat.le_of_ble_eq_true rfl) ?_
  show qle _ (qE (qev en d) en (some .boolean) tb_X2_isTrue (0, [(0, .ref 103), (1, .int a1), (2, .int a2), (3, .ref a3)], []) s)
  refine qle_gd fun h_a3 => ?_
  refine e_L 1 (f' := (1, [(0, .ref 103), (1, .int a1), (2, .int a2), (3, .ref a3)], [.ref 103])) rfl ?_
  refine e_gR (q := 61) 2 1 rfl rfl lc_103 lr_103_1 ?_
  refine e_L 3 (f' := (7, [(0, .ref 103), (1, .int a1), (2, .int a2), (3, .ref a3)], [.ref a3, .int a2, .int a1, .ref 61])) rfl ?_
  refine e_vI 78 rfl rfl ix_X4_workOut rfl (q_recvOf lc_61 rfl) (Nat.le_of_ble_eq_true rfl) (fun w1 s2 e3 => ?_)
  refine e_ifz 27 rfl rfl rfl (fun c4 => ?_) (fun c4 => ?_)
  · refine e_L 1 (f' := (28, [(0, .ref 103), (1, .int a1), (2, .int a2), (3, .ref a3)], [.int (0 : Int32)])) rfl ?_
    exact e_rZ rfl rfl (by decide)
  · refine e_L 1 (f' := (14, [(0, .ref 103), (1, .int a1), (2, .int a2), (3, .ref a3)], [.ref 103])) rfl ?_
    refine e_gR (q := 61) 2 1 rfl rfl lc_103 lr_103_1 ?_
    refine e_gI 4 4 rfl rfl lc_61 ?_
    refine e_ifz 27 rfl rfl rfl (fun c5 => ?_) (fun c5 => ?_)
    · refine e_L 1 (f' := (28, [(0, .ref 103), (1, .int a1), (2, .int a2), (3, .ref a3)], [.int (0 : Int32)])) rfl ?_
      exact e_rZ rfl rfl (by decide)
    · refine e_L 2 (f' := (28, [(0, .ref 103), (1, .int a1), (2, .int a2), (3, .ref a3)], [.int (1 : Int32)])) rfl ?_
      exact e_rZ rfl rfl (by decide)
noncomputable def L_X2_least_2 (en : pN) (d : Nat) (v1 : Int32) (v2 : Int32) (v3 : Int32) (s : qS) : Option qR := qE (qev en d) en (some .int) tb_X2_least (2, [(0, .ref 103), (1, .int v1), (2, .int v2), (3, .int v3)], []) s
set_option maxRecDepth 100000 in
set_option maxHeartbeats 4000000 in
theorem le_X2_least_2 (en : pN) (d : Nat) (v1 : Int32) (v2 : Int32) (v3 : Int32) (s : qS) : qle (if (s.1 83 3) ≤ v3 then some (some (.int (-2 : Int32)), s) else gd (p_inB v3 20000 = true) (if ¬ ((s.1 104 v3.toNatClampNeg) &&& v1) = v2 then L_X2_least_2 en d v1 v2 (v3 + (1 : Int32)) s else some (some (.int v3), s))) (L_X2_least_2 en d v1 v2 v3 s) := by
  show qle _ (qE (qev en d) en (some .int) tb_X2_least (2, [(0, .ref 103), (1, .int v1), (2, .int v2), (3, .int v3)], []) s)
  refine e_L 2 (f' := (4, [(0, .ref 103), (1, .int v1), (2, .int v2), (3, .int v3)], [.ref 103, .int v3])) rfl ?_
  refine e_gR (q := 70) 2 0 rfl rfl lc_103 lr_103_0 ?_
  refine e_gR (q := 83) 10 2 rfl rfl lc_70 lr_70_2 ?_
  refine e_gI 7 3 rfl rfl lc_83 ?_
  refine e_icmp 36 rfl rfl rfl (fun c1 => ?_) (fun c1 => ?_)
  · refine e_L 1 (f' := (38, [(0, .ref 103), (1, .int v1), (2, .int v2), (3, .int v3)], [.int (-2 : Int32)])) rfl ?_
    exact e_rI rfl rfl
  · refine e_L 1 (f' := (17, [(0, .ref 103), (1, .int v1), (2, .int v2), (3, .int v3)], [.ref 103])) rfl ?_
    refine e_gR (q := 104) 2 2 rfl rfl lc_103 lr_103_2 ?_
    refine e_L 1 (f' := (21, [(0, .ref 103), (1, .int v1), (2, .int v2), (3, .int v3)], [.int v3, .ref 104])) rfl ?_
    refine qle_gd fun h2 => ?_
    refine e_ial (n := 20000) (k := v3.toNatClampNeg) rfl lc_104 ln_104 h2 rfl ?_
    refine e_L 3 (f' := (25, [(0, .ref 103), (1, .int v1), (2, .int v2), (3, .int v3)], [.int v2, .int ((s.1 104 v3.toNatClampNeg) &&& v1)])) rfl ?_
    refine e_icmp 30 rfl rfl rfl (fun c3 => ?_) (fun c3 => ?_)
    · refine e_L 2 (f' := (2, [(3, .int (v3 + (1 : Int32))), (0, .ref 103), (1, .int v1), (2, .int v2)], [])) rfl ?_
      exact qE_sub (qsubL [1, 2, 3, 0] rfl (ks := [3, 0, 1, 2]) rfl (by decide))
    · refine e_L 1 (f' := (29, [(0, .ref 103), (1, .int v1), (2, .int v2), (3, .int v3)], [.int v3])) rfl ?_
      exact e_rI rfl rfl
set_option maxRecDepth 100000 in
set_option maxHeartbeats 4000000 in
theorem le_X2_least (en : pN) (d : Nat) (a1 : Int32) (a2 : Int32) (s : qS) : qle (L_X2_least_2 en d a1 a2 (0 : Int32) s) (qev en (d + 1) 22 [.ref 103, .int a1, .int a2] s) := by
  refine e_enter ix_X2_least (Nat.le_of_ble_eq_true rfl) ?_
  show qle _ (qE (qev en d) en (some .int) tb_X2_least (0, [(0, .ref 103), (1, .int a1), (2, .int a2)], []) s)
  refine e_L 2 (f' := (2, [(3, .int (0 : Int32)), (0, .ref 103), (1, .int a1), (2, .int a2)], [])) rfl ?_
  exact qE_sub (qsubL [1, 2, 3, 0] rfl (ks := [3, 0, 1, 2]) rfl (by decide))
set_option maxRecDepth 100000 in
set_option maxHeartbeats 4000000 in
theorem le_X2_isWanted (en : pN) (d : Nat) (a1 : Int32) (s : qS) : qle (gd (p_inB a1 20000 = true) (if ((s.1 104 a1.toNatClampNeg) &&& (1 : Int32)) = (0 : Int32) then some (some (.int (0 : Int32)), s) else some (some (.int (1 : Int32)), s))) (qev en (d + 1) 23 [.ref 103, .int a1] s) := by
  refine e_enter ix_X2_isWanted (Nat.le_of_ble_eq_true rfl) ?_
  show qle _ (qE (qev en d) en (some .boolean) tb_X2_isWanted (0, [(0, .ref 103), (1, .int a1)], []) s)
  refine e_L 1 (f' := (1, [(0, .ref 103), (1, .int a1)], [.ref 103])) rfl ?_
  refine e_gR (q := 104) 2 2 rfl rfl lc_103 lr_103_2 ?_
  refine e_L 1 (f' := (5, [(0, .ref 103), (1, .int a1)], [.int a1, .ref 104])) rfl ?_
  refine qle_gd fun h1 => ?_
  refine e_ial (n := 20000) (k := a1.toNatClampNeg) rfl lc_104 ln_104 h1 rfl ?_
  refine e_L 2 (f' := (8, [(0, .ref 103), (1, .int a1)], [.int ((s.1 104 a1.toNatClampNeg) &&& (1 : Int32))])) rfl ?_
  refine e_ifz 15 rfl rfl rfl (fun c2 => ?_) (fun c2 => ?_)
  · refine e_L 1 (f' := (16, [(0, .ref 103), (1, .int a1)], [.int (0 : Int32)])) rfl ?_
    exact e_rZ rfl rfl (by decide)
  · refine e_L 2 (f' := (16, [(0, .ref 103), (1, .int a1)], [.int (1 : Int32)])) rfl ?_
    exact e_rZ rfl rfl (by decide)
noncomputable def L_X2_findReached_7 (en : pN) (d : Nat) (v1 : Int32) (s : qS) : Option qR := qE (qev en d) en none tb_X2_findReached (7, [(0, .ref 103), (1, .int v1)], []) s
noncomputable def L_X2_findReached_45 (en : pN) (d : Nat) (v1 : Int32) (s : qS) : Option qR := qE (qev en d) en none tb_X2_findReached (45, [(0, .ref 103), (1, .int v1)], []) s
noncomputable def L_X2_findReached_89 (en : pN) (d : Nat) (v1 : Int32) (v2 : Int32) (v3 : Int32) (s : qS) : Option qR := qE (qev en d) en none tb_X2_findReached (89, [(0, .ref 103), (1, .int v1), (2, .int v2), (3, .int v3)], []) s
set_option maxRecDepth 100000 in
set_option maxHeartbeats 4000000 in
theorem le_X2_findReached_7 (en : pN) (d : Nat) (v1 : Int32) (s : qS) : qle (if (s.1 83 3) ≤ v1 then L_X2_findReached_45 en d (0 : Int32) s else gd (p_inB v1 20000 = true) (if ((s.1 104 v1.toNatClampNeg) &&& (2 : Int32)) = (0 : Int32) then L_X2_findReached_7 en d (v1 + (1 : Int32)) s else bV (qev en d 25 [.ref 103, .int v1] s) (fun s5 => L_X2_findReached_7 en d (v1 + (1 : Int32)) s5))) (L_X2_findReached_7 en d v1 s) := by
  show qle _ (qE (qev en d) en none tb_X2_findReached (7, [(0, .ref 103), (1, .int v1)], []) s)
  refine e_L 2 (f' := (9, [(0, .ref 103), (1, .int v1)], [.ref 103, .int v1])) rfl ?_
  refine e_gR (q := 70) 2 0 rfl rfl lc_103 lr_103_0 ?_
  refine e_gR (q := 83) 10 2 rfl rfl lc_70 lr_70_2 ?_
  refine e_gI 7 3 rfl rfl lc_83 ?_
  refine e_icmp 43 rfl rfl rfl (fun c1 => ?_) (fun c1 => ?_)
  · refine e_L 2 (f' := (45, [(1, .int (0 : Int32)), (0, .ref 103)], [])) rfl ?_
    exact qE_sub (qsubL [1, 0] rfl (ks := [1, 0]) rfl (by decide))
  · refine e_L 1 (f' := (22, [(0, .ref 103), (1, .int v1)], [.ref 103])) rfl ?_
    refine e_gR (q := 104) 2 2 rfl rfl lc_103 lr_103_2 ?_
    refine e_L 1 (f' := (26, [(0, .ref 103), (1, .int v1)], [.int v1, .ref 104])) rfl ?_
    refine qle_gd fun h2 => ?_
    refine e_ial (n := 20000) (k := v1.toNatClampNeg) rfl lc_104 ln_104 h2 rfl ?_
    refine e_L 2 (f' := (29, [(0, .ref 103), (1, .int v1)], [.int ((s.1 104 v1.toNatClampNeg) &&& (2 : Int32))])) rfl ?_
    refine e_ifz 37 rfl rfl rfl (fun c3 => ?_) (fun c3 => ?_)
    · refine e_L 2 (f' := (7, [(1, .int (v1 + (1 : Int32))), (0, .ref 103)], [])) rfl ?_
      exact qE_sub (qsubL [1, 0] rfl (ks := [1, 0]) rfl (by decide))
    · refine e_L 2 (f' := (34, [(0, .ref 103), (1, .int v1)], [.int v1, .ref 103])) rfl ?_
      refine e_vV 25 rfl rfl ix_X2_comeTo rfl (q_recvOf lc_103 rfl) (Nat.le_of_ble_eq_true rfl) (fun s5 e6 => ?_)
      refine e_L 2 (f' := (7, [(1, .int (v1 + (1 : Int32))), (0, .ref 103)], [])) rfl ?_
      exact qE_sub (qsubL [1, 0] rfl (ks := [1, 0]) rfl (by decide))
set_option maxRecDepth 100000 in
set_option maxHeartbeats 4000000 in
theorem le_X2_findReached_45 (en : pN) (d : Nat) (v1 : Int32) (s : qS) : qle (if (20000 : Int32) ≤ v1 then some (none, s) else if (s.1 103 10) ≤ (0 : Int32) then some (none, s) else nm (uI s 103 10 ((s.1 103 10) - (1 : Int32))) (fun s3 => gd (p_inB (s3.1 103 10) 20000 = true) (nm (s3.1 108 (s3.1 103 10).toNatClampNeg) (fun z5 => gd (p_inB z5 20001 = true) (nm (s3.1 92 z5.toNatClampNeg) (fun z7 => L_X2_findReached_89 en d v1 z5 z7 s3)))))) (L_X2_findReached_45 en d v1 s) := by
  show qle _ (qE (qev en d) en none tb_X2_findReached (45, [(0, .ref 103), (1, .int v1)], []) s)
  refine e_L 2 (f' := (49, [(0, .ref 103), (1, .int v1)], [.int (20000 : Int32), .int v1])) rfl ?_
  refine e_icmp 132 rfl rfl rfl (fun c1 => ?_) (fun c1 => ?_)
  · exact e_rV rfl rfl
  · refine e_L 1 (f' := (53, [(0, .ref 103), (1, .int v1)], [.ref 103])) rfl ?_
    refine e_gI 2 10 rfl rfl lc_103 ?_
    refine e_ifz 132 rfl rfl rfl (fun c2 => ?_) (fun c2 => ?_)
    · exact e_rV rfl rfl
    · refine e_L 2 (f' := (61, [(0, .ref 103), (1, .int v1)], [.ref 103, .ref 103])) rfl ?_
      refine e_gI 2 10 rfl rfl lc_103 ?_
      refine e_L 2 (f' := (66, [(0, .ref 103), (1, .int v1)], [.int ((s.1 103 10) - (1 : Int32)), .ref 103])) rfl ?_
      refine e_pI 2 10 rfl rfl lc_103 rfl ?_
      refine e_nS fun s3 => ?_
      refine e_L 1 (f' := (70, [(0, .ref 103), (1, .int v1)], [.ref 103])) rfl ?_
      refine e_gR (q := 108) 2 6 rfl rfl lc_103 lr_103_6 ?_
      refine e_L 1 (f' := (74, [(0, .ref 103), (1, .int v1)], [.ref 103, .ref 108])) rfl ?_
      refine e_gI 2 10 rfl rfl lc_103 ?_
      refine qle_gd fun h4 => ?_
      refine e_ial (n := 20000) (k := (s3.1 103 10).toNatClampNeg) rfl lc_108 ln_108 h4 rfl ?_
      refine e_nI fun z5 => ?_
      refine e_L 2 (f' := (80, [(2, .int z5), (0, .ref 103), (1, .int v1)], [.ref 103])) rfl ?_
      refine e_gR (q := 70) 2 0 rfl rfl lc_103 lr_103_0 ?_
      refine e_gR (q := 92) 10 6 rfl rfl lc_70 lr_70_6 ?_
      refine e_L 1 (f' := (87, [(2, .int z5), (0, .ref 103), (1, .int v1)], [.int z5, .ref 92])) rfl ?_
      refine qle_gd fun h6 => ?_
      refine e_ial (n := 20001) (k := z5.toNatClampNeg) rfl lc_92 ln_92 h6 rfl ?_
      refine e_nI fun z7 => ?_
      refine e_L 1 (f' := (89, [(3, .int z7), (2, .int z5), (0, .ref 103), (1, .int v1)], [])) rfl ?_
      exact qE_sub (qsubL [2, 3, 1, 0] rfl (ks := [3, 2, 0, 1]) rfl (by decide))
set_option maxRecDepth 100000 in
set_option maxHeartbeats 4000000 in
theorem le_X2_findReached_89 (en : pN) (d : Nat) (v1 : Int32) (v2 : Int32) (v3 : Int32) (s : qS) : qle (gd (p_inB (v2 + (1 : Int32)) 20001 = true) (if (s.1 92 (v2 + (1 : Int32)).toNatClampNeg) ≤ v3 then L_X2_findReached_45 en d (v1 + (1 : Int32)) s else gd (p_inB v3 200000 = true) (bI (qev en d 187 [.int (s.1 90 v3.toNatClampNeg)] s) (fun w4 s5 => bV (qev en d 25 [.ref 103, .int w4] s5) (fun s8 => L_X2_findReached_89 en d v1 v2 (v3 + (1 : Int32)) s8))))) (L_X2_findReached_89 en d v1 v2 v3 s) := by
  show qle _ (qE (qev en d) en none tb_X2_findReached (89, [(0, .ref 103), (1, .int v1), (2, .int v2), (3, .int v3)], []) s)
  refine e_L 2 (f' := (91, [(0, .ref 103), (1, .int v1), (2, .int v2), (3, .int v3)], [.ref 103, .int v3])) rfl ?_
  refine e_gR (q := 70) 2 0 rfl rfl lc_103 lr_103_0 ?_
  refine e_gR (q := 92) 10 6 rfl rfl lc_70 lr_70_6 ?_
  refine e_L 3 (f' := (100, [(0, .ref 103), (1, .int v1), (2, .int v2), (3, .int v3)], [.int (v2 + (1 : Int32)), .ref 92, .int v3])) rfl ?_
  refine qle_gd fun h1 => ?_
  refine e_ial (n := 20001) (k := (v2 + (1 : Int32)).toNatClampNeg) rfl lc_92 ln_92 h1 rfl ?_
  refine e_icmp 126 rfl rfl rfl (fun c2 => ?_) (fun c2 => ?_)
  · refine e_L 2 (f' := (45, [(1, .int (v1 + (1 : Int32))), (0, .ref 103), (2, .int v2), (3, .int v3)], [])) rfl ?_
    exact qE_sub (qsubL [1, 0] rfl (ks := [1, 0, 2, 3]) rfl (by decide))
  · refine e_L 2 (f' := (106, [(0, .ref 103), (1, .int v1), (2, .int v2), (3, .int v3)], [.ref 103, .ref 103])) rfl ?_
    refine e_gR (q := 70) 2 0 rfl rfl lc_103 lr_103_0 ?_
    refine e_gR (q := 90) 10 4 rfl rfl lc_70 lr_70_4 ?_
    refine e_L 1 (f' := (113, [(0, .ref 103), (1, .int v1), (2, .int v2), (3, .int v3)], [.int v3, .ref 90, .ref 103])) rfl ?_
    refine qle_gd fun h3 => ?_
    refine e_ial (n := 200000) (k := v3.toNatClampNeg) rfl lc_90 ln_90 h3 rfl ?_
    refine e_sI 187 rfl rfl rfl ix_X10_stateOf rfl (Nat.le_of_ble_eq_true rfl) (fun w4 s5 e6 => ?_)
    refine e_vV 25 rfl rfl ix_X2_comeTo rfl (q_recvOf lc_103 rfl) (Nat.le_of_ble_eq_true rfl) (fun s8 e9 => ?_)
    refine e_L 2 (f' := (89, [(3, .int (v3 + (1 : Int32))), (0, .ref 103), (1, .int v1), (2, .int v2)], [])) rfl ?_
    exact qE_sub (qsubL [1, 2, 3, 0] rfl (ks := [3, 0, 1, 2]) rfl (by decide))
set_option maxRecDepth 100000 in
set_option maxHeartbeats 4000000 in
theorem le_X2_findReached (en : pN) (d : Nat) (s : qS) : qle (nm (uI s 103 10 (0 : Int32)) (fun s1 => L_X2_findReached_7 en d (0 : Int32) s1)) (qev en (d + 1) 24 [.ref 103] s) := by
  refine e_enter ix_X2_findReached (Nat.le_of_ble_eq_true rfl) ?_
  show qle _ (qE (qev en d) en none tb_X2_findReached (0, [(0, .ref 103)], []) s)
  refine e_L 2 (f' := (2, [(0, .ref 103)], [.int (0 : Int32), .ref 103])) rfl ?_
  refine e_pI 2 10 rfl rfl lc_103 rfl ?_
  refine e_nS fun s1 => ?_
  refine e_L 2 (f' := (7, [(1, .int (0 : Int32)), (0, .ref 103)], [])) rfl ?_
  exact qE_sub (qsubL [1, 0] rfl (ks := [1, 0]) rfl (by decide))
set_option maxRecDepth 100000 in
set_option maxHeartbeats 4000000 in
theorem le_X2_comeTo (en : pN) (d : Nat) (a1 : Int32) (s : qS) : qle (gd (p_inB a1 20000 = true) (if ¬ ((s.1 104 a1.toNatClampNeg) &&& (5 : Int32)) = (0 : Int32) then some (none, s) else nm (uI s 104 (a1.toNatClampNeg) ((s.1 104 a1.toNatClampNeg) ||| (4 : Int32))) (fun s3 => gd (p_inB (s3.1 103 10) 20000 = true) (nm (uI s3 108 ((s3.1 103 10).toNatClampNeg) a1) (fun s5 => nm (uI s5 103 10 ((s5.1 103 10) + (1 : Int32))) (fun s6 => some (none, s6))))))) (qev en (d + 1) 25 [.ref 103, .int a1] s) := by
  refine e_enter ix_X2_comeTo (Nat.le_of_ble_eq_true rfl) ?_
  show qle _ (qE (qev en d) en none tb_X2_comeTo (0, [(0, .ref 103), (1, .int a1)], []) s)
  refine e_L 1 (f' := (1, [(0, .ref 103), (1, .int a1)], [.ref 103])) rfl ?_
  refine e_gR (q := 104) 2 2 rfl rfl lc_103 lr_103_2 ?_
  refine e_L 1 (f' := (5, [(0, .ref 103), (1, .int a1)], [.int a1, .ref 104])) rfl ?_
  refine qle_gd fun h1 => ?_
  refine e_ial (n := 20000) (k := a1.toNatClampNeg) rfl lc_104 ln_104 h1 rfl ?_
  refine e_L 2 (f' := (8, [(0, .ref 103), (1, .int a1)], [.int ((s.1 104 a1.toNatClampNeg) &&& (5 : Int32))])) rfl ?_
  refine e_ifz 41 rfl rfl rfl (fun c2 => ?_) (fun c2 => ?_)
  · exact e_rV rfl rfl
  · refine e_L 1 (f' := (12, [(0, .ref 103), (1, .int a1)], [.ref 103])) rfl ?_
    refine e_gR (q := 104) 2 2 rfl rfl lc_103 lr_103_2 ?_
    refine e_L 2 (f' := (17, [(0, .ref 103), (1, .int a1)], [.int a1, .ref 104, .int a1, .ref 104])) rfl ?_
    refine e_ial (n := 20000) (k := a1.toNatClampNeg) rfl lc_104 ln_104 h1 rfl ?_
    refine e_L 2 (f' := (20, [(0, .ref 103), (1, .int a1)], [.int ((s.1 104 a1.toNatClampNeg) ||| (4 : Int32)), .int a1, .ref 104])) rfl ?_
    refine e_ias (n := 20000) (k := a1.toNatClampNeg) rfl lc_104 ln_104 h1 rfl ?_
    refine e_nS fun s3 => ?_
    refine e_L 1 (f' := (22, [(0, .ref 103), (1, .int a1)], [.ref 103])) rfl ?_
    refine e_gR (q := 108) 2 6 rfl rfl lc_103 lr_103_6 ?_
    refine e_L 1 (f' := (26, [(0, .ref 103), (1, .int a1)], [.ref 103, .ref 108])) rfl ?_
    refine e_gI 2 10 rfl rfl lc_103 ?_
    refine e_L 1 (f' := (30, [(0, .ref 103), (1, .int a1)], [.int a1, .int (s3.1 103 10), .ref 108])) rfl ?_
    refine qle_gd fun h4 => ?_
    refine e_ias (n := 20000) (k := (s3.1 103 10).toNatClampNeg) rfl lc_108 ln_108 h4 rfl ?_
    refine e_nS fun s5 => ?_
    refine e_L 2 (f' := (33, [(0, .ref 103), (1, .int a1)], [.ref 103, .ref 103])) rfl ?_
    refine e_gI 2 10 rfl rfl lc_103 ?_
    refine e_L 2 (f' := (38, [(0, .ref 103), (1, .int a1)], [.int ((s5.1 103 10) + (1 : Int32)), .ref 103])) rfl ?_
    refine e_pI 2 10 rfl rfl lc_103 rfl ?_
    refine e_nS fun s6 => ?_
    exact e_rV rfl rfl
noncomputable def L_X2_findLacking_33 (en : pN) (d : Nat) (v1 : Int32) (v2 : Int32) (s : qS) : Option qR := qE (qev en d) en none tb_X2_findLacking (33, [(0, .ref 103), (1, .int v1), (2, .int v2)], []) s
set_option maxRecDepth 100000 in
set_option maxHeartbeats 4000000 in
theorem le_X2_findLacking_33 (en : pN) (d : Nat) (v1 : Int32) (v2 : Int32) (s : qS) : qle (if (s.1 83 3) ≤ v2 then some (none, s) else bI (qev en d 23 [.ref 103, .int v2] s) (fun w2 s3 => if ¬ w2 = (0 : Int32) then L_X2_findLacking_33 en d v1 (v2 + (1 : Int32)) s3 else gd (p_inB v2 20000 = true) (if ¬ (s3.1 105 v2.toNatClampNeg) = (0 : Int32) then L_X2_findLacking_33 en d v1 (v2 + (1 : Int32)) s3 else bV (qev en d 28 [.ref 103, .int v2, .int v1] s3) (fun s9 => L_X2_findLacking_33 en d v1 (v2 + (1 : Int32)) s9)))) (L_X2_findLacking_33 en d v1 v2 s) := by
  show qle _ (qE (qev en d) en none tb_X2_findLacking (33, [(0, .ref 103), (1, .int v1), (2, .int v2)], []) s)
  refine e_L 2 (f' := (35, [(0, .ref 103), (1, .int v1), (2, .int v2)], [.ref 103, .int v2])) rfl ?_
  refine e_gR (q := 70) 2 0 rfl rfl lc_103 lr_103_0 ?_
  refine e_gR (q := 83) 10 2 rfl rfl lc_70 lr_70_2 ?_
  refine e_gI 7 3 rfl rfl lc_83 ?_
  refine e_icmp 76 rfl rfl rfl (fun c1 => ?_) (fun c1 => ?_)
  · exact e_rV rfl rfl
  · refine e_L 2 (f' := (49, [(0, .ref 103), (1, .int v1), (2, .int v2)], [.int v2, .ref 103])) rfl ?_
    refine e_vI 23 rfl rfl ix_X2_isWanted rfl (q_recvOf lc_103 rfl) (Nat.le_of_ble_eq_true rfl) (fun w2 s3 e4 => ?_)
    refine e_ifz 70 rfl rfl rfl (fun c5 => ?_) (fun c5 => ?_)
    · refine e_L 2 (f' := (33, [(2, .int (v2 + (1 : Int32))), (0, .ref 103), (1, .int v1)], [])) rfl ?_
      exact qE_sub (qsubL [1, 2, 0] rfl (ks := [2, 0, 1]) rfl (by decide))
    · refine e_L 1 (f' := (56, [(0, .ref 103), (1, .int v1), (2, .int v2)], [.ref 103])) rfl ?_
      refine e_gR (q := 105) 2 3 rfl rfl lc_103 lr_103_3 ?_
      refine e_L 1 (f' := (60, [(0, .ref 103), (1, .int v1), (2, .int v2)], [.int v2, .ref 105])) rfl ?_
      refine qle_gd fun h6 => ?_
      refine e_ial (n := 20000) (k := v2.toNatClampNeg) rfl lc_105 ln_105 h6 rfl ?_
      refine e_ifz 70 rfl rfl rfl (fun c7 => ?_) (fun c7 => ?_)
      · refine e_L 2 (f' := (33, [(2, .int (v2 + (1 : Int32))), (0, .ref 103), (1, .int v1)], [])) rfl ?_
        exact qE_sub (qsubL [1, 2, 0] rfl (ks := [2, 0, 1]) rfl (by decide))
      · refine e_L 3 (f' := (67, [(0, .ref 103), (1, .int v1), (2, .int v2)], [.int v1, .int v2, .ref 103])) rfl ?_
        refine e_vV 28 rfl rfl ix_X2_walkFrom rfl (q_recvOf lc_103 rfl) (Nat.le_of_ble_eq_true rfl) (fun s9 e10 => ?_)
        refine e_L 2 (f' := (33, [(2, .int (v2 + (1 : Int32))), (0, .ref 103), (1, .int v1)], [])) rfl ?_
        exact qE_sub (qsubL [1, 2, 0] rfl (ks := [2, 0, 1]) rfl (by decide))
set_option maxRecDepth 100000 in
set_option maxHeartbeats 4000000 in
theorem le_X2_findLacking (en : pN) (d : Nat) (a1 : Int32) (s : qS) : qle (bV (qev en d 435 [.ref 105, .int (0 : Int32)] s) (fun s2 => bV (qev en d 435 [.ref 107, .int (0 : Int32)] s2) (fun s5 => nm (uI s5 103 9 (0 : Int32)) (fun s7 => nm (uI s7 103 12 (0 : Int32)) (fun s8 => nm (uI s8 103 10 (0 : Int32)) (fun s9 => L_X2_findLacking_33 en d a1 (0 : Int32) s9)))))) (qev en (d + 1) 26 [.ref 103, .int a1] s) := by
  refine e_enter ix_X2_findLacking (Nat.le_of_ble_eq_true rfl) ?_
  show qle _ (qE (qev en d) en none tb_X2_findLacking (0, [(0, .ref 103), (1, .int a1)], []) s)
  refine e_L 1 (f' := (1, [(0, .ref 103), (1, .int a1)], [.ref 103])) rfl ?_
  refine e_gR (q := 105) 2 3 rfl rfl lc_103 lr_103_3 ?_
  refine e_L 1 (f' := (5, [(0, .ref 103), (1, .int a1)], [.int (0 : Int32), .ref 105])) rfl ?_
  refine e_sV 435 rfl rfl rfl ix_J7_fill_53178 rfl (Nat.le_of_ble_eq_true rfl) (fun s2 e3 => ?_)
  refine e_L 1 (f' := (9, [(0, .ref 103), (1, .int a1)], [.ref 103])) rfl ?_
  refine e_gR (q := 107) 2 5 rfl rfl lc_103 lr_103_5 ?_
  refine e_L 1 (f' := (13, [(0, .ref 103), (1, .int a1)], [.int (0 : Int32), .ref 107])) rfl ?_
  refine e_sV 435 rfl rfl rfl ix_J7_fill_53178 rfl (Nat.le_of_ble_eq_true rfl) (fun s5 e6 => ?_)
  refine e_L 2 (f' := (18, [(0, .ref 103), (1, .int a1)], [.int (0 : Int32), .ref 103])) rfl ?_
  refine e_pI 2 9 rfl rfl lc_103 rfl ?_
  refine e_nS fun s7 => ?_
  refine e_L 2 (f' := (23, [(0, .ref 103), (1, .int a1)], [.int (0 : Int32), .ref 103])) rfl ?_
  refine e_pI 2 12 rfl rfl lc_103 rfl ?_
  refine e_nS fun s8 => ?_
  refine e_L 2 (f' := (28, [(0, .ref 103), (1, .int a1)], [.int (0 : Int32), .ref 103])) rfl ?_
  refine e_pI 2 10 rfl rfl lc_103 rfl ?_
  refine e_nS fun s9 => ?_
  refine e_L 2 (f' := (33, [(2, .int (0 : Int32)), (0, .ref 103), (1, .int a1)], [])) rfl ?_
  exact qE_sub (qsubL [1, 2, 0] rfl (ks := [2, 0, 1]) rfl (by decide))
set_option maxRecDepth 100000 in
set_option maxHeartbeats 4000000 in
theorem le_X2_enter (en : pN) (d : Nat) (a1 : Int32) (s : qS) : qle (nm (uI s 103 9 ((s.1 103 9) + (1 : Int32))) (fun s1 => gd (p_inB a1 20000 = true) (nm (uI s1 105 (a1.toNatClampNeg) (s1.1 103 9)) (fun s3 => nm (uI s3 106 (a1.toNatClampNeg) (s3.1 103 9)) (fun s4 => gd (p_inB a1 20001 = true) (nm (uI s4 110 (a1.toNatClampNeg) (s4.1 92 a1.toNatClampNeg)) (fun s6 => gd (p_inB (s6.1 103 10) 20000 = true) (nm (uI s6 108 ((s6.1 103 10).toNatClampNeg) a1) (fun s8 => nm (uI s8 103 10 ((s8.1 103 10) + (1 : Int32))) (fun s9 => gd (p_inB (s9.1 103 11) 20000 = true) (nm (uI s9 109 ((s9.1 103 11).toNatClampNeg) a1) (fun s11 => nm (uI s11 103 11 ((s11.1 103 11) + (1 : Int32))) (fun s12 => some (none, s12)))))))))))))) (qev en (d + 1) 27 [.ref 103, .int a1] s) := by
  refine e_enter ix_X2_enter (Nat.le_of_ble_eq_true rfl) ?_
  show qle _ (qE (qev en d) en none tb_X2_enter (0, [(0, .ref 103), (1, .int a1)], []) s)
  refine e_L 2 (f' := (2, [(0, .ref 103), (1, .int a1)], [.ref 103, .ref 103])) rfl ?_
  refine e_gI 2 9 rfl rfl lc_103 ?_
  refine e_L 2 (f' := (7, [(0, .ref 103), (1, .int a1)], [.int ((s.1 103 9) + (1 : Int32)), .ref 103])) rfl ?_
  refine e_pI 2 9 rfl rfl lc_103 rfl ?_
  refine e_nS fun s1 => ?_
  refine e_L 1 (f' := (11, [(0, .ref 103), (1, .int a1)], [.ref 103])) rfl ?_
  refine e_gR (q := 105) 2 3 rfl rfl lc_103 lr_103_3 ?_
  refine e_L 2 (f' := (16, [(0, .ref 103), (1, .int a1)], [.ref 103, .int a1, .ref 105])) rfl ?_
  refine e_gI 2 9 rfl rfl lc_103 ?_
  refine qle_gd fun h2 => ?_
  refine e_ias (n := 20000) (k := a1.toNatClampNeg) rfl lc_105 ln_105 h2 rfl ?_
  refine e_nS fun s3 => ?_
  refine e_L 1 (f' := (21, [(0, .ref 103), (1, .int a1)], [.ref 103])) rfl ?_
  refine e_gR (q := 106) 2 4 rfl rfl lc_103 lr_103_4 ?_
  refine e_L 2 (f' := (26, [(0, .ref 103), (1, .int a1)], [.ref 103, .int a1, .ref 106])) rfl ?_
  refine e_gI 2 9 rfl rfl lc_103 ?_
  refine e_ias (n := 20000) (k := a1.toNatClampNeg) rfl lc_106 ln_106 h2 rfl ?_
  refine e_nS fun s4 => ?_
  refine e_L 1 (f' := (31, [(0, .ref 103), (1, .int a1)], [.ref 103])) rfl ?_
  refine e_gR (q := 110) 2 8 rfl rfl lc_103 lr_103_8 ?_
  refine e_L 2 (f' := (36, [(0, .ref 103), (1, .int a1)], [.ref 103, .int a1, .ref 110])) rfl ?_
  refine e_gR (q := 70) 2 0 rfl rfl lc_103 lr_103_0 ?_
  refine e_gR (q := 92) 10 6 rfl rfl lc_70 lr_70_6 ?_
  refine e_L 1 (f' := (43, [(0, .ref 103), (1, .int a1)], [.int a1, .ref 92, .int a1, .ref 110])) rfl ?_
  refine qle_gd fun h5 => ?_
  refine e_ial (n := 20001) (k := a1.toNatClampNeg) rfl lc_92 ln_92 h5 rfl ?_
  refine e_ias (n := 20000) (k := a1.toNatClampNeg) rfl lc_110 ln_110 h2 rfl ?_
  refine e_nS fun s6 => ?_
  refine e_L 1 (f' := (46, [(0, .ref 103), (1, .int a1)], [.ref 103])) rfl ?_
  refine e_gR (q := 108) 2 6 rfl rfl lc_103 lr_103_6 ?_
  refine e_L 1 (f' := (50, [(0, .ref 103), (1, .int a1)], [.ref 103, .ref 108])) rfl ?_
  refine e_gI 2 10 rfl rfl lc_103 ?_
  refine e_L 1 (f' := (54, [(0, .ref 103), (1, .int a1)], [.int a1, .int (s6.1 103 10), .ref 108])) rfl ?_
  refine qle_gd fun h7 => ?_
  refine e_ias (n := 20000) (k := (s6.1 103 10).toNatClampNeg) rfl lc_108 ln_108 h7 rfl ?_
  refine e_nS fun s8 => ?_
  refine e_L 2 (f' := (57, [(0, .ref 103), (1, .int a1)], [.ref 103, .ref 103])) rfl ?_
  refine e_gI 2 10 rfl rfl lc_103 ?_
  refine e_L 2 (f' := (62, [(0, .ref 103), (1, .int a1)], [.int ((s8.1 103 10) + (1 : Int32)), .ref 103])) rfl ?_
  refine e_pI 2 10 rfl rfl lc_103 rfl ?_
  refine e_nS fun s9 => ?_
  refine e_L 1 (f' := (66, [(0, .ref 103), (1, .int a1)], [.ref 103])) rfl ?_
  refine e_gR (q := 109) 2 7 rfl rfl lc_103 lr_103_7 ?_
  refine e_L 1 (f' := (70, [(0, .ref 103), (1, .int a1)], [.ref 103, .ref 109])) rfl ?_
  refine e_gI 2 11 rfl rfl lc_103 ?_
  refine e_L 1 (f' := (74, [(0, .ref 103), (1, .int a1)], [.int a1, .int (s9.1 103 11), .ref 109])) rfl ?_
  refine qle_gd fun h10 => ?_
  refine e_ias (n := 20000) (k := (s9.1 103 11).toNatClampNeg) rfl lc_109 ln_109 h10 rfl ?_
  refine e_nS fun s11 => ?_
  refine e_L 2 (f' := (77, [(0, .ref 103), (1, .int a1)], [.ref 103, .ref 103])) rfl ?_
  refine e_gI 2 11 rfl rfl lc_103 ?_
  refine e_L 2 (f' := (82, [(0, .ref 103), (1, .int a1)], [.int ((s11.1 103 11) + (1 : Int32)), .ref 103])) rfl ?_
  refine e_pI 2 11 rfl rfl lc_103 rfl ?_
  refine e_nS fun s12 => ?_
  exact e_rV rfl rfl
noncomputable def L_X2_walkFrom_12 (en : pN) (d : Nat) (v2 : Int32) (v3 : Int32) (s : qS) : Option qR := qE (qev en d) en none tb_X2_walkFrom (12, [(0, .ref 103), (2, .int v2), (3, .int v3)], []) s
noncomputable def L_X2_walkFrom_161 (en : pN) (d : Nat) (v2 : Int32) (v3 : Int32) (v4 : Int32) (s : qS) : Option qR := qE (qev en d) en none tb_X2_walkFrom (161, [(0, .ref 103), (2, .int v2), (3, .int v3), (4, .int v4)], []) s
set_option maxRecDepth 100000 in
set_option maxHeartbeats 4000000 in
theorem le_X2_walkFrom_12 (en : pN) (d : Nat) (v2 : Int32) (v3 : Int32) (s : qS) : qle (if (1000000 : Int32) ≤ v3 then some (none, s) else if (s.1 103 11) ≤ (0 : Int32) then some (none, s) else gd (p_inB ((s.1 103 11) - (1 : Int32)) 20000 = true) (nm (s.1 109 ((s.1 103 11) - (1 : Int32)).toNatClampNeg) (fun z4 => gd (p_inB z4 20000 = true) (gd (p_inB (z4 + (1 : Int32)) 20001 = true) (if (s.1 92 (z4 + (1 : Int32)).toNatClampNeg) ≤ (s.1 110 z4.toNatClampNeg) then nm (uI s 103 11 ((s.1 103 11) - (1 : Int32))) (fun s8 => if (s8.1 103 11) ≤ (0 : Int32) then L_X2_walkFrom_161 en d v2 v3 z4 s8 else gd (p_inB ((s8.1 103 11) - (1 : Int32)) 20000 = true) (gd (p_inB (s8.1 109 ((s8.1 103 11) - (1 : Int32)).toNatClampNeg) 20000 = true) (bI (qev en d 412 [.int (s8.1 106 (s8.1 109 ((s8.1 103 11) - (1 : Int32)).toNatClampNeg).toNatClampNeg), .int (s8.1 106 z4.toNatClampNeg)] s8) (fun w12 s13 => nm (uI s13 106 ((s8.1 109 ((s8.1 103 11) - (1 : Int32)).toNatClampNeg).toNatClampNeg) w12) (fun s15 => L_X2_walkFrom_161 en d v2 v3 z4 s15))))) else gd (p_inB (s.1 110 z4.toNatClampNeg) 200000 = true) (bI (qev en d 187 [.int (s.1 90 (s.1 110 z4.toNatClampNeg).toNatClampNeg)] s) (fun w17 s18 => nm (uI s18 110 (z4.toNatClampNeg) ((s18.1 110 z4.toNatClampNeg) + (1 : Int32))) (fun s20 => bV (qev en d 29 [.ref 103, .int z4, .int w17] s20) (fun s22 => L_X2_walkFrom_12 en d v2 (v3 + (1 : Int32)) s22))))))))) (L_X2_walkFrom_12 en d v2 v3 s) := by
  show qle _ (qE (qev en d) en none tb_X2_walkFrom (12, [(0, .ref 103), (2, .int v2), (3, .int v3)], []) s)
  refine e_L 1 (f' := (13, [(0, .ref 103), (2, .int v2), (3, .int v3)], [.int v3])) rfl ?_
  refine e_ldcI (v := (1000000 : Int32)) rfl rfl (by decide +kernel) ?_
  refine e_icmp 191 rfl rfl rfl (fun c1 => ?_) (fun c1 => ?_)
  · exact e_rV rfl rfl
  · refine e_L 1 (f' := (19, [(0, .ref 103), (2, .int v2), (3, .int v3)], [.ref 103])) rfl ?_
    refine e_gI 2 11 rfl rfl lc_103 ?_
    refine e_ifz 191 rfl rfl rfl (fun c2 => ?_) (fun c2 => ?_)
    · exact e_rV rfl rfl
    · refine e_L 1 (f' := (26, [(0, .ref 103), (2, .int v2), (3, .int v3)], [.ref 103])) rfl ?_
      refine e_gR (q := 109) 2 7 rfl rfl lc_103 lr_103_7 ?_
      refine e_L 1 (f' := (30, [(0, .ref 103), (2, .int v2), (3, .int v3)], [.ref 103, .ref 109])) rfl ?_
      refine e_gI 2 11 rfl rfl lc_103 ?_
      refine e_L 2 (f' := (35, [(0, .ref 103), (2, .int v2), (3, .int v3)], [.int ((s.1 103 11) - (1 : Int32)), .ref 109])) rfl ?_
      refine qle_gd fun h3 => ?_
      refine e_ial (n := 20000) (k := ((s.1 103 11) - (1 : Int32)).toNatClampNeg) rfl lc_109 ln_109 h3 rfl ?_
      refine e_nI fun z4 => ?_
      refine e_L 2 (f' := (39, [(4, .int z4), (0, .ref 103), (2, .int v2), (3, .int v3)], [.ref 103])) rfl ?_
      refine e_gR (q := 110) 2 8 rfl rfl lc_103 lr_103_8 ?_
      refine e_L 1 (f' := (44, [(4, .int z4), (0, .ref 103), (2, .int v2), (3, .int v3)], [.int z4, .ref 110])) rfl ?_
      refine qle_gd fun h5 => ?_
      refine e_ial (n := 20000) (k := z4.toNatClampNeg) rfl lc_110 ln_110 h5 rfl ?_
      refine e_L 1 (f' := (46, [(4, .int z4), (0, .ref 103), (2, .int v2), (3, .int v3)], [.ref 103, .int (s.1 110 z4.toNatClampNeg)])) rfl ?_
      refine e_gR (q := 70) 2 0 rfl rfl lc_103 lr_103_0 ?_
      refine e_gR (q := 92) 10 6 rfl rfl lc_70 lr_70_6 ?_
      refine e_L 3 (f' := (56, [(4, .int z4), (0, .ref 103), (2, .int v2), (3, .int v3)], [.int (z4 + (1 : Int32)), .ref 92, .int (s.1 110 z4.toNatClampNeg)])) rfl ?_
      refine qle_gd fun h6 => ?_
      refine e_ial (n := 20001) (k := (z4 + (1 : Int32)).toNatClampNeg) rfl lc_92 ln_92 h6 rfl ?_
      refine e_icmp 102 rfl rfl rfl (fun c7 => ?_) (fun c7 => ?_)
      · refine e_L 2 (f' := (104, [(4, .int z4), (0, .ref 103), (2, .int v2), (3, .int v3)], [.ref 103, .ref 103])) rfl ?_
        refine e_gI 2 11 rfl rfl lc_103 ?_
        refine e_L 2 (f' := (109, [(4, .int z4), (0, .ref 103), (2, .int v2), (3, .int v3)], [.int ((s.1 103 11) - (1 : Int32)), .ref 103])) rfl ?_
        refine e_pI 2 11 rfl rfl lc_103 rfl ?_
        refine e_nS fun s8 => ?_
        refine e_L 1 (f' := (113, [(4, .int z4), (0, .ref 103), (2, .int v2), (3, .int v3)], [.ref 103])) rfl ?_
        refine e_gI 2 11 rfl rfl lc_103 ?_
        refine e_ifz 161 rfl rfl rfl (fun c9 => ?_) (fun c9 => ?_)
        · exact qE_sub (qsubL [1, 2, 3, 0] rfl (ks := [4, 0, 2, 3]) rfl (by decide))
        · refine e_L 1 (f' := (120, [(4, .int z4), (0, .ref 103), (2, .int v2), (3, .int v3)], [.ref 103])) rfl ?_
          refine e_gR (q := 106) 2 4 rfl rfl lc_103 lr_103_4 ?_
          refine e_L 1 (f' := (124, [(4, .int z4), (0, .ref 103), (2, .int v2), (3, .int v3)], [.ref 103, .ref 106])) rfl ?_
          refine e_gR (q := 109) 2 7 rfl rfl lc_103 lr_103_7 ?_
          refine e_L 1 (f' := (128, [(4, .int z4), (0, .ref 103), (2, .int v2), (3, .int v3)], [.ref 103, .ref 109, .ref 106])) rfl ?_
          refine e_gI 2 11 rfl rfl lc_103 ?_
          refine e_L 2 (f' := (133, [(4, .int z4), (0, .ref 103), (2, .int v2), (3, .int v3)], [.int ((s8.1 103 11) - (1 : Int32)), .ref 109, .ref 106])) rfl ?_
          refine qle_gd fun h10 => ?_
          refine e_ial (n := 20000) (k := ((s8.1 103 11) - (1 : Int32)).toNatClampNeg) rfl lc_109 ln_109 h10 rfl ?_
          refine e_L 1 (f' := (135, [(4, .int z4), (0, .ref 103), (2, .int v2), (3, .int v3)], [.ref 103, .int (s8.1 109 ((s8.1 103 11) - (1 : Int32)).toNatClampNeg), .ref 106])) rfl ?_
          refine e_gR (q := 106) 2 4 rfl rfl lc_103 lr_103_4 ?_
          refine e_L 1 (f' := (139, [(4, .int z4), (0, .ref 103), (2, .int v2), (3, .int v3)], [.ref 103, .ref 106, .int (s8.1 109 ((s8.1 103 11) - (1 : Int32)).toNatClampNeg), .ref 106])) rfl ?_
          refine e_gR (q := 109) 2 7 rfl rfl lc_103 lr_103_7 ?_
          refine e_L 1 (f' := (143, [(4, .int z4), (0, .ref 103), (2, .int v2), (3, .int v3)], [.ref 103, .ref 109, .ref 106, .int (s8.1 109 ((s8.1 103 11) - (1 : Int32)).toNatClampNeg), .ref 106])) rfl ?_
          refine e_gI 2 11 rfl rfl lc_103 ?_
          refine e_L 2 (f' := (148, [(4, .int z4), (0, .ref 103), (2, .int v2), (3, .int v3)], [.int ((s8.1 103 11) - (1 : Int32)), .ref 109, .ref 106, .int (s8.1 109 ((s8.1 103 11) - (1 : Int32)).toNatClampNeg), .ref 106])) rfl ?_
          refine e_ial (n := 20000) (k := ((s8.1 103 11) - (1 : Int32)).toNatClampNeg) rfl lc_109 ln_109 h10 rfl ?_
          refine qle_gd fun h11 => ?_
          refine e_ial (n := 20000) (k := (s8.1 109 ((s8.1 103 11) - (1 : Int32)).toNatClampNeg).toNatClampNeg) rfl lc_106 ln_106 h11 rfl ?_
          refine e_L 1 (f' := (151, [(4, .int z4), (0, .ref 103), (2, .int v2), (3, .int v3)], [.ref 103, .int (s8.1 106 (s8.1 109 ((s8.1 103 11) - (1 : Int32)).toNatClampNeg).toNatClampNeg), .int (s8.1 109 ((s8.1 103 11) - (1 : Int32)).toNatClampNeg), .ref 106])) rfl ?_
          refine e_gR (q := 106) 2 4 rfl rfl lc_103 lr_103_4 ?_
          refine e_L 1 (f' := (156, [(4, .int z4), (0, .ref 103), (2, .int v2), (3, .int v3)], [.int z4, .ref 106, .int (s8.1 106 (s8.1 109 ((s8.1 103 11) - (1 : Int32)).toNatClampNeg).toNatClampNeg), .int (s8.1 109 ((s8.1 103 11) - (1 : Int32)).toNatClampNeg), .ref 106])) rfl ?_
          refine e_ial (n := 20000) (k := z4.toNatClampNeg) rfl lc_106 ln_106 h5 rfl ?_
          refine e_sI 412 rfl rfl rfl ix_J9_min_7cf53 rfl (Nat.le_of_ble_eq_true rfl) (fun w12 s13 e14 => ?_)
          refine e_ias (n := 20000) (k := (s8.1 109 ((s8.1 103 11) - (1 : Int32)).toNatClampNeg).toNatClampNeg) rfl lc_106 ln_106 h11 rfl ?_
          refine e_nS fun s15 => ?_
          exact qE_sub (qsubL [1, 2, 3, 0] rfl (ks := [4, 0, 2, 3]) rfl (by decide))
      · refine e_L 1 (f' := (61, [(4, .int z4), (0, .ref 103), (2, .int v2), (3, .int v3)], [.ref 103])) rfl ?_
        refine e_gR (q := 70) 2 0 rfl rfl lc_103 lr_103_0 ?_
        refine e_gR (q := 90) 10 4 rfl rfl lc_70 lr_70_4 ?_
        refine e_L 1 (f' := (68, [(4, .int z4), (0, .ref 103), (2, .int v2), (3, .int v3)], [.ref 103, .ref 90])) rfl ?_
        refine e_gR (q := 110) 2 8 rfl rfl lc_103 lr_103_8 ?_
        refine e_L 1 (f' := (73, [(4, .int z4), (0, .ref 103), (2, .int v2), (3, .int v3)], [.int z4, .ref 110, .ref 90])) rfl ?_
        refine e_ial (n := 20000) (k := z4.toNatClampNeg) rfl lc_110 ln_110 h5 rfl ?_
        refine qle_gd fun h16 => ?_
        refine e_ial (n := 200000) (k := (s.1 110 z4.toNatClampNeg).toNatClampNeg) rfl lc_90 ln_90 h16 rfl ?_
        refine e_sI 187 rfl rfl rfl ix_X10_stateOf rfl (Nat.le_of_ble_eq_true rfl) (fun w17 s18 e19 => ?_)
        refine e_L 2 (f' := (81, [(5, .int w17), (4, .int z4), (0, .ref 103), (2, .int v2), (3, .int v3)], [.ref 103])) rfl ?_
        refine e_gR (q := 110) 2 8 rfl rfl lc_103 lr_103_8 ?_
        refine e_L 2 (f' := (87, [(5, .int w17), (4, .int z4), (0, .ref 103), (2, .int v2), (3, .int v3)], [.int z4, .ref 110, .int z4, .ref 110])) rfl ?_
        refine e_ial (n := 20000) (k := z4.toNatClampNeg) rfl lc_110 ln_110 h5 rfl ?_
        refine e_L 2 (f' := (90, [(5, .int w17), (4, .int z4), (0, .ref 103), (2, .int v2), (3, .int v3)], [.int ((s18.1 110 z4.toNatClampNeg) + (1 : Int32)), .int z4, .ref 110])) rfl ?_
        refine e_ias (n := 20000) (k := z4.toNatClampNeg) rfl lc_110 ln_110 h5 rfl ?_
        refine e_nS fun s20 => ?_
        refine e_L 3 (f' := (96, [(5, .int w17), (4, .int z4), (0, .ref 103), (2, .int v2), (3, .int v3)], [.int w17, .int z4, .ref 103])) rfl ?_
        refine e_vV 29 rfl rfl ix_X2_follow rfl (q_recvOf lc_103 rfl) (Nat.le_of_ble_eq_true rfl) (fun s22 e23 => ?_)
        refine e_L 3 (f' := (12, [(3, .int (v3 + (1 : Int32))), (5, .int w17), (4, .int z4), (0, .ref 103), (2, .int v2)], [])) rfl ?_
        exact qE_sub (qsubL [3, 4, 0] rfl (ks := [3, 5, 4, 0, 2]) rfl (by decide))
set_option maxRecDepth 100000 in
set_option maxHeartbeats 4000000 in
theorem le_X2_walkFrom_161 (en : pN) (d : Nat) (v2 : Int32) (v3 : Int32) (v4 : Int32) (s : qS) : qle (gd (p_inB v4 20000 = true) (if ¬ (s.1 106 v4.toNatClampNeg) = (s.1 105 v4.toNatClampNeg) then L_X2_walkFrom_12 en d v2 (v3 + (1 : Int32)) s else bV (qev en d 30 [.ref 103, .int v4, .int v2] s) (fun s4 => L_X2_walkFrom_12 en d v2 (v3 + (1 : Int32)) s4))) (L_X2_walkFrom_161 en d v2 v3 v4 s) := by
  show qle _ (qE (qev en d) en none tb_X2_walkFrom (161, [(0, .ref 103), (2, .int v2), (3, .int v3), (4, .int v4)], []) s)
  refine e_L 1 (f' := (162, [(0, .ref 103), (2, .int v2), (3, .int v3), (4, .int v4)], [.ref 103])) rfl ?_
  refine e_gR (q := 106) 2 4 rfl rfl lc_103 lr_103_4 ?_
  refine e_L 1 (f' := (167, [(0, .ref 103), (2, .int v2), (3, .int v3), (4, .int v4)], [.int v4, .ref 106])) rfl ?_
  refine qle_gd fun h1 => ?_
  refine e_ial (n := 20000) (k := v4.toNatClampNeg) rfl lc_106 ln_106 h1 rfl ?_
  refine e_L 1 (f' := (169, [(0, .ref 103), (2, .int v2), (3, .int v3), (4, .int v4)], [.ref 103, .int (s.1 106 v4.toNatClampNeg)])) rfl ?_
  refine e_gR (q := 105) 2 3 rfl rfl lc_103 lr_103_3 ?_
  refine e_L 1 (f' := (174, [(0, .ref 103), (2, .int v2), (3, .int v3), (4, .int v4)], [.int v4, .ref 105, .int (s.1 106 v4.toNatClampNeg)])) rfl ?_
  refine e_ial (n := 20000) (k := v4.toNatClampNeg) rfl lc_105 ln_105 h1 rfl ?_
  refine e_icmp 185 rfl rfl rfl (fun c2 => ?_) (fun c2 => ?_)
  · refine e_L 2 (f' := (12, [(3, .int (v3 + (1 : Int32))), (0, .ref 103), (2, .int v2), (4, .int v4)], [])) rfl ?_
    exact qE_sub (qsubL [1, 2, 0] rfl (ks := [3, 0, 2, 4]) rfl (by decide))
  · refine e_L 3 (f' := (182, [(0, .ref 103), (2, .int v2), (3, .int v3), (4, .int v4)], [.int v2, .int v4, .ref 103])) rfl ?_
    refine e_vV 30 rfl rfl ix_X2_close rfl (q_recvOf lc_103 rfl) (Nat.le_of_ble_eq_true rfl) (fun s4 e5 => ?_)
    refine e_L 2 (f' := (12, [(3, .int (v3 + (1 : Int32))), (0, .ref 103), (2, .int v2), (4, .int v4)], [])) rfl ?_
    exact qE_sub (qsubL [1, 2, 0] rfl (ks := [3, 0, 2, 4]) rfl (by decide))
set_option maxRecDepth 100000 in
set_option maxHeartbeats 4000000 in
theorem le_X2_walkFrom (en : pN) (d : Nat) (a1 : Int32) (a2 : Int32) (s : qS) : qle (nm (uI s 103 11 (0 : Int32)) (fun s1 => bV (qev en d 27 [.ref 103, .int a1] s1) (fun s3 => L_X2_walkFrom_12 en d a2 (0 : Int32) s3))) (qev en (d + 1) 28 [.ref 103, .int a1, .int a2] s) := by
  refine e_enter ix_X2_walkFrom (Nat.le_of_ble_eq_true rfl) ?_
  show qle _ (qE (qev en d) en none tb_X2_walkFrom (0, [(0, .ref 103), (1, .int a1), (2, .int a2)], []) s)
  refine e_L 2 (f' := (2, [(0, .ref 103), (1, .int a1), (2, .int a2)], [.int (0 : Int32), .ref 103])) rfl ?_
  refine e_pI 2 11 rfl rfl lc_103 rfl ?_
  refine e_nS fun s1 => ?_
  refine e_L 2 (f' := (7, [(0, .ref 103), (1, .int a1), (2, .int a2)], [.int a1, .ref 103])) rfl ?_
  refine e_vV 27 rfl rfl ix_X2_enter rfl (q_recvOf lc_103 rfl) (Nat.le_of_ble_eq_true rfl) (fun s3 e4 => ?_)
  refine e_L 2 (f' := (12, [(3, .int (0 : Int32)), (0, .ref 103), (1, .int a1), (2, .int a2)], [])) rfl ?_
  exact qE_sub (qsubL [1, 3, 0] rfl (ks := [3, 0, 1, 2]) rfl (by decide))
set_option maxRecDepth 100000 in
set_option maxHeartbeats 4000000 in
theorem le_X2_follow (en : pN) (d : Nat) (a1 : Int32) (a2 : Int32) (s : qS) : qle (bI (qev en d 23 [.ref 103, .int a2] s) (fun w1 s2 => if w1 = (0 : Int32) then gd (p_inB a2 20000 = true) (if ¬ (s2.1 105 a2.toNatClampNeg) = (0 : Int32) then if ¬ (s2.1 107 a2.toNatClampNeg) = (0 : Int32) then some (none, s2) else gd (p_inB a1 20000 = true) (bI (qev en d 412 [.int (s2.1 106 a1.toNatClampNeg), .int (s2.1 105 a2.toNatClampNeg)] s2) (fun w9 s10 => nm (uI s10 106 (a1.toNatClampNeg) w9) (fun s12 => some (none, s12)))) else bV (qev en d 27 [.ref 103, .int a2] s2) (fun s14 => some (none, s14))) else some (none, s2))) (qev en (d + 1) 29 [.ref 103, .int a1, .int a2] s) := by
  refine e_enter ix_X2_follow (Nat.le_of_ble_eq_true rfl) ?_
  show qle _ (qE (qev en d) en none tb_X2_follow (0, [(0, .ref 103), (1, .int a1), (2, .int a2)], []) s)
  refine e_L 2 (f' := (2, [(0, .ref 103), (1, .int a1), (2, .int a2)], [.int a2, .ref 103])) rfl ?_
  refine e_vI 23 rfl rfl ix_X2_isWanted rfl (q_recvOf lc_103 rfl) (Nat.le_of_ble_eq_true rfl) (fun w1 s2 e3 => ?_)
  refine e_ifz 9 rfl rfl rfl (fun c4 => ?_) (fun c4 => ?_)
  · refine e_L 1 (f' := (10, [(0, .ref 103), (1, .int a1), (2, .int a2)], [.ref 103])) rfl ?_
    refine e_gR (q := 105) 2 3 rfl rfl lc_103 lr_103_3 ?_
    refine e_L 1 (f' := (14, [(0, .ref 103), (1, .int a1), (2, .int a2)], [.int a2, .ref 105])) rfl ?_
    refine qle_gd fun h5 => ?_
    refine e_ial (n := 20000) (k := a2.toNatClampNeg) rfl lc_105 ln_105 h5 rfl ?_
    refine e_ifz 26 rfl rfl rfl (fun c6 => ?_) (fun c6 => ?_)
    · refine e_L 1 (f' := (27, [(0, .ref 103), (1, .int a1), (2, .int a2)], [.ref 103])) rfl ?_
      refine e_gR (q := 107) 2 5 rfl rfl lc_103 lr_103_5 ?_
      refine e_L 1 (f' := (31, [(0, .ref 103), (1, .int a1), (2, .int a2)], [.int a2, .ref 107])) rfl ?_
      refine e_ial (n := 20000) (k := a2.toNatClampNeg) rfl lc_107 ln_107 h5 rfl ?_
      refine e_ifz 56 rfl rfl rfl (fun c7 => ?_) (fun c7 => ?_)
      · exact e_rV rfl rfl
      · refine e_L 1 (f' := (36, [(0, .ref 103), (1, .int a1), (2, .int a2)], [.ref 103])) rfl ?_
        refine e_gR (q := 106) 2 4 rfl rfl lc_103 lr_103_4 ?_
        refine e_L 2 (f' := (41, [(0, .ref 103), (1, .int a1), (2, .int a2)], [.ref 103, .int a1, .ref 106])) rfl ?_
        refine e_gR (q := 106) 2 4 rfl rfl lc_103 lr_103_4 ?_
        refine e_L 1 (f' := (45, [(0, .ref 103), (1, .int a1), (2, .int a2)], [.int a1, .ref 106, .int a1, .ref 106])) rfl ?_
        refine qle_gd fun h8 => ?_
        refine e_ial (n := 20000) (k := a1.toNatClampNeg) rfl lc_106 ln_106 h8 rfl ?_
        refine e_L 1 (f' := (47, [(0, .ref 103), (1, .int a1), (2, .int a2)], [.ref 103, .int (s2.1 106 a1.toNatClampNeg), .int a1, .ref 106])) rfl ?_
        refine e_gR (q := 105) 2 3 rfl rfl lc_103 lr_103_3 ?_
        refine e_L 1 (f' := (51, [(0, .ref 103), (1, .int a1), (2, .int a2)], [.int a2, .ref 105, .int (s2.1 106 a1.toNatClampNeg), .int a1, .ref 106])) rfl ?_
        refine e_ial (n := 20000) (k := a2.toNatClampNeg) rfl lc_105 ln_105 h5 rfl ?_
        refine e_sI 412 rfl rfl rfl ix_J9_min_7cf53 rfl (Nat.le_of_ble_eq_true rfl) (fun w9 s10 e11 => ?_)
        refine e_ias (n := 20000) (k := a1.toNatClampNeg) rfl lc_106 ln_106 h8 rfl ?_
        refine e_nS fun s12 => ?_
        exact e_rV rfl rfl
    · refine e_L 2 (f' := (20, [(0, .ref 103), (1, .int a1), (2, .int a2)], [.int a2, .ref 103])) rfl ?_
      refine e_vV 27 rfl rfl ix_X2_enter rfl (q_recvOf lc_103 rfl) (Nat.le_of_ble_eq_true rfl) (fun s14 e15 => ?_)
      refine e_L 1 (f' := (56, [(0, .ref 103), (1, .int a1), (2, .int a2)], [])) rfl ?_
      exact e_rV rfl rfl
  · exact e_rV rfl rfl
noncomputable def L_X2_close_15 (en : pN) (d : Nat) (v1 : Int32) (v2 : Int32) (v3 : Int32) (s : qS) : Option qR := qE (qev en d) en none tb_X2_close (15, [(0, .ref 103), (1, .int v1), (2, .int v2), (3, .int v3)], []) s
noncomputable def L_X2_close_47 (en : pN) (d : Nat) (v2 : Int32) (v3 : Int32) (s : qS) : Option qR := qE (qev en d) en none tb_X2_close (47, [(0, .ref 103), (2, .int v2), (3, .int v3)], []) s
noncomputable def L_X2_close_59 (en : pN) (d : Nat) (v2 : Int32) (v3 : Int32) (v4 : Int32) (v5 : Int32) (v6 : Int32) (v7 : Int32) (s : qS) : Option qR := qE (qev en d) en none tb_X2_close (59, [(0, .ref 103), (2, .int v2), (3, .int v3), (4, .int v4), (5, .int v5), (6, .int v6), (7, .int v7)], []) s
noncomputable def L_X2_close_115 (en : pN) (d : Nat) (v2 : Int32) (v3 : Int32) (v5 : Int32) (v6 : Int32) (v7 : Int32) (v8 : Int32) (vs0 : Int32) (s : qS) : Option qR := qE (qev en d) en none tb_X2_close (115, [(0, .ref 103), (2, .int v2), (3, .int v3), (5, .int v5), (6, .int v6), (7, .int v7), (8, .int v8)], [.int vs0]) s
noncomputable def L_X2_close_129 (en : pN) (d : Nat) (v2 : Int32) (v3 : Int32) (v4 : Int32) (v5 : Int32) (v6 : Int32) (v7 : Int32) (v8 : Int32) (v9 : Int32) (s : qS) : Option qR := qE (qev en d) en none tb_X2_close (129, [(0, .ref 103), (2, .int v2), (3, .int v3), (4, .int v4), (5, .int v5), (6, .int v6), (7, .int v7), (8, .int v8), (9, .int v9)], []) s
noncomputable def L_X2_close_198 (en : pN) (d : Nat) (v2 : Int32) (v3 : Int32) (v4 : Int32) (v5 : Int32) (v6 : Int32) (v7 : Int32) (v8 : Int32) (v9 : Int32) (v10 : Int32) (s : qS) : Option qR := qE (qev en d) en none tb_X2_close (198, [(0, .ref 103), (2, .int v2), (3, .int v3), (4, .int v4), (5, .int v5), (6, .int v6), (7, .int v7), (8, .int v8), (9, .int v9), (10, .int v10)], []) s
noncomputable def L_X2_close_269 (en : pN) (d : Nat) (v3 : Int32) (v4 : Int32) (v7 : Int32) (s : qS) : Option qR := qE (qev en d) en none tb_X2_close (269, [(0, .ref 103), (3, .int v3), (4, .int v4), (7, .int v7)], []) s
noncomputable def L_X2_close_306 (en : pN) (d : Nat) (v3 : Int32) (s : qS) : Option qR := qE (qev en d) en none tb_X2_close (306, [(0, .ref 103), (3, .int v3)], []) s
set_option maxRecDepth 100000 in
set_option maxHeartbeats 4000000 in
theorem le_X2_close_15 (en : pN) (d : Nat) (v1 : Int32) (v2 : Int32) (v3 : Int32) (s : qS) : qle (gd (p_inB (v3 + (-1 : Int32)) 20000 = true) (gd (p_inB (s.1 108 (v3 + (-1 : Int32)).toNatClampNeg) 20000 = true) (nm (uI s 107 ((s.1 108 (v3 + (-1 : Int32)).toNatClampNeg).toNatClampNeg) (s.1 103 12)) (fun s3 => if (v3 + (-1 : Int32)) ≤ (0 : Int32) then L_X2_close_47 en d v2 (v3 + (-1 : Int32)) s3 else if ¬ (s3.1 108 (v3 + (-1 : Int32)).toNatClampNeg) = v1 then L_X2_close_15 en d v1 v2 (v3 + (-1 : Int32)) s3 else L_X2_close_47 en d v2 (v3 + (-1 : Int32)) s3)))) (L_X2_close_15 en d v1 v2 v3 s) := by
  show qle _ (qE (qev en d) en none tb_X2_close (15, [(0, .ref 103), (1, .int v1), (2, .int v2), (3, .int v3)], []) s)
  refine e_L 2 (f' := (19, [(3, .int (v3 + (-1 : Int32))), (0, .ref 103), (1, .int v1), (2, .int v2)], [.ref 103])) rfl ?_
  refine e_gR (q := 107) 2 5 rfl rfl lc_103 lr_103_5 ?_
  refine e_L 1 (f' := (23, [(3, .int (v3 + (-1 : Int32))), (0, .ref 103), (1, .int v1), (2, .int v2)], [.ref 103, .ref 107])) rfl ?_
  refine e_gR (q := 108) 2 6 rfl rfl lc_103 lr_103_6 ?_
  refine e_L 1 (f' := (27, [(3, .int (v3 + (-1 : Int32))), (0, .ref 103), (1, .int v1), (2, .int v2)], [.int (v3 + (-1 : Int32)), .ref 108, .ref 107])) rfl ?_
  refine qle_gd fun h1 => ?_
  refine e_ial (n := 20000) (k := (v3 + (-1 : Int32)).toNatClampNeg) rfl lc_108 ln_108 h1 rfl ?_
  refine e_L 1 (f' := (29, [(3, .int (v3 + (-1 : Int32))), (0, .ref 103), (1, .int v1), (2, .int v2)], [.ref 103, .int (s.1 108 (v3 + (-1 : Int32)).toNatClampNeg), .ref 107])) rfl ?_
  refine e_gI 2 12 rfl rfl lc_103 ?_
  refine qle_gd fun h2 => ?_
  refine e_ias (n := 20000) (k := (s.1 108 (v3 + (-1 : Int32)).toNatClampNeg).toNatClampNeg) rfl lc_107 ln_107 h2 rfl ?_
  refine e_nS fun s3 => ?_
  refine e_L 1 (f' := (34, [(3, .int (v3 + (-1 : Int32))), (0, .ref 103), (1, .int v1), (2, .int v2)], [.int (v3 + (-1 : Int32))])) rfl ?_
  refine e_ifz 47 rfl rfl rfl (fun c4 => ?_) (fun c4 => ?_)
  · exact qE_sub (qsubL [1, 3, 0] rfl (ks := [3, 0, 1, 2]) rfl (by decide))
  · refine e_L 1 (f' := (38, [(3, .int (v3 + (-1 : Int32))), (0, .ref 103), (1, .int v1), (2, .int v2)], [.ref 103])) rfl ?_
    refine e_gR (q := 108) 2 6 rfl rfl lc_103 lr_103_6 ?_
    refine e_L 1 (f' := (42, [(3, .int (v3 + (-1 : Int32))), (0, .ref 103), (1, .int v1), (2, .int v2)], [.int (v3 + (-1 : Int32)), .ref 108])) rfl ?_
    refine e_ial (n := 20000) (k := (v3 + (-1 : Int32)).toNatClampNeg) rfl lc_108 ln_108 h1 rfl ?_
    refine e_L 1 (f' := (44, [(3, .int (v3 + (-1 : Int32))), (0, .ref 103), (1, .int v1), (2, .int v2)], [.int v1, .int (s3.1 108 (v3 + (-1 : Int32)).toNatClampNeg)])) rfl ?_
    refine e_icmp 15 rfl rfl rfl (fun c5 => ?_) (fun c5 => ?_)
    · exact qE_sub (qsubL [1, 2, 3, 0] rfl (ks := [3, 0, 1, 2]) rfl (by decide))
    · exact qE_sub (qsubL [1, 3, 0] rfl (ks := [3, 0, 1, 2]) rfl (by decide))
set_option maxRecDepth 100000 in
set_option maxHeartbeats 4000000 in
theorem le_X2_close_47 (en : pN) (d : Nat) (v2 : Int32) (v3 : Int32) (s : qS) : qle (L_X2_close_59 en d v2 v3 (0 : Int32) (0 : Int32) (0 : Int32) v3 s) (L_X2_close_47 en d v2 v3 s) := by
  show qle _ (qE (qev en d) en none tb_X2_close (47, [(0, .ref 103), (2, .int v2), (3, .int v3)], []) s)
  refine e_L 8 (f' := (59, [(7, .int v3), (6, .int (0 : Int32)), (5, .int (0 : Int32)), (4, .int (0 : Int32)), (0, .ref 103), (2, .int v2), (3, .int v3)], [])) rfl ?_
  exact qE_sub (qsubL [4, 5, 6, 3, 2, 1, 0] rfl (ks := [7, 6, 5, 4, 0, 2, 3]) rfl (by decide))
set_option maxRecDepth 100000 in
set_option maxHeartbeats 4000000 in
theorem le_X2_close_59 (en : pN) (d : Nat) (v2 : Int32) (v3 : Int32) (v4 : Int32) (v5 : Int32) (v6 : Int32) (v7 : Int32) (s : qS) : qle (if (s.1 103 10) ≤ v7 then if ¬ v4 = (0 : Int32) then L_X2_close_269 en d v3 (1 : Int32) v3 s else if v5 = (0 : Int32) then L_X2_close_269 en d v3 (0 : Int32) v3 s else if v2 = (0 : Int32) then L_X2_close_269 en d v3 (1 : Int32) v3 s else if ¬ (v6 &&& (15 : Int32)) = (15 : Int32) then L_X2_close_269 en d v3 (0 : Int32) v3 s else L_X2_close_269 en d v3 (1 : Int32) v3 s else gd (p_inB v7 20000 = true) (nm (s.1 108 v7.toNatClampNeg) (fun z7 => bI (qev en d 189 [.ref 70, .int z7] s) (fun w8 s9 => nm (v6 ||| (w8 ^^^ (-1 : Int32))) (fun z11 => if ¬ v4 = (0 : Int32) then L_X2_close_115 en d v2 v3 v5 z11 v7 z7 (1 : Int32) s9 else bI (qev en d 189 [.ref 70, .int z7] s9) (fun w13 s14 => if ¬ w13 = (0 : Int32) then L_X2_close_115 en d v2 v3 v5 z11 v7 z7 (0 : Int32) s14 else L_X2_close_115 en d v2 v3 v5 z11 v7 z7 (1 : Int32) s14)))))) (L_X2_close_59 en d v2 v3 v4 v5 v6 v7 s) := by
  show qle _ (qE (qev en d) en none tb_X2_close (59, [(0, .ref 103), (2, .int v2), (3, .int v3), (4, .int v4), (5, .int v5), (6, .int v6), (7, .int v7)], []) s)
  refine e_L 2 (f' := (62, [(0, .ref 103), (2, .int v2), (3, .int v3), (4, .int v4), (5, .int v5), (6, .int v6), (7, .int v7)], [.ref 103, .int v7])) rfl ?_
  refine e_gI 2 10 rfl rfl lc_103 ?_
  refine e_icmp 235 rfl rfl rfl (fun c1 => ?_) (fun c1 => ?_)
  · refine e_L 1 (f' := (237, [(0, .ref 103), (2, .int v2), (3, .int v3), (4, .int v4), (5, .int v5), (6, .int v6), (7, .int v7)], [.int v4])) rfl ?_
    refine e_ifz 259 rfl rfl rfl (fun c2 => ?_) (fun c2 => ?_)
    · refine e_L 5 (f' := (269, [(7, .int v3), (4, .int (1 : Int32)), (0, .ref 103), (2, .int v2), (3, .int v3), (5, .int v5), (6, .int v6)], [])) rfl ?_
      exact qE_sub (qsubL [2, 4, 1, 0] rfl (ks := [7, 4, 0, 2, 3, 5, 6]) rfl (by decide))
    · refine e_L 1 (f' := (242, [(0, .ref 103), (2, .int v2), (3, .int v3), (4, .int v4), (5, .int v5), (6, .int v6), (7, .int v7)], [.int v5])) rfl ?_
      refine e_ifz 263 rfl rfl rfl (fun c3 => ?_) (fun c3 => ?_)
      · refine e_L 4 (f' := (269, [(7, .int v3), (4, .int (0 : Int32)), (0, .ref 103), (2, .int v2), (3, .int v3), (5, .int v5), (6, .int v6)], [])) rfl ?_
        exact qE_sub (qsubL [2, 4, 1, 0] rfl (ks := [7, 4, 0, 2, 3, 5, 6]) rfl (by decide))
      · refine e_L 1 (f' := (246, [(0, .ref 103), (2, .int v2), (3, .int v3), (4, .int v4), (5, .int v5), (6, .int v6), (7, .int v7)], [.int v2])) rfl ?_
        refine e_ifz 259 rfl rfl rfl (fun c4 => ?_) (fun c4 => ?_)
        · refine e_L 5 (f' := (269, [(7, .int v3), (4, .int (1 : Int32)), (0, .ref 103), (2, .int v2), (3, .int v3), (5, .int v5), (6, .int v6)], [])) rfl ?_
          exact qE_sub (qsubL [2, 4, 1, 0] rfl (ks := [7, 4, 0, 2, 3, 5, 6]) rfl (by decide))
        · refine e_L 4 (f' := (256, [(0, .ref 103), (2, .int v2), (3, .int v3), (4, .int v4), (5, .int v5), (6, .int v6), (7, .int v7)], [.int (15 : Int32), .int (v6 &&& (15 : Int32))])) rfl ?_
          refine e_icmp 263 rfl rfl rfl (fun c5 => ?_) (fun c5 => ?_)
          · refine e_L 4 (f' := (269, [(7, .int v3), (4, .int (0 : Int32)), (0, .ref 103), (2, .int v2), (3, .int v3), (5, .int v5), (6, .int v6)], [])) rfl ?_
            exact qE_sub (qsubL [2, 4, 1, 0] rfl (ks := [7, 4, 0, 2, 3, 5, 6]) rfl (by decide))
          · refine e_L 5 (f' := (269, [(7, .int v3), (4, .int (1 : Int32)), (0, .ref 103), (2, .int v2), (3, .int v3), (5, .int v5), (6, .int v6)], [])) rfl ?_
            exact qE_sub (qsubL [2, 4, 1, 0] rfl (ks := [7, 4, 0, 2, 3, 5, 6]) rfl (by decide))
  · refine e_L 1 (f' := (69, [(0, .ref 103), (2, .int v2), (3, .int v3), (4, .int v4), (5, .int v5), (6, .int v6), (7, .int v7)], [.ref 103])) rfl ?_
    refine e_gR (q := 108) 2 6 rfl rfl lc_103 lr_103_6 ?_
    refine e_L 1 (f' := (74, [(0, .ref 103), (2, .int v2), (3, .int v3), (4, .int v4), (5, .int v5), (6, .int v6), (7, .int v7)], [.int v7, .ref 108])) rfl ?_
    refine qle_gd fun h6 => ?_
    refine e_ial (n := 20000) (k := v7.toNatClampNeg) rfl lc_108 ln_108 h6 rfl ?_
    refine e_nI fun z7 => ?_
    refine e_L 3 (f' := (80, [(8, .int z7), (0, .ref 103), (2, .int v2), (3, .int v3), (4, .int v4), (5, .int v5), (6, .int v6), (7, .int v7)], [.ref 103, .int v6])) rfl ?_
    refine e_gR (q := 70) 2 0 rfl rfl lc_103 lr_103_0 ?_
    refine e_L 1 (f' := (85, [(8, .int z7), (0, .ref 103), (2, .int v2), (3, .int v3), (4, .int v4), (5, .int v5), (6, .int v6), (7, .int v7)], [.int z7, .ref 70, .int v6])) rfl ?_
    refine e_vI 189 rfl rfl ix_X10_readyThreads rfl (q_recvOf lc_70 rfl) (Nat.le_of_ble_eq_true rfl) (fun w8 s9 e10 => ?_)
    refine e_L 3 (f' := (91, [(8, .int z7), (0, .ref 103), (2, .int v2), (3, .int v3), (4, .int v4), (5, .int v5), (6, .int v6), (7, .int v7)], [.int (v6 ||| (w8 ^^^ (-1 : Int32)))])) rfl ?_
    refine e_nI fun z11 => ?_
    refine e_L 2 (f' := (95, [(6, .int z11), (8, .int z7), (0, .ref 103), (2, .int v2), (3, .int v3), (4, .int v4), (5, .int v5), (7, .int v7)], [.int v4])) rfl ?_
    refine e_ifz 110 rfl rfl rfl (fun c12 => ?_) (fun c12 => ?_)
    · refine e_L 2 (f' := (115, [(6, .int z11), (8, .int z7), (0, .ref 103), (2, .int v2), (3, .int v3), (4, .int v4), (5, .int v5), (7, .int v7)], [.int (1 : Int32)])) rfl ?_
      exact qE_sub (qsubL [2, 3, 4, 6, 0, 7, 1] rfl (ks := [6, 8, 0, 2, 3, 4, 5, 7]) rfl (by decide))
    · refine e_L 1 (f' := (99, [(6, .int z11), (8, .int z7), (0, .ref 103), (2, .int v2), (3, .int v3), (4, .int v4), (5, .int v5), (7, .int v7)], [.ref 103])) rfl ?_
      refine e_gR (q := 70) 2 0 rfl rfl lc_103 lr_103_0 ?_
      refine e_L 1 (f' := (104, [(6, .int z11), (8, .int z7), (0, .ref 103), (2, .int v2), (3, .int v3), (4, .int v4), (5, .int v5), (7, .int v7)], [.int z7, .ref 70])) rfl ?_
      refine e_vI 189 rfl rfl ix_X10_readyThreads rfl (q_recvOf lc_70 rfl) (Nat.le_of_ble_eq_true rfl) (fun w13 s14 e15 => ?_)
      refine e_ifz 114 rfl rfl rfl (fun c16 => ?_) (fun c16 => ?_)
      · refine e_L 1 (f' := (115, [(6, .int z11), (8, .int z7), (0, .ref 103), (2, .int v2), (3, .int v3), (4, .int v4), (5, .int v5), (7, .int v7)], [.int (0 : Int32)])) rfl ?_
        exact qE_sub (qsubL [2, 3, 4, 6, 0, 7, 1] rfl (ks := [6, 8, 0, 2, 3, 4, 5, 7]) rfl (by decide))
      · refine e_L 2 (f' := (115, [(6, .int z11), (8, .int z7), (0, .ref 103), (2, .int v2), (3, .int v3), (4, .int v4), (5, .int v5), (7, .int v7)], [.int (1 : Int32)])) rfl ?_
        exact qE_sub (qsubL [2, 3, 4, 6, 0, 7, 1] rfl (ks := [6, 8, 0, 2, 3, 4, 5, 7]) rfl (by decide))
set_option maxRecDepth 100000 in
set_option maxHeartbeats 4000000 in
theorem le_X2_close_115 (en : pN) (d : Nat) (v2 : Int32) (v3 : Int32) (v5 : Int32) (v6 : Int32) (v7 : Int32) (v8 : Int32) (vs0 : Int32) (s : qS) : qle (gd (p_inB v8 20001 = true) (nm (s.1 92 v8.toNatClampNeg) (fun z2 => L_X2_close_129 en d v2 v3 vs0 v5 v6 v7 v8 z2 s))) (L_X2_close_115 en d v2 v3 v5 v6 v7 v8 vs0 s) := by
  show qle _ (qE (qev en d) en none tb_X2_close (115, [(0, .ref 103), (2, .int v2), (3, .int v3), (5, .int v5), (6, .int v6), (7, .int v7), (8, .int v8)], [.int vs0]) s)
  refine e_L 2 (f' := (118, [(4, .int vs0), (0, .ref 103), (2, .int v2), (3, .int v3), (5, .int v5), (6, .int v6), (7, .int v7), (8, .int v8)], [.ref 103])) rfl ?_
  refine e_gR (q := 70) 2 0 rfl rfl lc_103 lr_103_0 ?_
  refine e_gR (q := 92) 10 6 rfl rfl lc_70 lr_70_6 ?_
  refine e_L 1 (f' := (126, [(4, .int vs0), (0, .ref 103), (2, .int v2), (3, .int v3), (5, .int v5), (6, .int v6), (7, .int v7), (8, .int v8)], [.int v8, .ref 92])) rfl ?_
  refine qle_gd fun h1 => ?_
  refine e_ial (n := 20001) (k := v8.toNatClampNeg) rfl lc_92 ln_92 h1 rfl ?_
  refine e_nI fun z2 => ?_
  refine e_L 1 (f' := (129, [(9, .int z2), (4, .int vs0), (0, .ref 103), (2, .int v2), (3, .int v3), (5, .int v5), (6, .int v6), (7, .int v7), (8, .int v8)], [])) rfl ?_
  exact qE_sub (qsubL [2, 3, 4, 1, 5, 6, 7, 8, 0] rfl (ks := [9, 4, 0, 2, 3, 5, 6, 7, 8]) rfl (by decide))
set_option maxRecDepth 100000 in
set_option maxHeartbeats 4000000 in
theorem le_X2_close_129 (en : pN) (d : Nat) (v2 : Int32) (v3 : Int32) (v4 : Int32) (v5 : Int32) (v6 : Int32) (v7 : Int32) (v8 : Int32) (v9 : Int32) (s : qS) : qle (gd (p_inB (v8 + (1 : Int32)) 20001 = true) (if (s.1 92 (v8 + (1 : Int32)).toNatClampNeg) ≤ v9 then L_X2_close_59 en d v2 v3 v4 v5 v6 (v7 + (1 : Int32)) s else gd (p_inB v9 200000 = true) (bI (qev en d 187 [.int (s.1 90 v9.toNatClampNeg)] s) (fun w4 s5 => gd (p_inB w4 20000 = true) (if ¬ (s5.1 107 w4.toNatClampNeg) = (s5.1 103 12) then L_X2_close_198 en d v2 v3 v4 v5 v6 v7 v8 v9 w4 s5 else bI (qev en d 188 [.int (s5.1 90 v9.toNatClampNeg)] s5) (fun w9 s10 => nm (v6 ||| ((1 : Int32) <<< (w9 &&& 31))) (fun z12 => L_X2_close_198 en d v2 v3 v4 (1 : Int32) z12 v7 v8 v9 w4 s10))))))) (L_X2_close_129 en d v2 v3 v4 v5 v6 v7 v8 v9 s) := by
  show qle _ (qE (qev en d) en none tb_X2_close (129, [(0, .ref 103), (2, .int v2), (3, .int v3), (4, .int v4), (5, .int v5), (6, .int v6), (7, .int v7), (8, .int v8), (9, .int v9)], []) s)
  refine e_L 2 (f' := (132, [(0, .ref 103), (2, .int v2), (3, .int v3), (4, .int v4), (5, .int v5), (6, .int v6), (7, .int v7), (8, .int v8), (9, .int v9)], [.ref 103, .int v9])) rfl ?_
  refine e_gR (q := 70) 2 0 rfl rfl lc_103 lr_103_0 ?_
  refine e_gR (q := 92) 10 6 rfl rfl lc_70 lr_70_6 ?_
  refine e_L 3 (f' := (142, [(0, .ref 103), (2, .int v2), (3, .int v3), (4, .int v4), (5, .int v5), (6, .int v6), (7, .int v7), (8, .int v8), (9, .int v9)], [.int (v8 + (1 : Int32)), .ref 92, .int v9])) rfl ?_
  refine qle_gd fun h1 => ?_
  refine e_ial (n := 20001) (k := (v8 + (1 : Int32)).toNatClampNeg) rfl lc_92 ln_92 h1 rfl ?_
  refine e_icmp 229 rfl rfl rfl (fun c2 => ?_) (fun c2 => ?_)
  · refine e_L 2 (f' := (59, [(7, .int (v7 + (1 : Int32))), (0, .ref 103), (2, .int v2), (3, .int v3), (4, .int v4), (5, .int v5), (6, .int v6), (8, .int v8), (9, .int v9)], [])) rfl ?_
    exact qE_sub (qsubL [1, 2, 3, 4, 5, 6, 0] rfl (ks := [7, 0, 2, 3, 4, 5, 6, 8, 9]) rfl (by decide))
  · refine e_L 1 (f' := (147, [(0, .ref 103), (2, .int v2), (3, .int v3), (4, .int v4), (5, .int v5), (6, .int v6), (7, .int v7), (8, .int v8), (9, .int v9)], [.ref 103])) rfl ?_
    refine e_gR (q := 70) 2 0 rfl rfl lc_103 lr_103_0 ?_
    refine e_gR (q := 90) 10 4 rfl rfl lc_70 lr_70_4 ?_
    refine e_L 1 (f' := (155, [(0, .ref 103), (2, .int v2), (3, .int v3), (4, .int v4), (5, .int v5), (6, .int v6), (7, .int v7), (8, .int v8), (9, .int v9)], [.int v9, .ref 90])) rfl ?_
    refine qle_gd fun h3 => ?_
    refine e_ial (n := 200000) (k := v9.toNatClampNeg) rfl lc_90 ln_90 h3 rfl ?_
    refine e_sI 187 rfl rfl rfl ix_X10_stateOf rfl (Nat.le_of_ble_eq_true rfl) (fun w4 s5 e6 => ?_)
    refine e_L 2 (f' := (162, [(10, .int w4), (0, .ref 103), (2, .int v2), (3, .int v3), (4, .int v4), (5, .int v5), (6, .int v6), (7, .int v7), (8, .int v8), (9, .int v9)], [.ref 103])) rfl ?_
    refine e_gR (q := 107) 2 5 rfl rfl lc_103 lr_103_5 ?_
    refine e_L 1 (f' := (167, [(10, .int w4), (0, .ref 103), (2, .int v2), (3, .int v3), (4, .int v4), (5, .int v5), (6, .int v6), (7, .int v7), (8, .int v8), (9, .int v9)], [.int w4, .ref 107])) rfl ?_
    refine qle_gd fun h7 => ?_
    refine e_ial (n := 20000) (k := w4.toNatClampNeg) rfl lc_107 ln_107 h7 rfl ?_
    refine e_L 1 (f' := (169, [(10, .int w4), (0, .ref 103), (2, .int v2), (3, .int v3), (4, .int v4), (5, .int v5), (6, .int v6), (7, .int v7), (8, .int v8), (9, .int v9)], [.ref 103, .int (s5.1 107 w4.toNatClampNeg)])) rfl ?_
    refine e_gI 2 12 rfl rfl lc_103 ?_
    refine e_icmp 198 rfl rfl rfl (fun c8 => ?_) (fun c8 => ?_)
    · exact qE_sub (qsubL [1, 2, 3, 4, 5, 6, 7, 8, 9, 0] rfl (ks := [10, 0, 2, 3, 4, 5, 6, 7, 8, 9]) rfl (by decide))
    · refine e_L 5 (f' := (182, [(5, .int (1 : Int32)), (10, .int w4), (0, .ref 103), (2, .int v2), (3, .int v3), (4, .int v4), (6, .int v6), (7, .int v7), (8, .int v8), (9, .int v9)], [.ref 103, .int (1 : Int32), .int v6])) rfl ?_
      refine e_gR (q := 70) 2 0 rfl rfl lc_103 lr_103_0 ?_
      refine e_gR (q := 90) 10 4 rfl rfl lc_70 lr_70_4 ?_
      refine e_L 1 (f' := (190, [(5, .int (1 : Int32)), (10, .int w4), (0, .ref 103), (2, .int v2), (3, .int v3), (4, .int v4), (6, .int v6), (7, .int v7), (8, .int v8), (9, .int v9)], [.int v9, .ref 90, .int (1 : Int32), .int v6])) rfl ?_
      refine e_ial (n := 200000) (k := v9.toNatClampNeg) rfl lc_90 ln_90 h3 rfl ?_
      refine e_sI 188 rfl rfl rfl ix_X10_threadOf rfl (Nat.le_of_ble_eq_true rfl) (fun w9 s10 e11 => ?_)
      refine e_L 2 (f' := (196, [(5, .int (1 : Int32)), (10, .int w4), (0, .ref 103), (2, .int v2), (3, .int v3), (4, .int v4), (6, .int v6), (7, .int v7), (8, .int v8), (9, .int v9)], [.int (v6 ||| ((1 : Int32) <<< (w9 &&& 31)))])) rfl ?_
      refine e_nI fun z12 => ?_
      refine e_L 1 (f' := (198, [(6, .int z12), (5, .int (1 : Int32)), (10, .int w4), (0, .ref 103), (2, .int v2), (3, .int v3), (4, .int v4), (7, .int v7), (8, .int v8), (9, .int v9)], [])) rfl ?_
      exact qE_sub (qsubL [3, 4, 5, 6, 1, 0, 7, 8, 9, 2] rfl (ks := [6, 5, 10, 0, 2, 3, 4, 7, 8, 9]) rfl (by decide))
set_option maxRecDepth 100000 in
set_option maxHeartbeats 4000000 in
theorem le_X2_close_198 (en : pN) (d : Nat) (v2 : Int32) (v3 : Int32) (v4 : Int32) (v5 : Int32) (v6 : Int32) (v7 : Int32) (v8 : Int32) (v9 : Int32) (v10 : Int32) (s : qS) : qle (if ¬ v4 = (0 : Int32) then L_X2_close_129 en d v2 v3 (1 : Int32) v5 v6 v7 v8 (v9 + (1 : Int32)) s else gd (p_inB v10 20000 = true) (if ((s.1 104 v10.toNatClampNeg) &&& (8 : Int32)) = (0 : Int32) then L_X2_close_129 en d v2 v3 (0 : Int32) v5 v6 v7 v8 (v9 + (1 : Int32)) s else L_X2_close_129 en d v2 v3 (1 : Int32) v5 v6 v7 v8 (v9 + (1 : Int32)) s)) (L_X2_close_198 en d v2 v3 v4 v5 v6 v7 v8 v9 v10 s) := by
  show qle _ (qE (qev en d) en none tb_X2_close (198, [(0, .ref 103), (2, .int v2), (3, .int v3), (4, .int v4), (5, .int v5), (6, .int v6), (7, .int v7), (8, .int v8), (9, .int v9), (10, .int v10)], []) s)
  refine e_L 1 (f' := (200, [(0, .ref 103), (2, .int v2), (3, .int v3), (4, .int v4), (5, .int v5), (6, .int v6), (7, .int v7), (8, .int v8), (9, .int v9), (10, .int v10)], [.int v4])) rfl ?_
  refine e_ifz 216 rfl rfl rfl (fun c1 => ?_) (fun c1 => ?_)
  · refine e_L 5 (f' := (129, [(9, .int (v9 + (1 : Int32))), (4, .int (1 : Int32)), (0, .ref 103), (2, .int v2), (3, .int v3), (5, .int v5), (6, .int v6), (7, .int v7), (8, .int v8), (10, .int v10)], [])) rfl ?_
    exact qE_sub (qsubL [2, 3, 4, 1, 5, 6, 7, 8, 0] rfl (ks := [9, 4, 0, 2, 3, 5, 6, 7, 8, 10]) rfl (by decide))
  · refine e_L 1 (f' := (204, [(0, .ref 103), (2, .int v2), (3, .int v3), (4, .int v4), (5, .int v5), (6, .int v6), (7, .int v7), (8, .int v8), (9, .int v9), (10, .int v10)], [.ref 103])) rfl ?_
    refine e_gR (q := 104) 2 2 rfl rfl lc_103 lr_103_2 ?_
    refine e_L 1 (f' := (209, [(0, .ref 103), (2, .int v2), (3, .int v3), (4, .int v4), (5, .int v5), (6, .int v6), (7, .int v7), (8, .int v8), (9, .int v9), (10, .int v10)], [.int v10, .ref 104])) rfl ?_
    refine qle_gd fun h2 => ?_
    refine e_ial (n := 20000) (k := v10.toNatClampNeg) rfl lc_104 ln_104 h2 rfl ?_
    refine e_L 2 (f' := (213, [(0, .ref 103), (2, .int v2), (3, .int v3), (4, .int v4), (5, .int v5), (6, .int v6), (7, .int v7), (8, .int v8), (9, .int v9), (10, .int v10)], [.int ((s.1 104 v10.toNatClampNeg) &&& (8 : Int32))])) rfl ?_
    refine e_ifz 220 rfl rfl rfl (fun c3 => ?_) (fun c3 => ?_)
    · refine e_L 4 (f' := (129, [(9, .int (v9 + (1 : Int32))), (4, .int (0 : Int32)), (0, .ref 103), (2, .int v2), (3, .int v3), (5, .int v5), (6, .int v6), (7, .int v7), (8, .int v8), (10, .int v10)], [])) rfl ?_
      exact qE_sub (qsubL [2, 3, 4, 1, 5, 6, 7, 8, 0] rfl (ks := [9, 4, 0, 2, 3, 5, 6, 7, 8, 10]) rfl (by decide))
    · refine e_L 5 (f' := (129, [(9, .int (v9 + (1 : Int32))), (4, .int (1 : Int32)), (0, .ref 103), (2, .int v2), (3, .int v3), (5, .int v5), (6, .int v6), (7, .int v7), (8, .int v8), (10, .int v10)], [])) rfl ?_
      exact qE_sub (qsubL [2, 3, 4, 1, 5, 6, 7, 8, 0] rfl (ks := [9, 4, 0, 2, 3, 5, 6, 7, 8, 10]) rfl (by decide))
set_option maxRecDepth 100000 in
set_option maxHeartbeats 4000000 in
theorem le_X2_close_269 (en : pN) (d : Nat) (v3 : Int32) (v4 : Int32) (v7 : Int32) (s : qS) : qle (if (s.1 103 10) ≤ v7 then L_X2_close_306 en d v3 s else if v4 = (0 : Int32) then L_X2_close_306 en d v3 s else gd (p_inB v7 20000 = true) (gd (p_inB (s.1 108 v7.toNatClampNeg) 20000 = true) (nm (uI s 104 ((s.1 108 v7.toNatClampNeg).toNatClampNeg) ((s.1 104 (s.1 108 v7.toNatClampNeg).toNatClampNeg) ||| (8 : Int32))) (fun s5 => L_X2_close_269 en d v3 v4 (v7 + (1 : Int32)) s5)))) (L_X2_close_269 en d v3 v4 v7 s) := by
  show qle _ (qE (qev en d) en none tb_X2_close (269, [(0, .ref 103), (3, .int v3), (4, .int v4), (7, .int v7)], []) s)
  refine e_L 2 (f' := (272, [(0, .ref 103), (3, .int v3), (4, .int v4), (7, .int v7)], [.ref 103, .int v7])) rfl ?_
  refine e_gI 2 10 rfl rfl lc_103 ?_
  refine e_icmp 306 rfl rfl rfl (fun c1 => ?_) (fun c1 => ?_)
  · exact qE_sub (qsubL [0, 1] rfl (ks := [0, 3, 4, 7]) rfl (by decide))
  · refine e_L 1 (f' := (280, [(0, .ref 103), (3, .int v3), (4, .int v4), (7, .int v7)], [.int v4])) rfl ?_
    refine e_ifz 306 rfl rfl rfl (fun c2 => ?_) (fun c2 => ?_)
    · exact qE_sub (qsubL [0, 1] rfl (ks := [0, 3, 4, 7]) rfl (by decide))
    · refine e_L 1 (f' := (284, [(0, .ref 103), (3, .int v3), (4, .int v4), (7, .int v7)], [.ref 103])) rfl ?_
      refine e_gR (q := 104) 2 2 rfl rfl lc_103 lr_103_2 ?_
      refine e_L 1 (f' := (288, [(0, .ref 103), (3, .int v3), (4, .int v4), (7, .int v7)], [.ref 103, .ref 104])) rfl ?_
      refine e_gR (q := 108) 2 6 rfl rfl lc_103 lr_103_6 ?_
      refine e_L 1 (f' := (293, [(0, .ref 103), (3, .int v3), (4, .int v4), (7, .int v7)], [.int v7, .ref 108, .ref 104])) rfl ?_
      refine qle_gd fun h3 => ?_
      refine e_ial (n := 20000) (k := v7.toNatClampNeg) rfl lc_108 ln_108 h3 rfl ?_
      refine e_L 1 (f' := (295, [(0, .ref 103), (3, .int v3), (4, .int v4), (7, .int v7)], [.int (s.1 108 v7.toNatClampNeg), .ref 104, .int (s.1 108 v7.toNatClampNeg), .ref 104])) rfl ?_
      refine qle_gd fun h4 => ?_
      refine e_ial (n := 20000) (k := (s.1 108 v7.toNatClampNeg).toNatClampNeg) rfl lc_104 ln_104 h4 rfl ?_
      refine e_L 2 (f' := (299, [(0, .ref 103), (3, .int v3), (4, .int v4), (7, .int v7)], [.int ((s.1 104 (s.1 108 v7.toNatClampNeg).toNatClampNeg) ||| (8 : Int32)), .int (s.1 108 v7.toNatClampNeg), .ref 104])) rfl ?_
      refine e_ias (n := 20000) (k := (s.1 108 v7.toNatClampNeg).toNatClampNeg) rfl lc_104 ln_104 h4 rfl ?_
      refine e_nS fun s5 => ?_
      refine e_L 2 (f' := (269, [(7, .int (v7 + (1 : Int32))), (0, .ref 103), (3, .int v3), (4, .int v4)], [])) rfl ?_
      exact qE_sub (qsubL [1, 2, 3, 0] rfl (ks := [7, 0, 3, 4]) rfl (by decide))
set_option maxRecDepth 100000 in
set_option maxHeartbeats 4000000 in
theorem le_X2_close_306 (en : pN) (d : Nat) (v3 : Int32) (s : qS) : qle (nm (uI s 103 10 v3) (fun s1 => some (none, s1))) (L_X2_close_306 en d v3 s) := by
  show qle _ (qE (qev en d) en none tb_X2_close (306, [(0, .ref 103), (3, .int v3)], []) s)
  refine e_L 2 (f' := (308, [(0, .ref 103), (3, .int v3)], [.int v3, .ref 103])) rfl ?_
  refine e_pI 2 10 rfl rfl lc_103 rfl ?_
  refine e_nS fun s1 => ?_
  exact e_rV rfl rfl
set_option maxRecDepth 100000 in
set_option maxHeartbeats 4000000 in
theorem le_X2_close (en : pN) (d : Nat) (a1 : Int32) (a2 : Int32) (s : qS) : qle (nm (uI s 103 12 ((s.1 103 12) + (1 : Int32))) (fun s1 => L_X2_close_15 en d a1 a2 (s1.1 103 10) s1)) (qev en (d + 1) 30 [.ref 103, .int a1, .int a2] s) := by
  refine e_enter ix_X2_close (Nat.le_of_ble_eq_true rfl) ?_
  show qle _ (qE (qev en d) en none tb_X2_close (0, [(0, .ref 103), (1, .int a1), (2, .int a2)], []) s)
  refine e_L 2 (f' := (2, [(0, .ref 103), (1, .int a1), (2, .int a2)], [.ref 103, .ref 103])) rfl ?_
  refine e_gI 2 12 rfl rfl lc_103 ?_
  refine e_L 2 (f' := (7, [(0, .ref 103), (1, .int a1), (2, .int a2)], [.int ((s.1 103 12) + (1 : Int32)), .ref 103])) rfl ?_
  refine e_pI 2 12 rfl rfl lc_103 rfl ?_
  refine e_nS fun s1 => ?_
  refine e_L 1 (f' := (11, [(0, .ref 103), (1, .int a1), (2, .int a2)], [.ref 103])) rfl ?_
  refine e_gI 2 10 rfl rfl lc_103 ?_
  refine e_L 1 (f' := (15, [(3, .int (s1.1 103 10)), (0, .ref 103), (1, .int a1), (2, .int a2)], [])) rfl ?_
  exact qE_sub (qsubL [1, 2, 3, 0] rfl (ks := [3, 0, 1, 2]) rfl (by decide))
