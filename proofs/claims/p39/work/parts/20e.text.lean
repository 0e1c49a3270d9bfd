/-! what methods do, printed by program out of their tables: X0_clear .. -/
set_option maxRecDepth 100000 in
set_option maxHeartbeats 4000000 in
theorem le_X0_clear (en : pN) (d : Nat) (a1 : Nat) (s : qS) : qle (gd (lc a1 = 5) (bV (qev en d 435 [.ref 77, .int (-1 : Int32)] s) (fun s2 => bV (qev en d 435 [.ref 78, .int (((1 : Int32) <<< ((s2.1 a1 10) &&& 31)) - (1 : Int32))] s2) (fun s5 => bV (qev en d 435 [.ref 79, .int (0 : Int32)] s5) (fun s8 => bV (qev en d 435 [.ref 80, .int (-2 : Int32)] s8) (fun s11 => nm (uI s11 80 0 (0 : Int32)) (fun s13 => nm (uI s13 80 3 (0 : Int32)) (fun s14 => nm (uI s14 76 6 (0 : Int32)) (fun s15 => some (none, s15)))))))))) (qev en (d + 1) 1 [.ref 76, .ref a1] s) := by
  refine e_enter ix_X0_clear (Nat.le_of_ble_eq_true rfl) ?_
  show qle _ (qE (qev en d) en none tb_X0_clear (0, [(0, .ref 76), (1, .ref a1)], []) s)
  refine qle_gd fun h_a1 => ?_
  refine e_L 1 (f' := (1, [(0, .ref 76), (1, .ref a1)], [.ref 76])) rfl ?_
  refine e_gR (q := 77) 0 0 rfl rfl lc_76 lr_76_0 ?_
  refine e_L 1 (f' := (5, [(0, .ref 76), (1, .ref a1)], [.int (-1 : Int32), .ref 77])) rfl ?_
  refine e_sV 435 rfl rfl rfl ix_J7_fill_53178 rfl (Nat.le_of_ble_eq_true rfl) (fun s2 e3 => ?_)
  refine e_L 1 (f' := (9, [(0, .ref 76), (1, .ref a1)], [.ref 76])) rfl ?_
  refine e_gR (q := 78) 0 1 rfl rfl lc_76 lr_76_1 ?_
  refine e_L 2 (f' := (14, [(0, .ref 76), (1, .ref a1)], [.ref a1, .int (1 : Int32), .ref 78])) rfl ?_
  refine e_gI 5 10 rfl rfl h_a1 ?_
  refine e_L 3 (f' := (20, [(0, .ref 76), (1, .ref a1)], [.int (((1 : Int32) <<< ((s2.1 a1 10) &&& 31)) - (1 : Int32)), .ref 78])) rfl ?_
  refine e_sV 435 rfl rfl rfl ix_J7_fill_53178 rfl (Nat.le_of_ble_eq_true rfl) (fun s5 e6 => ?_)
  refine e_L 1 (f' := (24, [(0, .ref 76), (1, .ref a1)], [.ref 76])) rfl ?_
  refine e_gR (q := 79) 0 2 rfl rfl lc_76 lr_76_2 ?_
  refine e_L 1 (f' := (28, [(0, .ref 76), (1, .ref a1)], [.int (0 : Int32), .ref 79])) rfl ?_
  refine e_sV 435 rfl rfl rfl ix_J7_fill_53178 rfl (Nat.le_of_ble_eq_true rfl) (fun s8 e9 => ?_)
  refine e_L 1 (f' := (32, [(0, .ref 76), (1, .ref a1)], [.ref 76])) rfl ?_
  refine e_gR (q := 80) 0 3 rfl rfl lc_76 lr_76_3 ?_
  refine e_L 1 (f' := (37, [(0, .ref 76), (1, .ref a1)], [.int (-2 : Int32), .ref 80])) rfl ?_
  refine e_sV 435 rfl rfl rfl ix_J7_fill_53178 rfl (Nat.le_of_ble_eq_true rfl) (fun s11 e12 => ?_)
  refine e_L 1 (f' := (41, [(0, .ref 76), (1, .ref a1)], [.ref 76])) rfl ?_
  refine e_gR (q := 80) 0 3 rfl rfl lc_76 lr_76_3 ?_
  refine e_L 2 (f' := (46, [(0, .ref 76), (1, .ref a1)], [.int (0 : Int32), .int (0 : Int32), .ref 80])) rfl ?_
  refine e_ias (n := 5) (k := 0) rfl lc_80 ln_80 (by decide +kernel) (by decide +kernel) ?_
  refine e_nS fun s13 => ?_
  refine e_L 1 (f' := (48, [(0, .ref 76), (1, .ref a1)], [.ref 76])) rfl ?_
  refine e_gR (q := 80) 0 3 rfl rfl lc_76 lr_76_3 ?_
  refine e_L 2 (f' := (53, [(0, .ref 76), (1, .ref a1)], [.int (0 : Int32), .int (3 : Int32), .ref 80])) rfl ?_
  refine e_ias (n := 5) (k := 3) rfl lc_80 ln_80 (by decide +kernel) (by decide +kernel) ?_
  refine e_nS fun s14 => ?_
  refine e_L 2 (f' := (56, [(0, .ref 76), (1, .ref a1)], [.int (0 : Int32), .ref 76])) rfl ?_
  refine e_pI 0 6 rfl rfl lc_76 rfl ?_
  refine e_nS fun s15 => ?_
  exact e_rV rfl rfl
noncomputable def L_X0_see_8 (en : pN) (d : Nat) (r1 : Nat) (v2 : Int32) (r3 : Nat) (v4 : Int32) (s : qS) : Option qR := qE (qev en d) en none tb_X0_see (8, [(0, .ref 76), (1, .ref r1), (2, .int v2), (3, .ref r3), (4, .int v4)], []) s
noncomputable def L_X0_see_56 (en : pN) (d : Nat) (r1 : Nat) (v2 : Int32) (r3 : Nat) (v4 : Int32) (v5 : Int32) (vs0 : Int32) (s : qS) : Option qR := qE (qev en d) en none tb_X0_see (56, [(0, .ref 76), (1, .ref r1), (2, .int v2), (3, .ref r3), (4, .int v4), (5, .int v5)], [.int vs0]) s
noncomputable def L_X0_see_75 (en : pN) (d : Nat) (r1 : Nat) (v2 : Int32) (r3 : Nat) (v4 : Int32) (v5 : Int32) (v6 : Int32) (vs1 : Int32) (vs2 : Int32) (s : qS) : Option qR := qE (qev en d) en none tb_X0_see (75, [(0, .ref 76), (1, .ref r1), (2, .int v2), (3, .ref r3), (4, .int v4), (5, .int v5), (6, .int v6)], [.int vs2, .int vs1, .ref 81]) s
noncomputable def L_X0_see_107 (en : pN) (d : Nat) (r1 : Nat) (v2 : Int32) (r3 : Nat) (v4 : Int32) (v5 : Int32) (v6 : Int32) (v7 : Int32) (s : qS) : Option qR := qE (qev en d) en none tb_X0_see (107, [(0, .ref 76), (1, .ref r1), (2, .int v2), (3, .ref r3), (4, .int v4), (5, .int v5), (6, .int v6), (7, .int v7)], []) s
set_option maxRecDepth 100000 in
set_option maxHeartbeats 4000000 in
theorem le_X0_see_8 (en : pN) (d : Nat) (r1 : Nat) (v2 : Int32) (r3 : Nat) (v4 : Int32) (s : qS) : qle (gd (lc r1 = 3) (gd (lc r3 = 5) (if (s.1 r3 11) ≤ v4 then some (none, s) else gd (p_inB ((4 : Int32) + v4) 236 = true) (nm (s.1 (r1 + 1) ((4 : Int32) + v4).toNatClampNeg) (fun z3 => if z3 < (0 : Int32) then L_X0_see_56 en d r1 v2 r3 v4 z3 (0 : Int32) s else bI (qev en d 103 [.ref r3, .int z3] s) (fun w5 s6 => if w5 = (0 : Int32) then L_X0_see_56 en d r1 v2 r3 v4 z3 (0 : Int32) s6 else bI (qev en d 44 [.ref r1, .int v4] s6) (fun w9 s10 => if w9 ≤ (0 : Int32) then L_X0_see_56 en d r1 v2 r3 v4 z3 (0 : Int32) s10 else L_X0_see_56 en d r1 v2 r3 v4 z3 (1 : Int32) s10))))))) (L_X0_see_8 en d r1 v2 r3 v4 s) := by
  show qle _ (qE (qev en d) en none tb_X0_see (8, [(0, .ref 76), (1, .ref r1), (2, .int v2), (3, .ref r3), (4, .int v4)], []) s)
  refine qle_gd fun h_r1 => ?_
  refine qle_gd fun h_r3 => ?_
  refine e_L 2 (f' := (11, [(0, .ref 76), (1, .ref r1), (2, .int v2), (3, .ref r3), (4, .int v4)], [.ref r3, .int v4])) rfl ?_
  refine e_gI 5 11 rfl rfl h_r3 ?_
  refine e_icmp 186 rfl rfl rfl (fun c1 => ?_) (fun c1 => ?_)
  · exact e_rV rfl rfl
  · refine e_L 1 (f' := (18, [(0, .ref 76), (1, .ref r1), (2, .int v2), (3, .ref r3), (4, .int v4)], [.ref r1])) rfl ?_
    refine e_gR (q := (r1 + 1)) 3 0 rfl rfl h_r1 (fo_3_0 h_r1) ?_
    refine e_L 3 (f' := (25, [(0, .ref 76), (1, .ref r1), (2, .int v2), (3, .ref r3), (4, .int v4)], [.int ((4 : Int32) + v4), .ref (r1 + 1)])) rfl ?_
    refine qle_gd fun h2 => ?_
    refine e_ial (n := 236) (k := ((4 : Int32) + v4).toNatClampNeg) rfl (fc_3_0 h_r1) (fl_3_0 h_r1) h2 rfl ?_
    refine e_nI fun z3 => ?_
    refine e_L 2 (f' := (30, [(5, .int z3), (0, .ref 76), (1, .ref r1), (2, .int v2), (3, .ref r3), (4, .int v4)], [.int z3])) rfl ?_
    refine e_ifz 55 rfl rfl rfl (fun c4 => ?_) (fun c4 => ?_)
    · refine e_L 1 (f' := (56, [(5, .int z3), (0, .ref 76), (1, .ref r1), (2, .int v2), (3, .ref r3), (4, .int v4)], [.int (0 : Int32)])) rfl ?_
      exact qE_sub (qsubL [1, 2, 3, 4, 5, 0] rfl (ks := [5, 0, 1, 2, 3, 4]) rfl (by decide))
    · refine e_L 2 (f' := (36, [(5, .int z3), (0, .ref 76), (1, .ref r1), (2, .int v2), (3, .ref r3), (4, .int v4)], [.int z3, .ref r3])) rfl ?_
      refine e_vI 103 rfl rfl ix_X5_touches rfl (q_recvOf h_r3 rfl) (Nat.le_of_ble_eq_true rfl) (fun w5 s6 e7 => ?_)
      refine e_ifz 55 rfl rfl rfl (fun c8 => ?_) (fun c8 => ?_)
      · refine e_L 1 (f' := (56, [(5, .int z3), (0, .ref 76), (1, .ref r1), (2, .int v2), (3, .ref r3), (4, .int v4)], [.int (0 : Int32)])) rfl ?_
        exact qE_sub (qsubL [1, 2, 3, 4, 5, 0] rfl (ks := [5, 0, 1, 2, 3, 4]) rfl (by decide))
      · refine e_L 2 (f' := (45, [(5, .int z3), (0, .ref 76), (1, .ref r1), (2, .int v2), (3, .ref r3), (4, .int v4)], [.int v4, .ref r1])) rfl ?_
        refine e_vI 44 rfl rfl ix_X3_choices rfl (q_recvOf h_r1 rfl) (Nat.le_of_ble_eq_true rfl) (fun w9 s10 e11 => ?_)
        refine e_ifz 55 rfl rfl rfl (fun c12 => ?_) (fun c12 => ?_)
        · refine e_L 1 (f' := (56, [(5, .int z3), (0, .ref 76), (1, .ref r1), (2, .int v2), (3, .ref r3), (4, .int v4)], [.int (0 : Int32)])) rfl ?_
          exact qE_sub (qsubL [1, 2, 3, 4, 5, 0] rfl (ks := [5, 0, 1, 2, 3, 4]) rfl (by decide))
        · refine e_L 2 (f' := (56, [(5, .int z3), (0, .ref 76), (1, .ref r1), (2, .int v2), (3, .ref r3), (4, .int v4)], [.int (1 : Int32)])) rfl ?_
          exact qE_sub (qsubL [1, 2, 3, 4, 5, 0] rfl (ks := [5, 0, 1, 2, 3, 4]) rfl (by decide))
set_option maxRecDepth 100000 in
set_option maxHeartbeats 4000000 in
theorem le_X0_see_56 (en : pN) (d : Nat) (r1 : Nat) (v2 : Int32) (r3 : Nat) (v4 : Int32) (v5 : Int32) (vs0 : Int32) (s : qS) : qle (gd (lc r1 = 3) (gd (lc r3 = 5) (if vs0 = (0 : Int32) then L_X0_see_75 en d r1 v2 r3 v4 v5 vs0 v4 (-1 : Int32) s else L_X0_see_75 en d r1 v2 r3 v4 v5 vs0 v4 v5 s))) (L_X0_see_56 en d r1 v2 r3 v4 v5 vs0 s) := by
  show qle _ (qE (qev en d) en none tb_X0_see (56, [(0, .ref 76), (1, .ref r1), (2, .int v2), (3, .ref r3), (4, .int v4), (5, .int v5)], [.int vs0]) s)
  refine qle_gd fun h_r1 => ?_
  refine qle_gd fun h_r3 => ?_
  refine e_L 2 (f' := (59, [(6, .int vs0), (0, .ref 76), (1, .ref r1), (2, .int v2), (3, .ref r3), (4, .int v4), (5, .int v5)], [.ref 76])) rfl ?_
  refine e_gR (q := 81) 0 4 rfl rfl lc_76 lr_76_4 ?_
  refine e_L 2 (f' := (66, [(6, .int vs0), (0, .ref 76), (1, .ref r1), (2, .int v2), (3, .ref r3), (4, .int v4), (5, .int v5)], [.int vs0, .int v4, .ref 81])) rfl ?_
  refine e_ifz 74 rfl rfl rfl (fun c1 => ?_) (fun c1 => ?_)
  · refine e_L 1 (f' := (75, [(6, .int vs0), (0, .ref 76), (1, .ref r1), (2, .int v2), (3, .ref r3), (4, .int v4), (5, .int v5)], [.int (-1 : Int32), .int v4, .ref 81])) rfl ?_
    exact qE_sub (qsubL [1, 2, 3, 4, 5, 6, 0] rfl (ks := [6, 0, 1, 2, 3, 4, 5]) rfl (by decide))
  · refine e_L 2 (f' := (75, [(6, .int vs0), (0, .ref 76), (1, .ref r1), (2, .int v2), (3, .ref r3), (4, .int v4), (5, .int v5)], [.int v5, .int v4, .ref 81])) rfl ?_
    exact qE_sub (qsubL [1, 2, 3, 4, 5, 6, 0] rfl (ks := [6, 0, 1, 2, 3, 4, 5]) rfl (by decide))
set_option maxRecDepth 100000 in
set_option maxHeartbeats 4000000 in
theorem le_X0_see_75 (en : pN) (d : Nat) (r1 : Nat) (v2 : Int32) (r3 : Nat) (v4 : Int32) (v5 : Int32) (v6 : Int32) (vs1 : Int32) (vs2 : Int32) (s : qS) : qle (gd (lc r1 = 3) (gd (lc r3 = 5) (gd (p_inB vs1 4 = true) (nm (uI s 81 (vs1.toNatClampNeg) vs2) (fun s2 => if v6 = (0 : Int32) then L_X0_see_107 en d r1 v2 r3 v4 v5 v6 (0 : Int32) s2 else gd (p_inB v5 100 = true) (gd (p_inB (s2.1 (r3 + 9) v5.toNatClampNeg) 8 = true) (bI (qev en d 50 [.ref r1, .int v4] s2) (fun w6 s7 => nm (uI s7 78 ((s2.1 (r3 + 9) v5.toNatClampNeg).toNatClampNeg) ((s2.1 78 (s2.1 (r3 + 9) v5.toNatClampNeg).toNatClampNeg) &&& w6)) (fun s9 => L_X0_see_107 en d r1 v2 r3 v4 v5 v6 (0 : Int32) s9))))))))) (L_X0_see_75 en d r1 v2 r3 v4 v5 v6 vs1 vs2 s) := by
  show qle _ (qE (qev en d) en none tb_X0_see (75, [(0, .ref 76), (1, .ref r1), (2, .int v2), (3, .ref r3), (4, .int v4), (5, .int v5), (6, .int v6)], [.int vs2, .int vs1, .ref 81]) s)
  refine qle_gd fun h_r1 => ?_
  refine qle_gd fun h_r3 => ?_
  refine qle_gd fun h1 => ?_
  refine e_ias (n := 4) (k := vs1.toNatClampNeg) rfl lc_81 ln_81 h1 rfl ?_
  refine e_nS fun s2 => ?_
  refine e_L 1 (f' := (78, [(0, .ref 76), (1, .ref r1), (2, .int v2), (3, .ref r3), (4, .int v4), (5, .int v5), (6, .int v6)], [.int v6])) rfl ?_
  refine e_ifz 104 rfl rfl rfl (fun c3 => ?_) (fun c3 => ?_)
  · refine e_L 2 (f' := (107, [(7, .int (0 : Int32)), (0, .ref 76), (1, .ref r1), (2, .int v2), (3, .ref r3), (4, .int v4), (5, .int v5), (6, .int v6)], [])) rfl ?_
    exact qE_sub (qsubL [1, 2, 3, 4, 5, 6, 7, 0] rfl (ks := [7, 0, 1, 2, 3, 4, 5, 6]) rfl (by decide))
  · refine e_L 1 (f' := (82, [(0, .ref 76), (1, .ref r1), (2, .int v2), (3, .ref r3), (4, .int v4), (5, .int v5), (6, .int v6)], [.ref 76])) rfl ?_
    refine e_gR (q := 78) 0 1 rfl rfl lc_76 lr_76_1 ?_
    refine e_L 1 (f' := (86, [(0, .ref 76), (1, .ref r1), (2, .int v2), (3, .ref r3), (4, .int v4), (5, .int v5), (6, .int v6)], [.ref r3, .ref 78])) rfl ?_
    refine e_gR (q := (r3 + 6)) 5 6 rfl rfl h_r3 (fo_5_6 h_r3) ?_
    refine e_L 1 (f' := (90, [(0, .ref 76), (1, .ref r1), (2, .int v2), (3, .ref r3), (4, .int v4), (5, .int v5), (6, .int v6)], [.int (2 : Int32), .ref (r3 + 6), .ref 78])) rfl ?_
    refine e_aal (n := 18) (q := (r3 + 9)) rfl (fc_5_6 h_r3) (fl_5_6 h_r3) (by decide +kernel) (pe_2 h_r3) ?_
    refine e_L 1 (f' := (93, [(0, .ref 76), (1, .ref r1), (2, .int v2), (3, .ref r3), (4, .int v4), (5, .int v5), (6, .int v6)], [.int v5, .ref (r3 + 9), .ref 78])) rfl ?_
    refine qle_gd fun h4 => ?_
    refine e_ial (n := 100) (k := v5.toNatClampNeg) rfl (pe_c_2 h_r3) (pe_l_2 h_r3) h4 rfl ?_
    refine e_L 1 (f' := (95, [(0, .ref 76), (1, .ref r1), (2, .int v2), (3, .ref r3), (4, .int v4), (5, .int v5), (6, .int v6)], [.int (s2.1 (r3 + 9) v5.toNatClampNeg), .ref 78, .int (s2.1 (r3 + 9) v5.toNatClampNeg), .ref 78])) rfl ?_
    refine qle_gd fun h5 => ?_
    refine e_ial (n := 8) (k := (s2.1 (r3 + 9) v5.toNatClampNeg).toNatClampNeg) rfl lc_78 ln_78 h5 rfl ?_
    refine e_L 2 (f' := (99, [(0, .ref 76), (1, .ref r1), (2, .int v2), (3, .ref r3), (4, .int v4), (5, .int v5), (6, .int v6)], [.int v4, .ref r1, .int (s2.1 78 (s2.1 (r3 + 9) v5.toNatClampNeg).toNatClampNeg), .int (s2.1 (r3 + 9) v5.toNatClampNeg), .ref 78])) rfl ?_
    refine e_vI 50 rfl rfl ix_X3_locksOf rfl (q_recvOf h_r1 rfl) (Nat.le_of_ble_eq_true rfl) (fun w6 s7 e8 => ?_)
    refine e_L 1 (f' := (103, [(0, .ref 76), (1, .ref r1), (2, .int v2), (3, .ref r3), (4, .int v4), (5, .int v5), (6, .int v6)], [.int ((s2.1 78 (s2.1 (r3 + 9) v5.toNatClampNeg).toNatClampNeg) &&& w6), .int (s2.1 (r3 + 9) v5.toNatClampNeg), .ref 78])) rfl ?_
    refine e_ias (n := 8) (k := (s2.1 (r3 + 9) v5.toNatClampNeg).toNatClampNeg) rfl lc_78 ln_78 h5 rfl ?_
    refine e_nS fun s9 => ?_
    refine e_L 2 (f' := (107, [(7, .int (0 : Int32)), (0, .ref 76), (1, .ref r1), (2, .int v2), (3, .ref r3), (4, .int v4), (5, .int v5), (6, .int v6)], [])) rfl ?_
    exact qE_sub (qsubL [1, 2, 3, 4, 5, 6, 7, 0] rfl (ks := [7, 0, 1, 2, 3, 4, 5, 6]) rfl (by decide))
set_option maxRecDepth 100000 in
set_option maxHeartbeats 4000000 in
theorem le_X0_see_107 (en : pN) (d : Nat) (r1 : Nat) (v2 : Int32) (r3 : Nat) (v4 : Int32) (v5 : Int32) (v6 : Int32) (v7 : Int32) (s : qS) : qle (gd (lc r1 = 3) (gd (lc r3 = 5) (if v4 ≤ v7 then L_X0_see_8 en d r1 v2 r3 (v4 + (1 : Int32)) s else if v6 = (0 : Int32) then L_X0_see_107 en d r1 v2 r3 v4 v5 v6 (v7 + (1 : Int32)) s else gd (p_inB v7 4 = true) (if (s.1 81 v7.toNatClampNeg) < (0 : Int32) then L_X0_see_107 en d r1 v2 r3 v4 v5 v6 (v7 + (1 : Int32)) s else bI (qev en d 104 [.ref r3, .int v5, .int (s.1 81 v7.toNatClampNeg)] s) (fun w5 s6 => if w5 = (0 : Int32) then L_X0_see_107 en d r1 v2 r3 v4 v5 v6 (v7 + (1 : Int32)) s6 else bI (qev en d 412 [.int v5, .int (s6.1 81 v7.toNatClampNeg)] s6) (fun w9 s10 => bI (qev en d 411 [.int v5, .int (s10.1 81 v7.toNatClampNeg)] s10) (fun w12 s13 => bV (qev en d 3 [.ref 76, .int w9, .int w12, .int v2] s13) (fun s16 => L_X0_see_107 en d r1 v2 r3 v4 v5 v6 (v7 + (1 : Int32)) s16)))))))) (L_X0_see_107 en d r1 v2 r3 v4 v5 v6 v7 s) := by
  show qle _ (qE (qev en d) en none tb_X0_see (107, [(0, .ref 76), (1, .ref r1), (2, .int v2), (3, .ref r3), (4, .int v4), (5, .int v5), (6, .int v6), (7, .int v7)], []) s)
  refine qle_gd fun h_r1 => ?_
  refine qle_gd fun h_r3 => ?_
  refine e_L 2 (f' := (111, [(0, .ref 76), (1, .ref r1), (2, .int v2), (3, .ref r3), (4, .int v4), (5, .int v5), (6, .int v6), (7, .int v7)], [.int v4, .int v7])) rfl ?_
  refine e_icmp 180 rfl rfl rfl (fun c1 => ?_) (fun c1 => ?_)
  · refine e_L 2 (f' := (8, [(4, .int (v4 + (1 : Int32))), (0, .ref 76), (1, .ref r1), (2, .int v2), (3, .ref r3), (5, .int v5), (6, .int v6), (7, .int v7)], [])) rfl ?_
    exact qE_sub (qsubL [1, 2, 3, 4, 0] rfl (ks := [4, 0, 1, 2, 3, 5, 6, 7]) rfl (by decide))
  · refine e_L 1 (f' := (116, [(0, .ref 76), (1, .ref r1), (2, .int v2), (3, .ref r3), (4, .int v4), (5, .int v5), (6, .int v6), (7, .int v7)], [.int v6])) rfl ?_
    refine e_ifz 174 rfl rfl rfl (fun c2 => ?_) (fun c2 => ?_)
    · refine e_L 2 (f' := (107, [(7, .int (v7 + (1 : Int32))), (0, .ref 76), (1, .ref r1), (2, .int v2), (3, .ref r3), (4, .int v4), (5, .int v5), (6, .int v6)], [])) rfl ?_
      exact qE_sub (qsubL [1, 2, 3, 4, 5, 6, 7, 0] rfl (ks := [7, 0, 1, 2, 3, 4, 5, 6]) rfl (by decide))
    · refine e_L 1 (f' := (120, [(0, .ref 76), (1, .ref r1), (2, .int v2), (3, .ref r3), (4, .int v4), (5, .int v5), (6, .int v6), (7, .int v7)], [.ref 76])) rfl ?_
      refine e_gR (q := 81) 0 4 rfl rfl lc_76 lr_76_4 ?_
      refine e_L 1 (f' := (125, [(0, .ref 76), (1, .ref r1), (2, .int v2), (3, .ref r3), (4, .int v4), (5, .int v5), (6, .int v6), (7, .int v7)], [.int v7, .ref 81])) rfl ?_
      refine qle_gd fun h3 => ?_
      refine e_ial (n := 4) (k := v7.toNatClampNeg) rfl lc_81 ln_81 h3 rfl ?_
      refine e_ifz 174 rfl rfl rfl (fun c4 => ?_) (fun c4 => ?_)
      · refine e_L 2 (f' := (107, [(7, .int (v7 + (1 : Int32))), (0, .ref 76), (1, .ref r1), (2, .int v2), (3, .ref r3), (4, .int v4), (5, .int v5), (6, .int v6)], [])) rfl ?_
        exact qE_sub (qsubL [1, 2, 3, 4, 5, 6, 7, 0] rfl (ks := [7, 0, 1, 2, 3, 4, 5, 6]) rfl (by decide))
      · refine e_L 3 (f' := (133, [(0, .ref 76), (1, .ref r1), (2, .int v2), (3, .ref r3), (4, .int v4), (5, .int v5), (6, .int v6), (7, .int v7)], [.ref 76, .int v5, .ref r3])) rfl ?_
        refine e_gR (q := 81) 0 4 rfl rfl lc_76 lr_76_4 ?_
        refine e_L 1 (f' := (138, [(0, .ref 76), (1, .ref r1), (2, .int v2), (3, .ref r3), (4, .int v4), (5, .int v5), (6, .int v6), (7, .int v7)], [.int v7, .ref 81, .int v5, .ref r3])) rfl ?_
        refine e_ial (n := 4) (k := v7.toNatClampNeg) rfl lc_81 ln_81 h3 rfl ?_
        refine e_vI 104 rfl rfl ix_X5_clash rfl (q_recvOf h_r3 rfl) (Nat.le_of_ble_eq_true rfl) (fun w5 s6 e7 => ?_)
        refine e_ifz 174 rfl rfl rfl (fun c8 => ?_) (fun c8 => ?_)
        · refine e_L 2 (f' := (107, [(7, .int (v7 + (1 : Int32))), (0, .ref 76), (1, .ref r1), (2, .int v2), (3, .ref r3), (4, .int v4), (5, .int v5), (6, .int v6)], [])) rfl ?_
          exact qE_sub (qsubL [1, 2, 3, 4, 5, 6, 7, 0] rfl (ks := [7, 0, 1, 2, 3, 4, 5, 6]) rfl (by decide))
        · refine e_L 3 (f' := (149, [(0, .ref 76), (1, .ref r1), (2, .int v2), (3, .ref r3), (4, .int v4), (5, .int v5), (6, .int v6), (7, .int v7)], [.ref 76, .int v5, .ref 76])) rfl ?_
          refine e_gR (q := 81) 0 4 rfl rfl lc_76 lr_76_4 ?_
          refine e_L 1 (f' := (154, [(0, .ref 76), (1, .ref r1), (2, .int v2), (3, .ref r3), (4, .int v4), (5, .int v5), (6, .int v6), (7, .int v7)], [.int v7, .ref 81, .int v5, .ref 76])) rfl ?_
          refine e_ial (n := 4) (k := v7.toNatClampNeg) rfl lc_81 ln_81 h3 rfl ?_
          refine e_sI 412 rfl rfl rfl ix_J9_min_7cf53 rfl (Nat.le_of_ble_eq_true rfl) (fun w9 s10 e11 => ?_)
          refine e_L 2 (f' := (161, [(0, .ref 76), (1, .ref r1), (2, .int v2), (3, .ref r3), (4, .int v4), (5, .int v5), (6, .int v6), (7, .int v7)], [.ref 76, .int v5, .int w9, .ref 76])) rfl ?_
          refine e_gR (q := 81) 0 4 rfl rfl lc_76 lr_76_4 ?_
          refine e_L 1 (f' := (166, [(0, .ref 76), (1, .ref r1), (2, .int v2), (3, .ref r3), (4, .int v4), (5, .int v5), (6, .int v6), (7, .int v7)], [.int v7, .ref 81, .int v5, .int w9, .ref 76])) rfl ?_
          refine e_ial (n := 4) (k := v7.toNatClampNeg) rfl lc_81 ln_81 h3 rfl ?_
          refine e_sI 411 rfl rfl rfl ix_J9_max_7cf53 rfl (Nat.le_of_ble_eq_true rfl) (fun w12 s13 e14 => ?_)
          refine e_L 1 (f' := (171, [(0, .ref 76), (1, .ref r1), (2, .int v2), (3, .ref r3), (4, .int v4), (5, .int v5), (6, .int v6), (7, .int v7)], [.int v2, .int w12, .int w9, .ref 76])) rfl ?_
          refine e_vV 3 rfl rfl ix_X0_noteRace rfl (q_recvOf lc_76 rfl) (Nat.le_of_ble_eq_true rfl) (fun s16 e17 => ?_)
          refine e_L 2 (f' := (107, [(7, .int (v7 + (1 : Int32))), (0, .ref 76), (1, .ref r1), (2, .int v2), (3, .ref r3), (4, .int v4), (5, .int v5), (6, .int v6)], [])) rfl ?_
          exact qE_sub (qsubL [1, 2, 3, 4, 5, 6, 7, 0] rfl (ks := [7, 0, 1, 2, 3, 4, 5, 6]) rfl (by decide))
set_option maxRecDepth 100000 in
set_option maxHeartbeats 4000000 in
theorem le_X0_see (en : pN) (d : Nat) (a1 : Nat) (a2 : Int32) (s : qS) : qle (gd (lc a1 = 3) (gd (s.2.2 a1 7 ≠ 0 ∧ lc (s.2.2 a1 7 - 1) = 5) (nm (s.2.2 a1 7 - 1) (fun q2 => L_X0_see_8 en d a1 a2 q2 (0 : Int32) s)))) (qev en (d + 1) 2 [.ref 76, .ref a1, .int a2] s) := by
  refine e_enter ix_X0_see (Nat.le_of_ble_eq_true rfl) ?_
  show qle _ (qE (qev en d) en none tb_X0_see (0, [(0, .ref 76), (1, .ref a1), (2, .int a2)], []) s)
  refine qle_gd fun h_a1 => ?_
  refine e_L 1 (f' := (1, [(0, .ref 76), (1, .ref a1), (2, .int a2)], [.ref a1])) rfl ?_
  refine qle_gd fun h1 => ?_
  refine e_gM 3 7 rfl rfl h_a1 h1.1 ?_
  refine e_nR (ci := 5) h1.2 fun q2 h_q2 => ?_
  refine e_L 3 (f' := (8, [(4, .int (0 : Int32)), (3, .ref q2), (0, .ref 76), (1, .ref a1), (2, .int a2)], [])) rfl ?_
  exact qE_sub (qsubL [2, 3, 4, 1, 0] rfl (ks := [4, 3, 0, 1, 2]) rfl (by decide))
set_option maxRecDepth 100000 in
set_option maxHeartbeats 4000000 in
theorem le_X0_noteRace (en : pN) (d : Nat) (a1 : Int32) (a2 : Int32) (a3 : Int32) (s : qS) : qle (gd (p_inB ((a1 * (100 : Int32)) + a2) 10000 = true) (if (0 : Int32) ≤ (s.1 77 ((a1 * (100 : Int32)) + a2).toNatClampNeg) then some (none, s) else nm (uI s 77 (((a1 * (100 : Int32)) + a2).toNatClampNeg) a3) (fun s3 => nm (uI s3 76 6 ((s3.1 76 6) + (1 : Int32))) (fun s4 => some (none, s4))))) (qev en (d + 1) 3 [.ref 76, .int a1, .int a2, .int a3] s) := by
  refine e_enter ix_X0_noteRace (Nat.le_of_ble_eq_true rfl) ?_
  show qle _ (qE (qev en d) en none tb_X0_noteRace (0, [(0, .ref 76), (1, .int a1), (2, .int a2), (3, .int a3)], []) s)
  refine e_L 1 (f' := (1, [(0, .ref 76), (1, .int a1), (2, .int a2), (3, .int a3)], [.ref 76])) rfl ?_
  refine e_gR (q := 77) 0 0 rfl rfl lc_76 lr_76_0 ?_
  refine e_L 5 (f' := (10, [(0, .ref 76), (1, .int a1), (2, .int a2), (3, .int a3)], [.int ((a1 * (100 : Int32)) + a2), .ref 77])) rfl ?_
  refine qle_gd fun h1 => ?_
  refine e_ial (n := 10000) (k := ((a1 * (100 : Int32)) + a2).toNatClampNeg) rfl lc_77 ln_77 h1 rfl ?_
  refine e_ifz 36 rfl rfl rfl (fun c2 => ?_) (fun c2 => ?_)
  · exact e_rV rfl rfl
  · refine e_L 1 (f' := (15, [(0, .ref 76), (1, .int a1), (2, .int a2), (3, .int a3)], [.ref 76])) rfl ?_
    refine e_gR (q := 77) 0 0 rfl rfl lc_76 lr_76_0 ?_
    refine e_L 6 (f' := (25, [(0, .ref 76), (1, .int a1), (2, .int a2), (3, .int a3)], [.int a3, .int ((a1 * (100 : Int32)) + a2), .ref 77])) rfl ?_
    refine e_ias (n := 10000) (k := ((a1 * (100 : Int32)) + a2).toNatClampNeg) rfl lc_77 ln_77 h1 rfl ?_
    refine e_nS fun s3 => ?_
    refine e_L 2 (f' := (28, [(0, .ref 76), (1, .int a1), (2, .int a2), (3, .int a3)], [.ref 76, .ref 76])) rfl ?_
    refine e_gI 0 6 rfl rfl lc_76 ?_
    refine e_L 2 (f' := (33, [(0, .ref 76), (1, .int a1), (2, .int a2), (3, .int a3)], [.int ((s3.1 76 6) + (1 : Int32)), .ref 76])) rfl ?_
    refine e_pI 0 6 rfl rfl lc_76 rfl ?_
    refine e_nS fun s4 => ?_
    exact e_rV rfl rfl
noncomputable def L_X0_noteTaking_16 (en : pN) (d : Nat) (v3 : Int32) (v4 : Int32) (v5 : Int32) (s : qS) : Option qR := qE (qev en d) en none tb_X0_noteTaking (16, [(0, .ref 76), (3, .int v3), (4, .int v4), (5, .int v5)], []) s
set_option maxRecDepth 100000 in
set_option maxHeartbeats 4000000 in
theorem le_X0_noteTaking_16 (en : pN) (d : Nat) (v3 : Int32) (v4 : Int32) (v5 : Int32) (s : qS) : qle (if (4 : Int32) ≤ v5 then some (none, s) else if v3 < (0 : Int32) then some (none, s) else if ((v4 >>> (v5 &&& 31)) &&& (1 : Int32)) = (0 : Int32) then L_X0_noteTaking_16 en d v3 v4 (v5 + (1 : Int32)) s else if ¬ ((v4 >>> (v3 &&& 31)) &&& (1 : Int32)) = (0 : Int32) then L_X0_noteTaking_16 en d v3 v4 (v5 + (1 : Int32)) s else gd (p_inB v5 4 = true) (nm (uI s 79 (v5.toNatClampNeg) ((s.1 79 v5.toNatClampNeg) ||| ((1 : Int32) <<< (v3 &&& 31)))) (fun s6 => L_X0_noteTaking_16 en d v3 v4 (v5 + (1 : Int32)) s6))) (L_X0_noteTaking_16 en d v3 v4 v5 s) := by
  show qle _ (qE (qev en d) en none tb_X0_noteTaking (16, [(0, .ref 76), (3, .int v3), (4, .int v4), (5, .int v5)], []) s)
  refine e_L 2 (f' := (19, [(0, .ref 76), (3, .int v3), (4, .int v4), (5, .int v5)], [.int (4 : Int32), .int v5])) rfl ?_
  refine e_icmp 64 rfl rfl rfl (fun c1 => ?_) (fun c1 => ?_)
  · exact e_rV rfl rfl
  · refine e_L 1 (f' := (23, [(0, .ref 76), (3, .int v3), (4, .int v4), (5, .int v5)], [.int v3])) rfl ?_
    refine e_ifz 64 rfl rfl rfl (fun c2 => ?_) (fun c2 => ?_)
    · exact e_rV rfl rfl
    · refine e_L 5 (f' := (33, [(0, .ref 76), (3, .int v3), (4, .int v4), (5, .int v5)], [.int ((v4 >>> (v5 &&& 31)) &&& (1 : Int32))])) rfl ?_
      refine e_ifz 58 rfl rfl rfl (fun c3 => ?_) (fun c3 => ?_)
      · refine e_L 2 (f' := (16, [(5, .int (v5 + (1 : Int32))), (0, .ref 76), (3, .int v3), (4, .int v4)], [])) rfl ?_
        exact qE_sub (qsubL [1, 2, 3, 0] rfl (ks := [5, 0, 3, 4]) rfl (by decide))
      · refine e_L 5 (f' := (42, [(0, .ref 76), (3, .int v3), (4, .int v4), (5, .int v5)], [.int ((v4 >>> (v3 &&& 31)) &&& (1 : Int32))])) rfl ?_
        refine e_ifz 58 rfl rfl rfl (fun c4 => ?_) (fun c4 => ?_)
        · refine e_L 2 (f' := (16, [(5, .int (v5 + (1 : Int32))), (0, .ref 76), (3, .int v3), (4, .int v4)], [])) rfl ?_
          exact qE_sub (qsubL [1, 2, 3, 0] rfl (ks := [5, 0, 3, 4]) rfl (by decide))
        · refine e_L 1 (f' := (46, [(0, .ref 76), (3, .int v3), (4, .int v4), (5, .int v5)], [.ref 76])) rfl ?_
          refine e_gR (q := 79) 0 2 rfl rfl lc_76 lr_76_2 ?_
          refine e_L 2 (f' := (52, [(0, .ref 76), (3, .int v3), (4, .int v4), (5, .int v5)], [.int v5, .ref 79, .int v5, .ref 79])) rfl ?_
          refine qle_gd fun h5 => ?_
          refine e_ial (n := 4) (k := v5.toNatClampNeg) rfl lc_79 ln_79 h5 rfl ?_
          refine e_L 4 (f' := (57, [(0, .ref 76), (3, .int v3), (4, .int v4), (5, .int v5)], [.int ((s.1 79 v5.toNatClampNeg) ||| ((1 : Int32) <<< (v3 &&& 31))), .int v5, .ref 79])) rfl ?_
          refine e_ias (n := 4) (k := v5.toNatClampNeg) rfl lc_79 ln_79 h5 rfl ?_
          refine e_nS fun s6 => ?_
          refine e_L 2 (f' := (16, [(5, .int (v5 + (1 : Int32))), (0, .ref 76), (3, .int v3), (4, .int v4)], [])) rfl ?_
          exact qE_sub (qsubL [1, 2, 3, 0] rfl (ks := [5, 0, 3, 4]) rfl (by decide))
set_option maxRecDepth 100000 in
set_option maxHeartbeats 4000000 in
theorem le_X0_noteTaking (en : pN) (d : Nat) (a1 : Nat) (a2 : Int32) (s : qS) : qle (gd (lc a1 = 3) (bI (qev en d 51 [.ref a1, .int a2] s) (fun w1 s2 => bI (qev en d 50 [.ref a1, .int a2] s2) (fun w4 s5 => L_X0_noteTaking_16 en d w1 w4 (0 : Int32) s5)))) (qev en (d + 1) 5 [.ref 76, .ref a1, .int a2] s) := by
  refine e_enter ix_X0_noteTaking (Nat.le_of_ble_eq_true rfl) ?_
  show qle _ (qE (qev en d) en none tb_X0_noteTaking (0, [(0, .ref 76), (1, .ref a1), (2, .int a2)], []) s)
  refine qle_gd fun h_a1 => ?_
  refine e_L 2 (f' := (2, [(0, .ref 76), (1, .ref a1), (2, .int a2)], [.int a2, .ref a1])) rfl ?_
  refine e_vI 51 rfl rfl ix_X3_lockAhead rfl (q_recvOf h_a1 rfl) (Nat.le_of_ble_eq_true rfl) (fun w1 s2 e3 => ?_)
  refine e_L 3 (f' := (8, [(3, .int w1), (0, .ref 76), (1, .ref a1), (2, .int a2)], [.int a2, .ref a1])) rfl ?_
  refine e_vI 50 rfl rfl ix_X3_locksOf rfl (q_recvOf h_a1 rfl) (Nat.le_of_ble_eq_true rfl) (fun w4 s5 e6 => ?_)
  refine e_L 3 (f' := (16, [(5, .int (0 : Int32)), (4, .int w4), (3, .int w1), (0, .ref 76), (1, .ref a1), (2, .int a2)], [])) rfl ?_
  exact qE_sub (qsubL [3, 2, 1, 0] rfl (ks := [5, 4, 3, 0, 1, 2]) rfl (by decide))
noncomputable def L_X0_seeStuck_5 (en : pN) (d : Nat) (r1 : Nat) (v2 : Int32) (v3 : Int32) (v4 : Int32) (s : qS) : Option qR := qE (qev en d) en none tb_X0_seeStuck (5, [(0, .ref 76), (1, .ref r1), (2, .int v2), (3, .int v3), (4, .int v4)], []) s
noncomputable def L_X0_seeStuck_66 (en : pN) (d : Nat) (v2 : Int32) (v3 : Int32) (s : qS) : Option qR := qE (qev en d) en none tb_X0_seeStuck (66, [(0, .ref 76), (2, .int v2), (3, .int v3)], []) s
set_option maxRecDepth 100000 in
set_option maxHeartbeats 4000000 in
theorem le_X0_seeStuck_5 (en : pN) (d : Nat) (r1 : Nat) (v2 : Int32) (v3 : Int32) (v4 : Int32) (s : qS) : qle (gd (lc r1 = 3) (gd (s.2.2 r1 7 ≠ 0 ∧ lc (s.2.2 r1 7 - 1) = 5) (nm (s.2.2 r1 7 - 1) (fun q2 => if (s.1 q2 11) ≤ v4 then bI (qev en d 9 [.ref 76, .ref r1] s) (fun w4 s5 => if w4 < (0 : Int32) then L_X0_seeStuck_66 en d v2 v3 s5 else bV (qev en d 8 [.ref 76, .int (0 : Int32), .int v2, .int w4] s5) (fun s9 => L_X0_seeStuck_66 en d v2 v3 s9)) else if ¬ v3 = (0 : Int32) then L_X0_seeStuck_5 en d r1 v2 (1 : Int32) (v4 + (1 : Int32)) s else gd (p_inB ((0 : Int32) + v4) 236 = true) (if ¬ (s.1 (r1 + 1) ((0 : Int32) + v4).toNatClampNeg) = (2 : Int32) then L_X0_seeStuck_5 en d r1 v2 (0 : Int32) (v4 + (1 : Int32)) s else L_X0_seeStuck_5 en d r1 v2 (1 : Int32) (v4 + (1 : Int32)) s))))) (L_X0_seeStuck_5 en d r1 v2 v3 v4 s) := by
  show qle _ (qE (qev en d) en none tb_X0_seeStuck (5, [(0, .ref 76), (1, .ref r1), (2, .int v2), (3, .int v3), (4, .int v4)], []) s)
  refine qle_gd fun h_r1 => ?_
  refine e_L 2 (f' := (8, [(0, .ref 76), (1, .ref r1), (2, .int v2), (3, .int v3), (4, .int v4)], [.ref r1, .int v4])) rfl ?_
  refine qle_gd fun h1 => ?_
  refine e_gM 3 7 rfl rfl h_r1 h1.1 ?_
  refine e_nR (ci := 5) h1.2 fun q2 h_q2 => ?_
  refine e_gI 5 11 rfl rfl h_q2 ?_
  refine e_icmp 46 rfl rfl rfl (fun c3 => ?_) (fun c3 => ?_)
  · refine e_L 2 (f' := (48, [(0, .ref 76), (1, .ref r1), (2, .int v2), (3, .int v3), (4, .int v4)], [.ref r1, .ref 76])) rfl ?_
    refine e_vI 9 rfl rfl ix_X0_leastInRing rfl (q_recvOf lc_76 rfl) (Nat.le_of_ble_eq_true rfl) (fun w4 s5 e6 => ?_)
    refine e_L 2 (f' := (55, [(4, .int w4), (0, .ref 76), (1, .ref r1), (2, .int v2), (3, .int v3)], [.int w4])) rfl ?_
    refine e_ifz 66 rfl rfl rfl (fun c7 => ?_) (fun c7 => ?_)
    · exact qE_sub (qsubL [1, 3, 4] rfl (ks := [4, 0, 1, 2, 3]) rfl (by decide))
    · refine e_L 4 (f' := (63, [(4, .int w4), (0, .ref 76), (1, .ref r1), (2, .int v2), (3, .int v3)], [.int w4, .int v2, .int (0 : Int32), .ref 76])) rfl ?_
      refine e_vV 8 rfl rfl ix_X0_noteStuck rfl (q_recvOf lc_76 rfl) (Nat.le_of_ble_eq_true rfl) (fun s9 e10 => ?_)
      exact qE_sub (qsubL [1, 3, 4] rfl (ks := [4, 0, 1, 2, 3]) rfl (by decide))
  · refine e_L 1 (f' := (18, [(0, .ref 76), (1, .ref r1), (2, .int v2), (3, .int v3), (4, .int v4)], [.int v3])) rfl ?_
    refine e_ifz 34 rfl rfl rfl (fun c11 => ?_) (fun c11 => ?_)
    · refine e_L 5 (f' := (5, [(4, .int (v4 + (1 : Int32))), (3, .int (1 : Int32)), (0, .ref 76), (1, .ref r1), (2, .int v2)], [])) rfl ?_
      exact qE_sub (qsubL [2, 3, 4, 1, 0] rfl (ks := [4, 3, 0, 1, 2]) rfl (by decide))
    · refine e_L 1 (f' := (22, [(0, .ref 76), (1, .ref r1), (2, .int v2), (3, .int v3), (4, .int v4)], [.ref r1])) rfl ?_
      refine e_gR (q := (r1 + 1)) 3 0 rfl rfl h_r1 (fo_3_0 h_r1) ?_
      refine e_L 3 (f' := (29, [(0, .ref 76), (1, .ref r1), (2, .int v2), (3, .int v3), (4, .int v4)], [.int ((0 : Int32) + v4), .ref (r1 + 1)])) rfl ?_
      refine qle_gd fun h12 => ?_
      refine e_ial (n := 236) (k := ((0 : Int32) + v4).toNatClampNeg) rfl (fc_3_0 h_r1) (fl_3_0 h_r1) h12 rfl ?_
      refine e_L 1 (f' := (31, [(0, .ref 76), (1, .ref r1), (2, .int v2), (3, .int v3), (4, .int v4)], [.int (2 : Int32), .int (s.1 (r1 + 1) ((0 : Int32) + v4).toNatClampNeg)])) rfl ?_
      refine e_icmp 38 rfl rfl rfl (fun c13 => ?_) (fun c13 => ?_)
      · refine e_L 4 (f' := (5, [(4, .int (v4 + (1 : Int32))), (3, .int (0 : Int32)), (0, .ref 76), (1, .ref r1), (2, .int v2)], [])) rfl ?_
        exact qE_sub (qsubL [2, 3, 4, 1, 0] rfl (ks := [4, 3, 0, 1, 2]) rfl (by decide))
      · refine e_L 5 (f' := (5, [(4, .int (v4 + (1 : Int32))), (3, .int (1 : Int32)), (0, .ref 76), (1, .ref r1), (2, .int v2)], [])) rfl ?_
        exact qE_sub (qsubL [2, 3, 4, 1, 0] rfl (ks := [4, 3, 0, 1, 2]) rfl (by decide))
set_option maxRecDepth 100000 in
set_option maxHeartbeats 4000000 in
theorem le_X0_seeStuck_66 (en : pN) (d : Nat) (v2 : Int32) (v3 : Int32) (s : qS) : qle (if v3 = (0 : Int32) then some (none, s) else bV (qev en d 8 [.ref 76, .int (3 : Int32), .int v2, .int (-2 : Int32)] s) (fun s3 => some (none, s3))) (L_X0_seeStuck_66 en d v2 v3 s) := by
  show qle _ (qE (qev en d) en none tb_X0_seeStuck (66, [(0, .ref 76), (2, .int v2), (3, .int v3)], []) s)
  refine e_L 1 (f' := (67, [(0, .ref 76), (2, .int v2), (3, .int v3)], [.int v3])) rfl ?_
  refine e_ifz 78 rfl rfl rfl (fun c1 => ?_) (fun c1 => ?_)
  · exact e_rV rfl rfl
  · refine e_L 4 (f' := (75, [(0, .ref 76), (2, .int v2), (3, .int v3)], [.int (-2 : Int32), .int v2, .int (3 : Int32), .ref 76])) rfl ?_
    refine e_vV 8 rfl rfl ix_X0_noteStuck rfl (q_recvOf lc_76 rfl) (Nat.le_of_ble_eq_true rfl) (fun s3 e4 => ?_)
    exact e_rV rfl rfl
set_option maxRecDepth 100000 in
set_option maxHeartbeats 4000000 in
theorem le_X0_seeStuck (en : pN) (d : Nat) (a1 : Nat) (a2 : Int32) (s : qS) : qle (gd (lc a1 = 3) (L_X0_seeStuck_5 en d a1 a2 (0 : Int32) (0 : Int32) s)) (qev en (d + 1) 7 [.ref 76, .ref a1, .int a2] s) := by
  refine e_enter ix_X0_seeStuck (Nat.le_of_ble_eq_true rfl) ?_
  show qle _ (qE (qev en d) en none tb_X0_seeStuck (0, [(0, .ref 76), (1, .ref a1), (2, .int a2)], []) s)
  refine qle_gd fun h_a1 => ?_
  refine e_L 4 (f' := (5, [(4, .int (0 : Int32)), (3, .int (0 : Int32)), (0, .ref 76), (1, .ref a1), (2, .int a2)], [])) rfl ?_
  exact qE_sub (qsubL [2, 3, 4, 1, 0] rfl (ks := [4, 3, 0, 1, 2]) rfl (by decide))
noncomputable def L_X0_noteStuck_29 (en : pN) (d : Nat) (v1 : Int32) (s : qS) : Option qR := qE (qev en d) en none tb_X0_noteStuck (29, [(0, .ref 76), (1, .int v1)], []) s
set_option maxRecDepth 100000 in
set_option maxHeartbeats 4000000 in
theorem le_X0_noteStuck_29 (en : pN) (d : Nat) (v1 : Int32) (s : qS) : qle (gd (p_inB v1 5 = true) (nm (uI s 80 (v1.toNatClampNeg) ((s.1 80 v1.toNatClampNeg) + (1 : Int32))) (fun s2 => some (none, s2)))) (L_X0_noteStuck_29 en d v1 s) := by
  show qle _ (qE (qev en d) en none tb_X0_noteStuck (29, [(0, .ref 76), (1, .int v1)], []) s)
  refine e_L 1 (f' := (30, [(0, .ref 76), (1, .int v1)], [.ref 76])) rfl ?_
  refine e_gR (q := 80) 0 3 rfl rfl lc_76 lr_76_3 ?_
  refine e_L 2 (f' := (35, [(0, .ref 76), (1, .int v1)], [.int v1, .ref 80, .int v1, .ref 80])) rfl ?_
  refine qle_gd fun h1 => ?_
  refine e_ial (n := 5) (k := v1.toNatClampNeg) rfl lc_80 ln_80 h1 rfl ?_
  refine e_L 2 (f' := (38, [(0, .ref 76), (1, .int v1)], [.int ((s.1 80 v1.toNatClampNeg) + (1 : Int32)), .int v1, .ref 80])) rfl ?_
  refine e_ias (n := 5) (k := v1.toNatClampNeg) rfl lc_80 ln_80 h1 rfl ?_
  refine e_nS fun s2 => ?_
  exact e_rV rfl rfl
set_option maxRecDepth 100000 in
set_option maxHeartbeats 4000000 in
theorem le_X0_noteStuck (en : pN) (d : Nat) (a1 : Int32) (a2 : Int32) (a3 : Int32) (s : qS) : qle (gd (p_inB a1 5 = true) (if ¬ (s.1 80 a1.toNatClampNeg) = (0 : Int32) then L_X0_noteStuck_29 en d a1 s else gd (p_inB (a1 + (1 : Int32)) 5 = true) (nm (uI s 80 ((a1 + (1 : Int32)).toNatClampNeg) a2) (fun s4 => if ¬ a1 = (0 : Int32) then L_X0_noteStuck_29 en d a1 s4 else nm (uI s4 80 2 a3) (fun s6 => L_X0_noteStuck_29 en d a1 s6))))) (qev en (d + 1) 8 [.ref 76, .int a1, .int a2, .int a3] s) := by
  refine e_enter ix_X0_noteStuck (Nat.le_of_ble_eq_true rfl) ?_
  show qle _ (qE (qev en d) en none tb_X0_noteStuck (0, [(0, .ref 76), (1, .int a1), (2, .int a2), (3, .int a3)], []) s)
  refine e_L 1 (f' := (1, [(0, .ref 76), (1, .int a1), (2, .int a2), (3, .int a3)], [.ref 76])) rfl ?_
  refine e_gR (q := 80) 0 3 rfl rfl lc_76 lr_76_3 ?_
  refine e_L 1 (f' := (5, [(0, .ref 76), (1, .int a1), (2, .int a2), (3, .int a3)], [.int a1, .ref 80])) rfl ?_
  refine qle_gd fun h1 => ?_
  refine e_ial (n := 5) (k := a1.toNatClampNeg) rfl lc_80 ln_80 h1 rfl ?_
  refine e_ifz 29 rfl rfl rfl (fun c2 => ?_) (fun c2 => ?_)
  · exact qE_sub (qsubL [0, 1] rfl (ks := [0, 1, 2, 3]) rfl (by decide))
  · refine e_L 1 (f' := (10, [(0, .ref 76), (1, .int a1), (2, .int a2), (3, .int a3)], [.ref 76])) rfl ?_
    refine e_gR (q := 80) 0 3 rfl rfl lc_76 lr_76_3 ?_
    refine e_L 4 (f' := (17, [(0, .ref 76), (1, .int a1), (2, .int a2), (3, .int a3)], [.int a2, .int (a1 + (1 : Int32)), .ref 80])) rfl ?_
    refine qle_gd fun h3 => ?_
    refine e_ias (n := 5) (k := (a1 + (1 : Int32)).toNatClampNeg) rfl lc_80 ln_80 h3 rfl ?_
    refine e_nS fun s4 => ?_
    refine e_L 1 (f' := (19, [(0, .ref 76), (1, .int a1), (2, .int a2), (3, .int a3)], [.int a1])) rfl ?_
    refine e_ifz 29 rfl rfl rfl (fun c5 => ?_) (fun c5 => ?_)
    · exact qE_sub (qsubL [0, 1] rfl (ks := [0, 1, 2, 3]) rfl (by decide))
    · refine e_L 1 (f' := (23, [(0, .ref 76), (1, .int a1), (2, .int a2), (3, .int a3)], [.ref 76])) rfl ?_
      refine e_gR (q := 80) 0 3 rfl rfl lc_76 lr_76_3 ?_
      refine e_L 2 (f' := (28, [(0, .ref 76), (1, .int a1), (2, .int a2), (3, .int a3)], [.int a3, .int (2 : Int32), .ref 80])) rfl ?_
      refine e_ias (n := 5) (k := 2) rfl lc_80 ln_80 (by decide +kernel) (by decide +kernel) ?_
      refine e_nS fun s6 => ?_
      exact qE_sub (qsubL [0, 1] rfl (ks := [0, 1, 2, 3]) rfl (by decide))
noncomputable def L_X0_leastInRing_2 (en : pN) (d : Nat) (r1 : Nat) (v2 : Int32) (s : qS) : Option qR := qE (qev en d) en (some .int) tb_X0_leastInRing (2, [(1, .ref r1), (2, .int v2)], []) s
noncomputable def L_X0_leastInRing_18 (en : pN) (d : Nat) (r1 : Nat) (v2 : Int32) (v3 : Int32) (v4 : Int32) (s : qS) : Option qR := qE (qev en d) en (some .int) tb_X0_leastInRing (18, [(1, .ref r1), (2, .int v2), (3, .int v3), (4, .int v4)], []) s
noncomputable def L_X0_leastInRing_54 (en : pN) (d : Nat) (r1 : Nat) (v2 : Int32) (v4 : Int32) (vs0 : Int32) (s : qS) : Option qR := qE (qev en d) en (some .int) tb_X0_leastInRing (54, [(1, .ref r1), (2, .int v2), (4, .int v4)], [.int vs0]) s
set_option maxRecDepth 100000 in
set_option maxHeartbeats 4000000 in
theorem le_X0_leastInRing_2 (en : pN) (d : Nat) (r1 : Nat) (v2 : Int32) (s : qS) : qle (gd (lc r1 = 3) (gd (s.2.2 r1 7 ≠ 0 ∧ lc (s.2.2 r1 7 - 1) = 5) (nm (s.2.2 r1 7 - 1) (fun q2 => if (s.1 q2 11) ≤ v2 then some (some (.int (-1 : Int32)), s) else L_X0_leastInRing_18 en d r1 v2 v2 (0 : Int32) s)))) (L_X0_leastInRing_2 en d r1 v2 s) := by
  show qle _ (qE (qev en d) en (some .int) tb_X0_leastInRing (2, [(1, .ref r1), (2, .int v2)], []) s)
  refine qle_gd fun h_r1 => ?_
  refine e_L 2 (f' := (4, [(1, .ref r1), (2, .int v2)], [.ref r1, .int v2])) rfl ?_
  refine qle_gd fun h1 => ?_
  refine e_gM 3 7 rfl rfl h_r1 h1.1 ?_
  refine e_nR (ci := 5) h1.2 fun q2 h_q2 => ?_
  refine e_gI 5 11 rfl rfl h_q2 ?_
  refine e_icmp 74 rfl rfl rfl (fun c3 => ?_) (fun c3 => ?_)
  · refine e_L 1 (f' := (75, [(1, .ref r1), (2, .int v2)], [.int (-1 : Int32)])) rfl ?_
    exact e_rI rfl rfl
  · refine e_L 4 (f' := (18, [(4, .int (0 : Int32)), (3, .int v2), (1, .ref r1), (2, .int v2)], [])) rfl ?_
    exact qE_sub (qsubL [2, 3, 1, 0] rfl (ks := [4, 3, 1, 2]) rfl (by decide))
set_option maxRecDepth 100000 in
set_option maxHeartbeats 4000000 in
theorem le_X0_leastInRing_18 (en : pN) (d : Nat) (r1 : Nat) (v2 : Int32) (v3 : Int32) (v4 : Int32) (s : qS) : qle (gd (lc r1 = 3) (if (4 : Int32) ≤ v4 then L_X0_leastInRing_2 en d r1 (v2 + (1 : Int32)) s else if v3 < (0 : Int32) then L_X0_leastInRing_2 en d r1 (v2 + (1 : Int32)) s else bI (qev en d 51 [.ref r1, .int v3] s) (fun w3 s4 => if (0 : Int32) ≤ w3 then gd (p_inB ((40 : Int32) + w3) 236 = true) (L_X0_leastInRing_54 en d r1 v2 v4 (s4.1 (r1 + 1) ((40 : Int32) + w3).toNatClampNeg) s4) else L_X0_leastInRing_54 en d r1 v2 v4 (-1 : Int32) s4))) (L_X0_leastInRing_18 en d r1 v2 v3 v4 s) := by
  show qle _ (qE (qev en d) en (some .int) tb_X0_leastInRing (18, [(1, .ref r1), (2, .int v2), (3, .int v3), (4, .int v4)], []) s)
  refine qle_gd fun h_r1 => ?_
  refine e_L 2 (f' := (21, [(1, .ref r1), (2, .int v2), (3, .int v3), (4, .int v4)], [.int (4 : Int32), .int v4])) rfl ?_
  refine e_icmp 68 rfl rfl rfl (fun c1 => ?_) (fun c1 => ?_)
  · refine e_L 2 (f' := (2, [(2, .int (v2 + (1 : Int32))), (1, .ref r1), (3, .int v3), (4, .int v4)], [])) rfl ?_
    exact qE_sub (qsubL [1, 0] rfl (ks := [2, 1, 3, 4]) rfl (by decide))
  · refine e_L 1 (f' := (25, [(1, .ref r1), (2, .int v2), (3, .int v3), (4, .int v4)], [.int v3])) rfl ?_
    refine e_ifz 68 rfl rfl rfl (fun c2 => ?_) (fun c2 => ?_)
    · refine e_L 2 (f' := (2, [(2, .int (v2 + (1 : Int32))), (1, .ref r1), (3, .int v3), (4, .int v4)], [])) rfl ?_
      exact qE_sub (qsubL [1, 0] rfl (ks := [2, 1, 3, 4]) rfl (by decide))
    · refine e_L 2 (f' := (30, [(1, .ref r1), (2, .int v2), (3, .int v3), (4, .int v4)], [.int v3, .ref r1])) rfl ?_
      refine e_vI 51 rfl rfl ix_X3_lockAhead rfl (q_recvOf h_r1 rfl) (Nat.le_of_ble_eq_true rfl) (fun w3 s4 e5 => ?_)
      refine e_L 2 (f' := (37, [(5, .int w3), (1, .ref r1), (2, .int v2), (3, .int v3), (4, .int v4)], [.int w3])) rfl ?_
      refine e_ifz 44 rfl rfl rfl (fun c6 => ?_) (fun c6 => ?_)
      · refine e_L 1 (f' := (45, [(5, .int w3), (1, .ref r1), (2, .int v2), (3, .int v3), (4, .int v4)], [.ref r1])) rfl ?_
        refine e_gR (q := (r1 + 1)) 3 0 rfl rfl h_r1 (fo_3_0 h_r1) ?_
        refine e_L 3 (f' := (53, [(5, .int w3), (1, .ref r1), (2, .int v2), (3, .int v3), (4, .int v4)], [.int ((40 : Int32) + w3), .ref (r1 + 1)])) rfl ?_
        refine qle_gd fun h7 => ?_
        refine e_ial (n := 236) (k := ((40 : Int32) + w3).toNatClampNeg) rfl (fc_3_0 h_r1) (fl_3_0 h_r1) h7 rfl ?_
        exact qE_sub (qsubL [1, 2, 4] rfl (ks := [5, 1, 2, 3, 4]) rfl (by decide))
      · refine e_L 2 (f' := (54, [(5, .int w3), (1, .ref r1), (2, .int v2), (3, .int v3), (4, .int v4)], [.int (-1 : Int32)])) rfl ?_
        exact qE_sub (qsubL [1, 2, 4] rfl (ks := [5, 1, 2, 3, 4]) rfl (by decide))
set_option maxRecDepth 100000 in
set_option maxHeartbeats 4000000 in
theorem le_X0_leastInRing_54 (en : pN) (d : Nat) (r1 : Nat) (v2 : Int32) (v4 : Int32) (vs0 : Int32) (s : qS) : qle (gd (lc r1 = 3) (if ¬ vs0 = v2 then L_X0_leastInRing_18 en d r1 v2 vs0 (v4 + (1 : Int32)) s else some (some (.int v2), s))) (L_X0_leastInRing_54 en d r1 v2 v4 vs0 s) := by
  show qle _ (qE (qev en d) en (some .int) tb_X0_leastInRing (54, [(1, .ref r1), (2, .int v2), (4, .int v4)], [.int vs0]) s)
  refine qle_gd fun h_r1 => ?_
  refine e_L 3 (f' := (57, [(3, .int vs0), (1, .ref r1), (2, .int v2), (4, .int v4)], [.int v2, .int vs0])) rfl ?_
  refine e_icmp 62 rfl rfl rfl (fun c1 => ?_) (fun c1 => ?_)
  · refine e_L 2 (f' := (18, [(4, .int (v4 + (1 : Int32))), (3, .int vs0), (1, .ref r1), (2, .int v2)], [])) rfl ?_
    exact qE_sub (qsubL [2, 3, 1, 0] rfl (ks := [4, 3, 1, 2]) rfl (by decide))
  · refine e_L 1 (f' := (61, [(3, .int vs0), (1, .ref r1), (2, .int v2), (4, .int v4)], [.int v2])) rfl ?_
    exact e_rI rfl rfl
set_option maxRecDepth 100000 in
set_option maxHeartbeats 4000000 in
theorem le_X0_leastInRing (en : pN) (d : Nat) (a1 : Nat) (s : qS) : qle (gd (lc a1 = 3) (L_X0_leastInRing_2 en d a1 (0 : Int32) s)) (qev en (d + 1) 9 [.ref 76, .ref a1] s) := by
  refine e_enter ix_X0_leastInRing (Nat.le_of_ble_eq_true rfl) ?_
  show qle _ (qE (qev en d) en (some .int) tb_X0_leastInRing (0, [(0, .ref 76), (1, .ref a1)], []) s)
  refine qle_gd fun h_a1 => ?_
  refine e_L 2 (f' := (2, [(2, .int (0 : Int32)), (0, .ref 76), (1, .ref a1)], [])) rfl ?_
  exact qE_sub (qsubL [2, 0] rfl (ks := [2, 0, 1]) rfl (by decide))
