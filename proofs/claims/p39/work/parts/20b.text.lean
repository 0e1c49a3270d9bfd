/-! what methods do, printed by program out of their tables: X4_put .. -/
set_option maxRecDepth 100000 in
set_option maxHeartbeats 4000000 in
theorem le_X4_put (en : pN) (d : Nat) (t : Nat) (a1 : Int32) (a2 : Int32) (s : qS) : qle (gd (lc t = 4) (if (Int32.ofNat (ln (t + 1))) ≤ (s.1 t 3) then some (none, s) else bV (qev en d 77 [.ref t, .int (s.1 t 3), .int a1, .int a2] s) (fun s3 => nm (uI s3 t 3 ((s3.1 t 3) + (1 : Int32))) (fun s5 => some (none, s5))))) (qev en (d + 1) 76 [.ref t, .int a1, .int a2] s) := by
  refine e_enter ix_X4_put (Nat.le_of_ble_eq_true rfl) ?_
  show qle _ (qE (qev en d) en none tb_X4_put (0, [(0, .ref t), (1, .int a1), (2, .int a2)], []) s)
  refine qle_gd fun ht => ?_
  refine e_L 1 (f' := (1, [(0, .ref t), (1, .int a1), (2, .int a2)], [.ref t])) rfl ?_
  refine e_gI 4 3 rfl rfl ht ?_
  refine e_L 1 (f' := (5, [(0, .ref t), (1, .int a1), (2, .int a2)], [.ref t, .int (s.1 t 3)])) rfl ?_
  refine e_gR (q := (t + 1)) 4 0 rfl rfl ht (fo_4_0 ht) ?_
  refine e_alen (v := (Int32.ofNat (ln (t + 1)))) rfl (by rw [(fc_4_0 ht)]; decide) rfl ?_
  refine e_icmp 32 rfl rfl rfl (fun c1 => ?_) (fun c1 => ?_)
  · exact e_rV rfl rfl
  · refine e_L 2 (f' := (14, [(0, .ref t), (1, .int a1), (2, .int a2)], [.ref t, .ref t])) rfl ?_
    refine e_gI 4 3 rfl rfl ht ?_
    refine e_L 2 (f' := (19, [(0, .ref t), (1, .int a1), (2, .int a2)], [.int a2, .int a1, .int (s.1 t 3), .ref t])) rfl ?_
    refine e_vV 77 rfl rfl ix_X4_set rfl (q_recvOf ht rfl) (Nat.le_of_ble_eq_true rfl) (fun s3 e4 => ?_)
    refine e_L 2 (f' := (24, [(0, .ref t), (1, .int a1), (2, .int a2)], [.ref t, .ref t])) rfl ?_
    refine e_gI 4 3 rfl rfl ht ?_
    refine e_L 2 (f' := (29, [(0, .ref t), (1, .int a1), (2, .int a2)], [.int ((s3.1 t 3) + (1 : Int32)), .ref t])) rfl ?_
    refine e_pI 4 3 rfl rfl ht rfl ?_
    refine e_nS fun s5 => ?_
    exact e_rV rfl rfl
set_option maxRecDepth 100000 in
set_option maxHeartbeats 4000000 in
theorem le_X4_set (en : pN) (d : Nat) (t : Nat) (a1 : Int32) (a2 : Int32) (a3 : Int32) (s : qS) : qle (gd (lc t = 4) (gd (p_inB a1 (ln (t + 1)) = true) (nm (uI s (t + 1) (a1.toNatClampNeg) a2) (fun s2 => gd (p_inB a1 (ln (t + 2)) = true) (nm (uI s2 (t + 2) (a1.toNatClampNeg) a3) (fun s4 => some (none, s4))))))) (qev en (d + 1) 77 [.ref t, .int a1, .int a2, .int a3] s) := by
  refine e_enter ix_X4_set (Nat.le_of_ble_eq_true rfl) ?_
  show qle _ (qE (qev en d) en none tb_X4_set (0, [(0, .ref t), (1, .int a1), (2, .int a2), (3, .int a3)], []) s)
  refine qle_gd fun ht => ?_
  refine e_L 1 (f' := (1, [(0, .ref t), (1, .int a1), (2, .int a2), (3, .int a3)], [.ref t])) rfl ?_
  refine e_gR (q := (t + 1)) 4 0 rfl rfl ht (fo_4_0 ht) ?_
  refine e_L 2 (f' := (6, [(0, .ref t), (1, .int a1), (2, .int a2), (3, .int a3)], [.int a2, .int a1, .ref (t + 1)])) rfl ?_
  refine qle_gd fun h1 => ?_
  refine e_ias (n := (ln (t + 1))) (k := a1.toNatClampNeg) rfl (fc_4_0 ht) rfl h1 rfl ?_
  refine e_nS fun s2 => ?_
  refine e_L 1 (f' := (8, [(0, .ref t), (1, .int a1), (2, .int a2), (3, .int a3)], [.ref t])) rfl ?_
  refine e_gR (q := (t + 2)) 4 1 rfl rfl ht (fo_4_1 ht) ?_
  refine e_L 2 (f' := (13, [(0, .ref t), (1, .int a1), (2, .int a2), (3, .int a3)], [.int a3, .int a1, .ref (t + 2)])) rfl ?_
  refine qle_gd fun h3 => ?_
  refine e_ias (n := (ln (t + 2))) (k := a1.toNatClampNeg) rfl (fc_4_1 ht) rfl h3 rfl ?_
  refine e_nS fun s4 => ?_
  exact e_rV rfl rfl
noncomputable def L_X4_workOut_18 (en : pN) (d : Nat) (r0 : Nat) (v2 : Int32) (r3 : Nat) (v4 : Int32) (v5 : Int32) (s : qS) : Option qR := qE (qev en d) en (some .int) tb_X4_workOut (18, [(0, .ref r0), (2, .int v2), (3, .ref r3), (4, .int v4), (5, .int v5)], []) s
noncomputable def L_X4_workOut_63 (en : pN) (d : Nat) (r0 : Nat) (v2 : Int32) (r3 : Nat) (v5 : Int32) (v6 : Int32) (vs0 : Int32) (vs1 : Int32) (s : qS) : Option qR := qE (qev en d) en (some .int) tb_X4_workOut (63, [(0, .ref r0), (2, .int v2), (3, .ref r3), (5, .int v5), (6, .int v6)], [.int vs1, .int vs0]) s
noncomputable def L_X4_workOut_100 (en : pN) (d : Nat) (r0 : Nat) (s : qS) : Option qR := qE (qev en d) en (some .int) tb_X4_workOut (100, [(0, .ref r0)], []) s
set_option maxRecDepth 100000 in
set_option maxHeartbeats 4000000 in
theorem le_X4_workOut_18 (en : pN) (d : Nat) (r0 : Nat) (v2 : Int32) (r3 : Nat) (v4 : Int32) (v5 : Int32) (s : qS) : qle (gd (lc r0 = 4) (gd (lc r3 = 20) (if v2 ≤ v5 then gd (p_inB (0 : Int32) (ln (r0 + 3)) = true) (some (some (.int (s.1 (r0 + 3) 0)), s)) else gd (p_inB v5 (ln (r0 + 1)) = true) (nm (s.1 (r0 + 1) v5.toNatClampNeg) (fun z4 => if (3 : Int32) < z4 then if z4 = (4 : Int32) then L_X4_workOut_63 en d r0 v2 r3 v5 z4 v4 (1 : Int32) s else if ¬ z4 = (33 : Int32) then L_X4_workOut_63 en d r0 v2 r3 v5 z4 v4 (2 : Int32) s else L_X4_workOut_63 en d r0 v2 r3 v5 z4 v4 (1 : Int32) s else L_X4_workOut_63 en d r0 v2 r3 v5 z4 v4 (0 : Int32) s))))) (L_X4_workOut_18 en d r0 v2 r3 v4 v5 s) := by
  show qle _ (qE (qev en d) en (some .int) tb_X4_workOut (18, [(0, .ref r0), (2, .int v2), (3, .ref r3), (4, .int v4), (5, .int v5)], []) s)
  refine qle_gd fun h_r0 => ?_
  refine qle_gd fun h_r3 => ?_
  refine e_L 2 (f' := (21, [(0, .ref r0), (2, .int v2), (3, .ref r3), (4, .int v4), (5, .int v5)], [.int v2, .int v5])) rfl ?_
  refine e_icmp 125 rfl rfl rfl (fun c1 => ?_) (fun c1 => ?_)
  · refine e_L 1 (f' := (126, [(0, .ref r0), (2, .int v2), (3, .ref r3), (4, .int v4), (5, .int v5)], [.ref r0])) rfl ?_
    refine e_gR (q := (r0 + 3)) 4 2 rfl rfl h_r0 (fo_4_2 h_r0) ?_
    refine e_L 1 (f' := (130, [(0, .ref r0), (2, .int v2), (3, .ref r3), (4, .int v4), (5, .int v5)], [.int (0 : Int32), .ref (r0 + 3)])) rfl ?_
    refine qle_gd fun h2 => ?_
    refine e_ial (n := (ln (r0 + 3))) (k := 0) rfl (fc_4_2 h_r0) rfl h2 (by decide +kernel) ?_
    exact e_rI rfl rfl
  · refine e_L 1 (f' := (25, [(0, .ref r0), (2, .int v2), (3, .ref r3), (4, .int v4), (5, .int v5)], [.ref r0])) rfl ?_
    refine e_gR (q := (r0 + 1)) 4 0 rfl rfl h_r0 (fo_4_0 h_r0) ?_
    refine e_L 1 (f' := (30, [(0, .ref r0), (2, .int v2), (3, .ref r3), (4, .int v4), (5, .int v5)], [.int v5, .ref (r0 + 1)])) rfl ?_
    refine qle_gd fun h3 => ?_
    refine e_ial (n := (ln (r0 + 1))) (k := v5.toNatClampNeg) rfl (fc_4_0 h_r0) rfl h3 rfl ?_
    refine e_nI fun z4 => ?_
    refine e_L 4 (f' := (38, [(6, .int z4), (0, .ref r0), (2, .int v2), (3, .ref r3), (4, .int v4), (5, .int v5)], [.int (3 : Int32), .int z4, .int v4])) rfl ?_
    refine e_icmp 45 rfl rfl rfl (fun c5 => ?_) (fun c5 => ?_)
    · refine e_L 2 (f' := (48, [(6, .int z4), (0, .ref r0), (2, .int v2), (3, .ref r3), (4, .int v4), (5, .int v5)], [.int (4 : Int32), .int z4, .int v4])) rfl ?_
      refine e_icmp 58 rfl rfl rfl (fun c6 => ?_) (fun c6 => ?_)
      · refine e_L 2 (f' := (63, [(6, .int z4), (0, .ref r0), (2, .int v2), (3, .ref r3), (4, .int v4), (5, .int v5)], [.int (1 : Int32), .int v4])) rfl ?_
        exact qE_sub (qsubL [1, 2, 3, 5, 0] rfl (ks := [6, 0, 2, 3, 4, 5]) rfl (by decide))
      · refine e_L 2 (f' := (55, [(6, .int z4), (0, .ref r0), (2, .int v2), (3, .ref r3), (4, .int v4), (5, .int v5)], [.int (33 : Int32), .int z4, .int v4])) rfl ?_
        refine e_icmp 62 rfl rfl rfl (fun c7 => ?_) (fun c7 => ?_)
        · refine e_L 1 (f' := (63, [(6, .int z4), (0, .ref r0), (2, .int v2), (3, .ref r3), (4, .int v4), (5, .int v5)], [.int (2 : Int32), .int v4])) rfl ?_
          exact qE_sub (qsubL [1, 2, 3, 5, 0] rfl (ks := [6, 0, 2, 3, 4, 5]) rfl (by decide))
        · refine e_L 2 (f' := (63, [(6, .int z4), (0, .ref r0), (2, .int v2), (3, .ref r3), (4, .int v4), (5, .int v5)], [.int (1 : Int32), .int v4])) rfl ?_
          exact qE_sub (qsubL [1, 2, 3, 5, 0] rfl (ks := [6, 0, 2, 3, 4, 5]) rfl (by decide))
    · refine e_L 2 (f' := (63, [(6, .int z4), (0, .ref r0), (2, .int v2), (3, .ref r3), (4, .int v4), (5, .int v5)], [.int (0 : Int32), .int v4])) rfl ?_
      exact qE_sub (qsubL [1, 2, 3, 5, 0] rfl (ks := [6, 0, 2, 3, 4, 5]) rfl (by decide))
set_option maxRecDepth 100000 in
set_option maxHeartbeats 4000000 in
theorem le_X4_workOut_63 (en : pN) (d : Nat) (r0 : Nat) (v2 : Int32) (r3 : Nat) (v5 : Int32) (v6 : Int32) (vs0 : Int32) (vs1 : Int32) (s : qS) : qle (gd (lc r0 = 4) (gd (lc r3 = 20) (gd (p_inB v5 (ln (r0 + 2)) = true) (bI (qev en d 79 [.ref r0, .int v6, .int (s.1 (r0 + 2) v5.toNatClampNeg), .int (vs0 - vs1), .ref r3] s) (fun w2 s3 => if (999 : Int32) < w2 then L_X4_workOut_100 en d r0 s3 else if (-999 : Int32) ≤ w2 then gd (p_inB (vs0 - vs1) (ln (r0 + 3)) = true) (nm (uI s3 (r0 + 3) ((vs0 - vs1).toNatClampNeg) w2) (fun s8 => L_X4_workOut_18 en d r0 v2 r3 ((vs0 - vs1) + (1 : Int32)) (v5 + (1 : Int32)) s8)) else L_X4_workOut_100 en d r0 s3))))) (L_X4_workOut_63 en d r0 v2 r3 v5 v6 vs0 vs1 s) := by
  show qle _ (qE (qev en d) en (some .int) tb_X4_workOut (63, [(0, .ref r0), (2, .int v2), (3, .ref r3), (5, .int v5), (6, .int v6)], [.int vs1, .int vs0]) s)
  refine qle_gd fun h_r0 => ?_
  refine qle_gd fun h_r3 => ?_
  refine e_L 5 (f' := (70, [(4, .int (vs0 - vs1)), (0, .ref r0), (2, .int v2), (3, .ref r3), (5, .int v5), (6, .int v6)], [.ref r0, .int v6, .ref r0])) rfl ?_
  refine e_gR (q := (r0 + 2)) 4 1 rfl rfl h_r0 (fo_4_1 h_r0) ?_
  refine e_L 1 (f' := (75, [(4, .int (vs0 - vs1)), (0, .ref r0), (2, .int v2), (3, .ref r3), (5, .int v5), (6, .int v6)], [.int v5, .ref (r0 + 2), .int v6, .ref r0])) rfl ?_
  refine qle_gd fun h1 => ?_
  refine e_ial (n := (ln (r0 + 2))) (k := v5.toNatClampNeg) rfl (fc_4_1 h_r0) rfl h1 rfl ?_
  refine e_L 2 (f' := (79, [(4, .int (vs0 - vs1)), (0, .ref r0), (2, .int v2), (3, .ref r3), (5, .int v5), (6, .int v6)], [.ref r3, .int (vs0 - vs1), .int (s.1 (r0 + 2) v5.toNatClampNeg), .int v6, .ref r0])) rfl ?_
  refine e_vI 79 rfl rfl ix_X4_apply rfl (q_recvOf h_r0 rfl) (Nat.le_of_ble_eq_true rfl) (fun w2 s3 e4 => ?_)
  refine e_L 3 (f' := (89, [(7, .int w2), (4, .int (vs0 - vs1)), (0, .ref r0), (2, .int v2), (3, .ref r3), (5, .int v5), (6, .int v6)], [.int (999 : Int32), .int w2])) rfl ?_
  refine e_icmp 100 rfl rfl rfl (fun c5 => ?_) (fun c5 => ?_)
  · exact qE_sub (qsubL [2] rfl (ks := [7, 4, 0, 2, 3, 5, 6]) rfl (by decide))
  · refine e_L 2 (f' := (97, [(7, .int w2), (4, .int (vs0 - vs1)), (0, .ref r0), (2, .int v2), (3, .ref r3), (5, .int v5), (6, .int v6)], [.int (-999 : Int32), .int w2])) rfl ?_
    refine e_icmp 107 rfl rfl rfl (fun c6 => ?_) (fun c6 => ?_)
    · refine e_L 1 (f' := (108, [(7, .int w2), (4, .int (vs0 - vs1)), (0, .ref r0), (2, .int v2), (3, .ref r3), (5, .int v5), (6, .int v6)], [.ref r0])) rfl ?_
      refine e_gR (q := (r0 + 3)) 4 2 rfl rfl h_r0 (fo_4_2 h_r0) ?_
      refine e_L 2 (f' := (115, [(7, .int w2), (4, .int (vs0 - vs1)), (0, .ref r0), (2, .int v2), (3, .ref r3), (5, .int v5), (6, .int v6)], [.int w2, .int (vs0 - vs1), .ref (r0 + 3)])) rfl ?_
      refine qle_gd fun h7 => ?_
      refine e_ias (n := (ln (r0 + 3))) (k := (vs0 - vs1).toNatClampNeg) rfl (fc_4_2 h_r0) rfl h7 rfl ?_
      refine e_nS fun s8 => ?_
      refine e_L 3 (f' := (18, [(5, .int (v5 + (1 : Int32))), (4, .int ((vs0 - vs1) + (1 : Int32))), (7, .int w2), (0, .ref r0), (2, .int v2), (3, .ref r3), (6, .int v6)], [])) rfl ?_
      exact qE_sub (qsubL [3, 4, 5, 1, 0] rfl (ks := [5, 4, 7, 0, 2, 3, 6]) rfl (by decide))
    · exact qE_sub (qsubL [2] rfl (ks := [7, 4, 0, 2, 3, 5, 6]) rfl (by decide))
set_option maxRecDepth 100000 in
set_option maxHeartbeats 4000000 in
theorem le_X4_workOut_100 (en : pN) (d : Nat) (r0 : Nat) (s : qS) : qle (gd (lc r0 = 4) (nm (uI s r0 4 (1 : Int32)) (fun s1 => some (some (.int (0 : Int32)), s1)))) (L_X4_workOut_100 en d r0 s) := by
  show qle _ (qE (qev en d) en (some .int) tb_X4_workOut (100, [(0, .ref r0)], []) s)
  refine qle_gd fun h_r0 => ?_
  refine e_L 2 (f' := (102, [(0, .ref r0)], [.int (1 : Int32), .ref r0])) rfl ?_
  refine e_pI 4 4 rfl rfl h_r0 (by decide +kernel) ?_
  refine e_nS fun s1 => ?_
  refine e_L 1 (f' := (106, [(0, .ref r0)], [.int (0 : Int32)])) rfl ?_
  exact e_rI rfl rfl
set_option maxRecDepth 100000 in
set_option maxHeartbeats 4000000 in
theorem le_X4_workOut (en : pN) (d : Nat) (t : Nat) (a1 : Int32) (a2 : Int32) (a3 : Nat) (s : qS) : qle (gd (lc t = 4) (gd (lc a3 = 20) (nm (uI s t 4 (0 : Int32)) (fun s1 => gd (p_inB (0 : Int32) (ln (t + 3)) = true) (nm (uI s1 (t + 3) 0 (0 : Int32)) (fun s3 => L_X4_workOut_18 en d t a2 a3 (0 : Int32) a1 s3)))))) (qev en (d + 1) 78 [.ref t, .int a1, .int a2, .ref a3] s) := by
  refine e_enter ix_X4_workOut (Nat.le_of_ble_eq_true rfl) ?_
  show qle _ (qE (qev en d) en (some .int) tb_X4_workOut (0, [(0, .ref t), (1, .int a1), (2, .int a2), (3, .ref a3)], []) s)
  refine qle_gd fun ht => ?_
  refine qle_gd fun h_a3 => ?_
  refine e_L 2 (f' := (2, [(0, .ref t), (1, .int a1), (2, .int a2), (3, .ref a3)], [.int (0 : Int32), .ref t])) rfl ?_
  refine e_pI 4 4 rfl rfl ht (by decide +kernel) ?_
  refine e_nS fun s1 => ?_
  refine e_L 1 (f' := (6, [(0, .ref t), (1, .int a1), (2, .int a2), (3, .ref a3)], [.ref t])) rfl ?_
  refine e_gR (q := (t + 3)) 4 2 rfl rfl ht (fo_4_2 ht) ?_
  refine e_L 2 (f' := (11, [(0, .ref t), (1, .int a1), (2, .int a2), (3, .ref a3)], [.int (0 : Int32), .int (0 : Int32), .ref (t + 3)])) rfl ?_
  refine qle_gd fun h2 => ?_
  refine e_ias (n := (ln (t + 3))) (k := 0) rfl (fc_4_2 ht) rfl h2 (by decide +kernel) ?_
  refine e_nS fun s3 => ?_
  refine e_L 4 (f' := (18, [(5, .int a1), (4, .int (0 : Int32)), (0, .ref t), (1, .int a1), (2, .int a2), (3, .ref a3)], [])) rfl ?_
  exact qE_sub (qsubL [2, 4, 5, 1, 0] rfl (ks := [5, 4, 0, 1, 2, 3]) rfl (by decide))
set_option maxRecDepth 100000 in
set_option maxHeartbeats 4000000 in
theorem le_X4_apply (en : pN) (d : Nat) (t : Nat) (a1 : Int32) (a2 : Int32) (a3 : Int32) (a4 : Nat) (s : qS) : qle (gd (lc t = 4) (gd (lc a4 = 20) (gd (p_inB a3 (ln (t + 3)) = true) (nm (s.1 (t + 3) a3.toNatClampNeg) (fun z2 => gd (p_inB (a3 + (1 : Int32)) (ln (t + 3)) = true) (nm (s.1 (t + 3) (a3 + (1 : Int32)).toNatClampNeg) (fun z4 => swL a1.toInt [(1, some (some (.int a2), s)), (2, gd (p_inB a2 (ln a4) = true) (some (some (.int (s.1 a4 a2.toNatClampNeg)), s))), (3, gd (p_inB ((0 : Int32) + (a2 / (8 : Int32))) (ln a4) = true) (if ¬ (s.1 a4 ((0 : Int32) + (a2 / (8 : Int32))).toNatClampNeg) = (a2 - a2 / (8 : Int32) * (8 : Int32)) then some (some (.int (0 : Int32)), s) else some (some (.int (1 : Int32)), s))), (4, some (some (.int (-z2)), s)), (33, if ¬ z2 = (0 : Int32) then some (some (.int (0 : Int32)), s) else some (some (.int (1 : Int32)), s)), (38, if z2 = (0 : Int32) then some (some (.int (0 : Int32)), s) else if z4 = (0 : Int32) then some (some (.int (0 : Int32)), s) else some (some (.int (1 : Int32)), s)), (42, some (some (.int (z2 * z4)), s)), (43, some (some (.int (z2 + z4)), s)), (45, some (some (.int (z2 - z4)), s)), (60, if z4 ≤ z2 then some (some (.int (0 : Int32)), s) else some (some (.int (1 : Int32)), s)), (62, if z2 ≤ z4 then some (some (.int (0 : Int32)), s) else some (some (.int (1 : Int32)), s)), (124, if ¬ z2 = (0 : Int32) then some (some (.int (1 : Int32)), s) else if z4 = (0 : Int32) then some (some (.int (0 : Int32)), s) else some (some (.int (1 : Int32)), s)), (161, if z2 = z4 then some (some (.int (0 : Int32)), s) else some (some (.int (1 : Int32)), s)), (188, if z4 < z2 then some (some (.int (0 : Int32)), s) else some (some (.int (1 : Int32)), s)), (189, if ¬ z2 = z4 then some (some (.int (0 : Int32)), s) else some (some (.int (1 : Int32)), s))] (if z2 < z4 then some (some (.int (0 : Int32)), s) else some (some (.int (1 : Int32)), s))))))))) (qev en (d + 1) 79 [.ref t, .int a1, .int a2, .int a3, .ref a4] s) := by
  refine e_enter ix_X4_apply (Nat.le_of_ble_eq_true rfl) ?_
  show qle _ (qE (qev en d) en (some .int) tb_X4_apply (0, [(0, .ref t), (1, .int a1), (2, .int a2), (3, .int a3), (4, .ref a4)], []) s)
  refine qle_gd fun ht => ?_
  refine qle_gd fun h_a4 => ?_
  refine e_L 1 (f' := (1, [(0, .ref t), (1, .int a1), (2, .int a2), (3, .int a3), (4, .ref a4)], [.ref t])) rfl ?_
  refine e_gR (q := (t + 3)) 4 2 rfl rfl ht (fo_4_2 ht) ?_
  refine e_L 1 (f' := (5, [(0, .ref t), (1, .int a1), (2, .int a2), (3, .int a3), (4, .ref a4)], [.int a3, .ref (t + 3)])) rfl ?_
  refine qle_gd fun h1 => ?_
  refine e_ial (n := (ln (t + 3))) (k := a3.toNatClampNeg) rfl (fc_4_2 ht) rfl h1 rfl ?_
  refine e_nI fun z2 => ?_
  refine e_L 2 (f' := (9, [(5, .int z2), (0, .ref t), (1, .int a1), (2, .int a2), (3, .int a3), (4, .ref a4)], [.ref t])) rfl ?_
  refine e_gR (q := (t + 3)) 4 2 rfl rfl ht (fo_4_2 ht) ?_
  refine e_L 3 (f' := (15, [(5, .int z2), (0, .ref t), (1, .int a1), (2, .int a2), (3, .int a3), (4, .ref a4)], [.int (a3 + (1 : Int32)), .ref (t + 3)])) rfl ?_
  refine qle_gd fun h3 => ?_
  refine e_ial (n := (ln (t + 3))) (k := (a3 + (1 : Int32)).toNatClampNeg) rfl (fc_4_2 ht) rfl h3 rfl ?_
  refine e_nI fun z4 => ?_
  refine e_L 2 (f' := (19, [(6, .int z4), (5, .int z2), (0, .ref t), (1, .int a1), (2, .int a2), (3, .int a3), (4, .ref a4)], [.int a1])) rfl ?_
  refine e_lsw rfl ⟨rfl, ?_, rfl, ?_, rfl, ?_, rfl, ?_, rfl, ?_, rfl, ?_, rfl, ?_, rfl, ?_, rfl, ?_, rfl, ?_, rfl, ?_, rfl, ?_, rfl, ?_, rfl, ?_, rfl, ?_, trivial⟩ ?_
  · refine e_L 1 (f' := (149, [(6, .int z4), (5, .int z2), (0, .ref t), (1, .int a1), (2, .int a2), (3, .int a3), (4, .ref a4)], [.int a2])) rfl ?_
    exact e_rI rfl rfl
  · refine e_L 2 (f' := (153, [(6, .int z4), (5, .int z2), (0, .ref t), (1, .int a1), (2, .int a2), (3, .int a3), (4, .ref a4)], [.int a2, .ref a4])) rfl ?_
    refine qle_gd fun h5 => ?_
    refine e_ial (n := (ln a4)) (k := a2.toNatClampNeg) rfl h_a4 rfl h5 rfl ?_
    exact e_rI rfl rfl
  · refine e_L 4 (f' := (161, [(6, .int z4), (5, .int z2), (0, .ref t), (1, .int a1), (2, .int a2), (3, .int a3), (4, .ref a4)], [.int (8 : Int32), .int a2, .int (0 : Int32), .ref a4])) rfl ?_
    refine e_div rfl (by decide) ?_
    refine e_L 1 (f' := (163, [(6, .int z4), (5, .int z2), (0, .ref t), (1, .int a1), (2, .int a2), (3, .int a3), (4, .ref a4)], [.int ((0 : Int32) + (a2 / (8 : Int32))), .ref a4])) rfl ?_
    refine qle_gd fun h6 => ?_
    refine e_ial (n := (ln a4)) (k := ((0 : Int32) + (a2 / (8 : Int32))).toNatClampNeg) rfl h_a4 rfl h6 rfl ?_
    refine e_L 2 (f' := (167, [(6, .int z4), (5, .int z2), (0, .ref t), (1, .int a1), (2, .int a2), (3, .int a3), (4, .ref a4)], [.int (8 : Int32), .int a2, .int (s.1 a4 ((0 : Int32) + (a2 / (8 : Int32))).toNatClampNeg)])) rfl ?_
    refine e_rem rfl (by decide) ?_
    refine e_icmp 175 rfl rfl rfl (fun c7 => ?_) (fun c7 => ?_)
    · refine e_L 1 (f' := (176, [(6, .int z4), (5, .int z2), (0, .ref t), (1, .int a1), (2, .int a2), (3, .int a3), (4, .ref a4)], [.int (0 : Int32)])) rfl ?_
      exact e_rI rfl rfl
    · refine e_L 2 (f' := (176, [(6, .int z4), (5, .int z2), (0, .ref t), (1, .int a1), (2, .int a2), (3, .int a3), (4, .ref a4)], [.int (1 : Int32)])) rfl ?_
      exact e_rI rfl rfl
  · refine e_L 2 (f' := (180, [(6, .int z4), (5, .int z2), (0, .ref t), (1, .int a1), (2, .int a2), (3, .int a3), (4, .ref a4)], [.int (-z2)])) rfl ?_
    exact e_rI rfl rfl
  · refine e_L 1 (f' := (183, [(6, .int z4), (5, .int z2), (0, .ref t), (1, .int a1), (2, .int a2), (3, .int a3), (4, .ref a4)], [.int z2])) rfl ?_
    refine e_ifz 190 rfl rfl rfl (fun c8 => ?_) (fun c8 => ?_)
    · refine e_L 1 (f' := (191, [(6, .int z4), (5, .int z2), (0, .ref t), (1, .int a1), (2, .int a2), (3, .int a3), (4, .ref a4)], [.int (0 : Int32)])) rfl ?_
      exact e_rI rfl rfl
    · refine e_L 2 (f' := (191, [(6, .int z4), (5, .int z2), (0, .ref t), (1, .int a1), (2, .int a2), (3, .int a3), (4, .ref a4)], [.int (1 : Int32)])) rfl ?_
      exact e_rI rfl rfl
  · refine e_L 1 (f' := (238, [(6, .int z4), (5, .int z2), (0, .ref t), (1, .int a1), (2, .int a2), (3, .int a3), (4, .ref a4)], [.int z2])) rfl ?_
    refine e_ifz 250 rfl rfl rfl (fun c9 => ?_) (fun c9 => ?_)
    · refine e_L 1 (f' := (251, [(6, .int z4), (5, .int z2), (0, .ref t), (1, .int a1), (2, .int a2), (3, .int a3), (4, .ref a4)], [.int (0 : Int32)])) rfl ?_
      exact e_rI rfl rfl
    · refine e_L 1 (f' := (243, [(6, .int z4), (5, .int z2), (0, .ref t), (1, .int a1), (2, .int a2), (3, .int a3), (4, .ref a4)], [.int z4])) rfl ?_
      refine e_ifz 250 rfl rfl rfl (fun c10 => ?_) (fun c10 => ?_)
      · refine e_L 1 (f' := (251, [(6, .int z4), (5, .int z2), (0, .ref t), (1, .int a1), (2, .int a2), (3, .int a3), (4, .ref a4)], [.int (0 : Int32)])) rfl ?_
        exact e_rI rfl rfl
      · refine e_L 2 (f' := (251, [(6, .int z4), (5, .int z2), (0, .ref t), (1, .int a1), (2, .int a2), (3, .int a3), (4, .ref a4)], [.int (1 : Int32)])) rfl ?_
        exact e_rI rfl rfl
  · refine e_L 3 (f' := (209, [(6, .int z4), (5, .int z2), (0, .ref t), (1, .int a1), (2, .int a2), (3, .int a3), (4, .ref a4)], [.int (z2 * z4)])) rfl ?_
    exact e_rI rfl rfl
  · refine e_L 3 (f' := (197, [(6, .int z4), (5, .int z2), (0, .ref t), (1, .int a1), (2, .int a2), (3, .int a3), (4, .ref a4)], [.int (z2 + z4)])) rfl ?_
    exact e_rI rfl rfl
  · refine e_L 3 (f' := (203, [(6, .int z4), (5, .int z2), (0, .ref t), (1, .int a1), (2, .int a2), (3, .int a3), (4, .ref a4)], [.int (z2 - z4)])) rfl ?_
    exact e_rI rfl rfl
  · refine e_L 2 (f' := (214, [(6, .int z4), (5, .int z2), (0, .ref t), (1, .int a1), (2, .int a2), (3, .int a3), (4, .ref a4)], [.int z4, .int z2])) rfl ?_
    refine e_icmp 221 rfl rfl rfl (fun c11 => ?_) (fun c11 => ?_)
    · refine e_L 1 (f' := (222, [(6, .int z4), (5, .int z2), (0, .ref t), (1, .int a1), (2, .int a2), (3, .int a3), (4, .ref a4)], [.int (0 : Int32)])) rfl ?_
      exact e_rI rfl rfl
    · refine e_L 2 (f' := (222, [(6, .int z4), (5, .int z2), (0, .ref t), (1, .int a1), (2, .int a2), (3, .int a3), (4, .ref a4)], [.int (1 : Int32)])) rfl ?_
      exact e_rI rfl rfl
  · refine e_L 2 (f' := (227, [(6, .int z4), (5, .int z2), (0, .ref t), (1, .int a1), (2, .int a2), (3, .int a3), (4, .ref a4)], [.int z4, .int z2])) rfl ?_
    refine e_icmp 234 rfl rfl rfl (fun c12 => ?_) (fun c12 => ?_)
    · refine e_L 1 (f' := (235, [(6, .int z4), (5, .int z2), (0, .ref t), (1, .int a1), (2, .int a2), (3, .int a3), (4, .ref a4)], [.int (0 : Int32)])) rfl ?_
      exact e_rI rfl rfl
    · refine e_L 2 (f' := (235, [(6, .int z4), (5, .int z2), (0, .ref t), (1, .int a1), (2, .int a2), (3, .int a3), (4, .ref a4)], [.int (1 : Int32)])) rfl ?_
      exact e_rI rfl rfl
  · refine e_L 1 (f' := (254, [(6, .int z4), (5, .int z2), (0, .ref t), (1, .int a1), (2, .int a2), (3, .int a3), (4, .ref a4)], [.int z2])) rfl ?_
    refine e_ifz 262 rfl rfl rfl (fun c13 => ?_) (fun c13 => ?_)
    · refine e_L 2 (f' := (267, [(6, .int z4), (5, .int z2), (0, .ref t), (1, .int a1), (2, .int a2), (3, .int a3), (4, .ref a4)], [.int (1 : Int32)])) rfl ?_
      exact e_rI rfl rfl
    · refine e_L 1 (f' := (259, [(6, .int z4), (5, .int z2), (0, .ref t), (1, .int a1), (2, .int a2), (3, .int a3), (4, .ref a4)], [.int z4])) rfl ?_
      refine e_ifz 266 rfl rfl rfl (fun c14 => ?_) (fun c14 => ?_)
      · refine e_L 1 (f' := (267, [(6, .int z4), (5, .int z2), (0, .ref t), (1, .int a1), (2, .int a2), (3, .int a3), (4, .ref a4)], [.int (0 : Int32)])) rfl ?_
        exact e_rI rfl rfl
      · refine e_L 2 (f' := (267, [(6, .int z4), (5, .int z2), (0, .ref t), (1, .int a1), (2, .int a2), (3, .int a3), (4, .ref a4)], [.int (1 : Int32)])) rfl ?_
        exact e_rI rfl rfl
  · refine e_L 2 (f' := (285, [(6, .int z4), (5, .int z2), (0, .ref t), (1, .int a1), (2, .int a2), (3, .int a3), (4, .ref a4)], [.int z4, .int z2])) rfl ?_
    refine e_icmp 292 rfl rfl rfl (fun c15 => ?_) (fun c15 => ?_)
    · refine e_L 1 (f' := (293, [(6, .int z4), (5, .int z2), (0, .ref t), (1, .int a1), (2, .int a2), (3, .int a3), (4, .ref a4)], [.int (0 : Int32)])) rfl ?_
      exact e_rI rfl rfl
    · refine e_L 2 (f' := (293, [(6, .int z4), (5, .int z2), (0, .ref t), (1, .int a1), (2, .int a2), (3, .int a3), (4, .ref a4)], [.int (1 : Int32)])) rfl ?_
      exact e_rI rfl rfl
  · refine e_L 2 (f' := (298, [(6, .int z4), (5, .int z2), (0, .ref t), (1, .int a1), (2, .int a2), (3, .int a3), (4, .ref a4)], [.int z4, .int z2])) rfl ?_
    refine e_icmp 305 rfl rfl rfl (fun c16 => ?_) (fun c16 => ?_)
    · refine e_L 1 (f' := (306, [(6, .int z4), (5, .int z2), (0, .ref t), (1, .int a1), (2, .int a2), (3, .int a3), (4, .ref a4)], [.int (0 : Int32)])) rfl ?_
      exact e_rI rfl rfl
    · refine e_L 2 (f' := (306, [(6, .int z4), (5, .int z2), (0, .ref t), (1, .int a1), (2, .int a2), (3, .int a3), (4, .ref a4)], [.int (1 : Int32)])) rfl ?_
      exact e_rI rfl rfl
  · refine e_L 2 (f' := (272, [(6, .int z4), (5, .int z2), (0, .ref t), (1, .int a1), (2, .int a2), (3, .int a3), (4, .ref a4)], [.int z4, .int z2])) rfl ?_
    refine e_icmp 279 rfl rfl rfl (fun c17 => ?_) (fun c17 => ?_)
    · refine e_L 1 (f' := (280, [(6, .int z4), (5, .int z2), (0, .ref t), (1, .int a1), (2, .int a2), (3, .int a3), (4, .ref a4)], [.int (0 : Int32)])) rfl ?_
      exact e_rI rfl rfl
    · refine e_L 2 (f' := (280, [(6, .int z4), (5, .int z2), (0, .ref t), (1, .int a1), (2, .int a2), (3, .int a3), (4, .ref a4)], [.int (1 : Int32)])) rfl ?_
      exact e_rI rfl rfl
  · refine e_L 2 (f' := (311, [(6, .int z4), (5, .int z2), (0, .ref t), (1, .int a1), (2, .int a2), (3, .int a3), (4, .ref a4)], [.int z4, .int z2])) rfl ?_
    refine e_icmp 318 rfl rfl rfl (fun c18 => ?_) (fun c18 => ?_)
    · refine e_L 1 (f' := (319, [(6, .int z4), (5, .int z2), (0, .ref t), (1, .int a1), (2, .int a2), (3, .int a3), (4, .ref a4)], [.int (0 : Int32)])) rfl ?_
      exact e_rI rfl rfl
    · refine e_L 2 (f' := (319, [(6, .int z4), (5, .int z2), (0, .ref t), (1, .int a1), (2, .int a2), (3, .int a3), (4, .ref a4)], [.int (1 : Int32)])) rfl ?_
      exact e_rI rfl rfl
set_option maxRecDepth 100000 in
set_option maxHeartbeats 4000000 in
theorem le_X7_clear (en : pN) (d : Nat) (t : Nat) (a1 : Int32) (a2 : Int32) (s : qS) : qle (gd (lc t = 7) (nm (uI s t 4 a1) (fun s1 => nm (uI s1 t 5 a2) (fun s2 => nm (uI s2 t 3 (0 : Int32)) (fun s3 => bV (qev en d 435 [.ref (lr t 2), .int (0 : Int32)] s3) (fun s5 => some (none, s5))))))) (qev en (d + 1) 146 [.ref t, .int a1, .int a2] s) := by
  refine e_enter ix_X7_clear (Nat.le_of_ble_eq_true rfl) ?_
  show qle _ (qE (qev en d) en none tb_X7_clear (0, [(0, .ref t), (1, .int a1), (2, .int a2)], []) s)
  refine qle_gd fun ht => ?_
  refine e_L 2 (f' := (2, [(0, .ref t), (1, .int a1), (2, .int a2)], [.int a1, .ref t])) rfl ?_
  refine e_pI 7 4 rfl rfl ht rfl ?_
  refine e_nS fun s1 => ?_
  refine e_L 2 (f' := (7, [(0, .ref t), (1, .int a1), (2, .int a2)], [.int a2, .ref t])) rfl ?_
  refine e_pI 7 5 rfl rfl ht rfl ?_
  refine e_nS fun s2 => ?_
  refine e_L 2 (f' := (12, [(0, .ref t), (1, .int a1), (2, .int a2)], [.int (0 : Int32), .ref t])) rfl ?_
  refine e_pI 7 3 rfl rfl ht rfl ?_
  refine e_nS fun s3 => ?_
  refine e_L 1 (f' := (16, [(0, .ref t), (1, .int a1), (2, .int a2)], [.ref t])) rfl ?_
  refine e_gR (q := (lr t 2)) 7 2 rfl rfl ht rfl ?_
  refine e_L 1 (f' := (20, [(0, .ref t), (1, .int a1), (2, .int a2)], [.int (0 : Int32), .ref (lr t 2)])) rfl ?_
  refine e_sV 435 rfl rfl rfl ix_J7_fill_53178 rfl (Nat.le_of_ble_eq_true rfl) (fun s5 e6 => ?_)
  exact e_rV rfl rfl
noncomputable def L_X7_placeOf_5 (en : pN) (d : Nat) (r0 : Nat) (r1 : Nat) (v2 : Int32) (v3 : Int64) (v5 : Int32) (s : qS) : Option qR := qE (qev en d) en (some .int) tb_X7_placeOf (5, [(0, .ref r0), (1, .ref r1), (2, .int v2), (3, .long v3), (5, .int v5)], []) s
noncomputable def L_X7_placeOf_58 (en : pN) (d : Nat) (r0 : Nat) (r1 : Nat) (v2 : Int32) (v5 : Int32) (v6 : Int32) (s : qS) : Option qR := qE (qev en d) en (some .int) tb_X7_placeOf (58, [(0, .ref r0), (1, .ref r1), (2, .int v2), (5, .int v5), (6, .int v6)], []) s
set_option maxRecDepth 100000 in
set_option maxHeartbeats 4000000 in
theorem le_X7_placeOf_5 (en : pN) (d : Nat) (r0 : Nat) (r1 : Nat) (v2 : Int32) (v3 : Int64) (v5 : Int32) (s : qS) : qle (gd (lc r0 = 7) (gd (lc r1 = 21) (if (s.1 r0 4) ≤ v5 then nm ((v3.toUInt64 >>> ((32 : Int32).toInt64.toUInt64 &&& Int64.toUInt64 63)).toInt64.toInt32 &&& ((Int32.ofNat (ln (lr r0 2))) - (1 : Int32))) (fun z2 => L_X7_placeOf_58 en d r0 r1 v2 z2 (0 : Int32) s) else gd (p_inB (v2 + v5) (ln r1) = true) (nm ((v3 ^^^ (s.2.1 r1 (v2 + v5).toNatClampNeg)) * (-7046029254386353131 : Int64)) (fun z4 => nm (z4 ^^^ (z4.toUInt64 >>> ((29 : Int32).toInt64.toUInt64 &&& Int64.toUInt64 63)).toInt64) (fun z5 => L_X7_placeOf_5 en d r0 r1 v2 z5 (v5 + (1 : Int32)) s)))))) (L_X7_placeOf_5 en d r0 r1 v2 v3 v5 s) := by
  show qle _ (qE (qev en d) en (some .int) tb_X7_placeOf (5, [(0, .ref r0), (1, .ref r1), (2, .int v2), (3, .long v3), (5, .int v5)], []) s)
  refine qle_gd fun h_r0 => ?_
  refine qle_gd fun h_r1 => ?_
  refine e_L 2 (f' := (8, [(0, .ref r0), (1, .ref r1), (2, .int v2), (3, .long v3), (5, .int v5)], [.ref r0, .int v5])) rfl ?_
  refine e_gI 7 4 rfl rfl h_r0 ?_
  refine e_icmp 40 rfl rfl rfl (fun c1 => ?_) (fun c1 => ?_)
  · refine e_L 5 (f' := (46, [(0, .ref r0), (1, .ref r1), (2, .int v2), (3, .long v3), (5, .int v5)], [.ref r0, .int (v3.toUInt64 >>> ((32 : Int32).toInt64.toUInt64 &&& Int64.toUInt64 63)).toInt64.toInt32])) rfl ?_
    refine e_gR (q := (lr r0 2)) 7 2 rfl rfl h_r0 rfl ?_
    refine e_alen (v := (Int32.ofNat (ln (lr r0 2)))) rfl (by rw [(fc_7_2 h_r0)]; decide) rfl ?_
    refine e_L 3 (f' := (53, [(0, .ref r0), (1, .ref r1), (2, .int v2), (3, .long v3), (5, .int v5)], [.int ((v3.toUInt64 >>> ((32 : Int32).toInt64.toUInt64 &&& Int64.toUInt64 63)).toInt64.toInt32 &&& ((Int32.ofNat (ln (lr r0 2))) - (1 : Int32)))])) rfl ?_
    refine e_nI fun z2 => ?_
    refine e_L 3 (f' := (58, [(6, .int (0 : Int32)), (5, .int z2), (0, .ref r0), (1, .ref r1), (2, .int v2), (3, .long v3)], [])) rfl ?_
    exact qE_sub (qsubL [2, 3, 4, 1, 0] rfl (ks := [6, 5, 0, 1, 2, 3]) rfl (by decide))
  · refine e_L 5 (f' := (20, [(0, .ref r0), (1, .ref r1), (2, .int v2), (3, .long v3), (5, .int v5)], [.int (v2 + v5), .ref r1, .long v3])) rfl ?_
    refine qle_gd fun h3 => ?_
    refine e_lal (n := (ln r1)) (k := (v2 + v5).toNatClampNeg) rfl h_r1 rfl h3 rfl ?_
    refine e_L 1 (f' := (22, [(0, .ref r0), (1, .ref r1), (2, .int v2), (3, .long v3), (5, .int v5)], [.long (v3 ^^^ (s.2.1 r1 (v2 + v5).toNatClampNeg))])) rfl ?_
    refine e_ldc2 (v := (-7046029254386353131 : Int64)) rfl (by decide +kernel) ?_
    refine e_L 1 (f' := (26, [(0, .ref r0), (1, .ref r1), (2, .int v2), (3, .long v3), (5, .int v5)], [.long ((v3 ^^^ (s.2.1 r1 (v2 + v5).toNatClampNeg)) * (-7046029254386353131 : Int64))])) rfl ?_
    refine e_nJ fun z4 => ?_
    refine e_L 6 (f' := (33, [(3, .long z4), (0, .ref r0), (1, .ref r1), (2, .int v2), (5, .int v5)], [.long (z4 ^^^ (z4.toUInt64 >>> ((29 : Int32).toInt64.toUInt64 &&& Int64.toUInt64 63)).toInt64)])) rfl ?_
    refine e_nJ fun z5 => ?_
    refine e_L 3 (f' := (5, [(5, .int (v5 + (1 : Int32))), (3, .long z5), (0, .ref r0), (1, .ref r1), (2, .int v2)], [])) rfl ?_
    exact qE_sub (qsubL [2, 3, 4, 1, 0] rfl (ks := [5, 3, 0, 1, 2]) rfl (by decide))
set_option maxRecDepth 100000 in
set_option maxHeartbeats 4000000 in
theorem le_X7_placeOf_58 (en : pN) (d : Nat) (r0 : Nat) (r1 : Nat) (v2 : Int32) (v5 : Int32) (v6 : Int32) (s : qS) : qle (gd (lc r0 = 7) (gd (lc r1 = 21) (if (Int32.ofNat (ln (lr r0 2))) ≤ v6 then some (some (.int v5), s) else gd (p_inB v5 (ln (lr r0 2)) = true) (if (s.1 (lr r0 2) v5.toNatClampNeg) = (0 : Int32) then some (some (.int v5), s) else gd (p_inB ((s.1 (lr r0 2) v5.toNatClampNeg) - (1 : Int32)) (ln (lr r0 1)) = true) (bI (qev en d 148 [.ref r0, .ref r1, .int v2, .int (s.1 (lr r0 1) ((s.1 (lr r0 2) v5.toNatClampNeg) - (1 : Int32)).toNatClampNeg)] s) (fun w5 s6 => if w5 = (0 : Int32) then nm ((v5 + (1 : Int32)) &&& ((Int32.ofNat (ln (lr r0 2))) - (1 : Int32))) (fun z9 => L_X7_placeOf_58 en d r0 r1 v2 z9 (v6 + (1 : Int32)) s6) else some (some (.int v5), s6))))))) (L_X7_placeOf_58 en d r0 r1 v2 v5 v6 s) := by
  show qle _ (qE (qev en d) en (some .int) tb_X7_placeOf (58, [(0, .ref r0), (1, .ref r1), (2, .int v2), (5, .int v5), (6, .int v6)], []) s)
  refine qle_gd fun h_r0 => ?_
  refine qle_gd fun h_r1 => ?_
  refine e_L 2 (f' := (61, [(0, .ref r0), (1, .ref r1), (2, .int v2), (5, .int v5), (6, .int v6)], [.ref r0, .int v6])) rfl ?_
  refine e_gR (q := (lr r0 2)) 7 2 rfl rfl h_r0 rfl ?_
  refine e_alen (v := (Int32.ofNat (ln (lr r0 2)))) rfl (by rw [(fc_7_2 h_r0)]; decide) rfl ?_
  refine e_icmp 124 rfl rfl rfl (fun c1 => ?_) (fun c1 => ?_)
  · refine e_L 1 (f' := (126, [(0, .ref r0), (1, .ref r1), (2, .int v2), (5, .int v5), (6, .int v6)], [.int v5])) rfl ?_
    exact e_rI rfl rfl
  · refine e_L 1 (f' := (69, [(0, .ref r0), (1, .ref r1), (2, .int v2), (5, .int v5), (6, .int v6)], [.ref r0])) rfl ?_
    refine e_gR (q := (lr r0 2)) 7 2 rfl rfl h_r0 rfl ?_
    refine e_L 1 (f' := (74, [(0, .ref r0), (1, .ref r1), (2, .int v2), (5, .int v5), (6, .int v6)], [.int v5, .ref (lr r0 2)])) rfl ?_
    refine qle_gd fun h2 => ?_
    refine e_ial (n := (ln (lr r0 2))) (k := v5.toNatClampNeg) rfl (fc_7_2 h_r0) rfl h2 rfl ?_
    refine e_ifz 101 rfl rfl rfl (fun c3 => ?_) (fun c3 => ?_)
    · refine e_L 1 (f' := (103, [(0, .ref r0), (1, .ref r1), (2, .int v2), (5, .int v5), (6, .int v6)], [.int v5])) rfl ?_
      exact e_rI rfl rfl
    · refine e_L 4 (f' := (82, [(0, .ref r0), (1, .ref r1), (2, .int v2), (5, .int v5), (6, .int v6)], [.ref r0, .int v2, .ref r1, .ref r0])) rfl ?_
      refine e_gR (q := (lr r0 1)) 7 1 rfl rfl h_r0 rfl ?_
      refine e_L 1 (f' := (86, [(0, .ref r0), (1, .ref r1), (2, .int v2), (5, .int v5), (6, .int v6)], [.ref r0, .ref (lr r0 1), .int v2, .ref r1, .ref r0])) rfl ?_
      refine e_gR (q := (lr r0 2)) 7 2 rfl rfl h_r0 rfl ?_
      refine e_L 1 (f' := (91, [(0, .ref r0), (1, .ref r1), (2, .int v2), (5, .int v5), (6, .int v6)], [.int v5, .ref (lr r0 2), .ref (lr r0 1), .int v2, .ref r1, .ref r0])) rfl ?_
      refine e_ial (n := (ln (lr r0 2))) (k := v5.toNatClampNeg) rfl (fc_7_2 h_r0) rfl h2 rfl ?_
      refine e_L 2 (f' := (94, [(0, .ref r0), (1, .ref r1), (2, .int v2), (5, .int v5), (6, .int v6)], [.int ((s.1 (lr r0 2) v5.toNatClampNeg) - (1 : Int32)), .ref (lr r0 1), .int v2, .ref r1, .ref r0])) rfl ?_
      refine qle_gd fun h4 => ?_
      refine e_ial (n := (ln (lr r0 1))) (k := ((s.1 (lr r0 2) v5.toNatClampNeg) - (1 : Int32)).toNatClampNeg) rfl (fc_7_1 h_r0) rfl h4 rfl ?_
      refine e_vI 148 rfl rfl ix_X7_isSame rfl (q_recvOf h_r0 rfl) (Nat.le_of_ble_eq_true rfl) (fun w5 s6 e7 => ?_)
      refine e_ifz 104 rfl rfl rfl (fun c8 => ?_) (fun c8 => ?_)
      · refine e_L 4 (f' := (109, [(0, .ref r0), (1, .ref r1), (2, .int v2), (5, .int v5), (6, .int v6)], [.ref r0, .int (v5 + (1 : Int32))])) rfl ?_
        refine e_gR (q := (lr r0 2)) 7 2 rfl rfl h_r0 rfl ?_
        refine e_alen (v := (Int32.ofNat (ln (lr r0 2)))) rfl (by rw [(fc_7_2 h_r0)]; decide) rfl ?_
        refine e_L 3 (f' := (116, [(0, .ref r0), (1, .ref r1), (2, .int v2), (5, .int v5), (6, .int v6)], [.int ((v5 + (1 : Int32)) &&& ((Int32.ofNat (ln (lr r0 2))) - (1 : Int32)))])) rfl ?_
        refine e_nI fun z9 => ?_
        refine e_L 3 (f' := (58, [(6, .int (v6 + (1 : Int32))), (5, .int z9), (0, .ref r0), (1, .ref r1), (2, .int v2)], [])) rfl ?_
        exact qE_sub (qsubL [2, 3, 4, 1, 0] rfl (ks := [6, 5, 0, 1, 2]) rfl (by decide))
      · refine e_L 1 (f' := (103, [(0, .ref r0), (1, .ref r1), (2, .int v2), (5, .int v5), (6, .int v6)], [.int v5])) rfl ?_
        exact e_rI rfl rfl
set_option maxRecDepth 100000 in
set_option maxHeartbeats 4000000 in
theorem le_X7_placeOf (en : pN) (d : Nat) (t : Nat) (a1 : Nat) (a2 : Int32) (s : qS) : qle (gd (lc t = 7) (gd (lc a1 = 21) (L_X7_placeOf_5 en d t a1 a2 (0 : Int64) (0 : Int32) s))) (qev en (d + 1) 147 [.ref t, .ref a1, .int a2] s) := by
  refine e_enter ix_X7_placeOf (Nat.le_of_ble_eq_true rfl) ?_
  show qle _ (qE (qev en d) en (some .int) tb_X7_placeOf (0, [(0, .ref t), (1, .ref a1), (2, .int a2)], []) s)
  refine qle_gd fun ht => ?_
  refine qle_gd fun h_a1 => ?_
  refine e_L 4 (f' := (5, [(5, .int (0 : Int32)), (3, .long (0 : Int64)), (0, .ref t), (1, .ref a1), (2, .int a2)], [])) rfl ?_
  exact qE_sub (qsubL [2, 3, 4, 1, 0] rfl (ks := [5, 3, 0, 1, 2]) rfl (by decide))
noncomputable def L_X7_isSame_3 (en : pN) (d : Nat) (r0 : Nat) (r1 : Nat) (v2 : Int32) (v3 : Int32) (v4 : Int32) (s : qS) : Option qR := qE (qev en d) en (some .boolean) tb_X7_isSame (3, [(0, .ref r0), (1, .ref r1), (2, .int v2), (3, .int v3), (4, .int v4)], []) s
set_option maxRecDepth 100000 in
set_option maxHeartbeats 4000000 in
theorem le_X7_isSame_3 (en : pN) (d : Nat) (r0 : Nat) (r1 : Nat) (v2 : Int32) (v3 : Int32) (v4 : Int32) (s : qS) : qle (gd (lc r0 = 7) (gd (lc r1 = 21) (if (s.1 r0 4) ≤ v4 then some (some (.int (1 : Int32)), s) else gd (p_inB (v2 + v4) (ln r1) = true) (gd (p_inB (v3 + v4) (ln (lr r0 0)) = true) (if (lg_cmp (s.2.1 r1 (v2 + v4).toNatClampNeg) (s.2.1 (lr r0 0) (v3 + v4).toNatClampNeg)) = (0 : Int32) then L_X7_isSame_3 en d r0 r1 v2 v3 (v4 + (1 : Int32)) s else some (some (.int (0 : Int32)), s)))))) (L_X7_isSame_3 en d r0 r1 v2 v3 v4 s) := by
  show qle _ (qE (qev en d) en (some .boolean) tb_X7_isSame (3, [(0, .ref r0), (1, .ref r1), (2, .int v2), (3, .int v3), (4, .int v4)], []) s)
  refine qle_gd fun h_r0 => ?_
  refine qle_gd fun h_r1 => ?_
  refine e_L 2 (f' := (6, [(0, .ref r0), (1, .ref r1), (2, .int v2), (3, .int v3), (4, .int v4)], [.ref r0, .int v4])) rfl ?_
  refine e_gI 7 4 rfl rfl h_r0 ?_
  refine e_icmp 39 rfl rfl rfl (fun c1 => ?_) (fun c1 => ?_)
  · refine e_L 1 (f' := (40, [(0, .ref r0), (1, .ref r1), (2, .int v2), (3, .int v3), (4, .int v4)], [.int (1 : Int32)])) rfl ?_
    exact e_rZ rfl rfl (by decide)
  · refine e_L 4 (f' := (17, [(0, .ref r0), (1, .ref r1), (2, .int v2), (3, .int v3), (4, .int v4)], [.int (v2 + v4), .ref r1])) rfl ?_
    refine qle_gd fun h2 => ?_
    refine e_lal (n := (ln r1)) (k := (v2 + v4).toNatClampNeg) rfl h_r1 rfl h2 rfl ?_
    refine e_L 1 (f' := (19, [(0, .ref r0), (1, .ref r1), (2, .int v2), (3, .int v3), (4, .int v4)], [.ref r0, .long (s.2.1 r1 (v2 + v4).toNatClampNeg)])) rfl ?_
    refine e_gR (q := (lr r0 0)) 7 0 rfl rfl h_r0 rfl ?_
    refine e_L 3 (f' := (26, [(0, .ref r0), (1, .ref r1), (2, .int v2), (3, .int v3), (4, .int v4)], [.int (v3 + v4), .ref (lr r0 0), .long (s.2.1 r1 (v2 + v4).toNatClampNeg)])) rfl ?_
    refine qle_gd fun h3 => ?_
    refine e_lal (n := (ln (lr r0 0))) (k := (v3 + v4).toNatClampNeg) rfl (fc_7_0 h_r0) rfl h3 rfl ?_
    refine e_L 1 (f' := (28, [(0, .ref r0), (1, .ref r1), (2, .int v2), (3, .int v3), (4, .int v4)], [.int (lg_cmp (s.2.1 r1 (v2 + v4).toNatClampNeg) (s.2.1 (lr r0 0) (v3 + v4).toNatClampNeg))])) rfl ?_
    refine e_ifz 33 rfl rfl rfl (fun c4 => ?_) (fun c4 => ?_)
    · refine e_L 2 (f' := (3, [(4, .int (v4 + (1 : Int32))), (0, .ref r0), (1, .ref r1), (2, .int v2), (3, .int v3)], [])) rfl ?_
      exact qE_sub (qsubL [1, 2, 3, 4, 0] rfl (ks := [4, 0, 1, 2, 3]) rfl (by decide))
    · refine e_L 1 (f' := (32, [(0, .ref r0), (1, .ref r1), (2, .int v2), (3, .int v3), (4, .int v4)], [.int (0 : Int32)])) rfl ?_
      exact e_rZ rfl rfl (by decide)
set_option maxRecDepth 100000 in
set_option maxHeartbeats 4000000 in
theorem le_X7_isSame (en : pN) (d : Nat) (t : Nat) (a1 : Nat) (a2 : Int32) (a3 : Int32) (s : qS) : qle (gd (lc t = 7) (gd (lc a1 = 21) (L_X7_isSame_3 en d t a1 a2 a3 (0 : Int32) s))) (qev en (d + 1) 148 [.ref t, .ref a1, .int a2, .int a3] s) := by
  refine e_enter ix_X7_isSame (Nat.le_of_ble_eq_true rfl) ?_
  show qle _ (qE (qev en d) en (some .boolean) tb_X7_isSame (0, [(0, .ref t), (1, .ref a1), (2, .int a2), (3, .int a3)], []) s)
  refine qle_gd fun ht => ?_
  refine qle_gd fun h_a1 => ?_
  refine e_L 2 (f' := (3, [(4, .int (0 : Int32)), (0, .ref t), (1, .ref a1), (2, .int a2), (3, .int a3)], [])) rfl ?_
  exact qE_sub (qsubL [1, 2, 3, 4, 0] rfl (ks := [4, 0, 1, 2, 3]) rfl (by decide))
set_option maxRecDepth 100000 in
set_option maxHeartbeats 4000000 in
theorem le_X7_numberOf (en : pN) (d : Nat) (t : Nat) (a1 : Nat) (a2 : Int32) (s : qS) : qle (gd (lc t = 7) (gd (lc a1 = 21) (bI (qev en d 147 [.ref t, .ref a1, .int a2] s) (fun w1 s2 => gd (p_inB w1 (ln (lr t 2)) = true) (some (some (.int ((s2.1 (lr t 2) w1.toNatClampNeg) - (1 : Int32))), s2)))))) (qev en (d + 1) 149 [.ref t, .ref a1, .int a2] s) := by
  refine e_enter ix_X7_numberOf (Nat.le_of_ble_eq_true rfl) ?_
  show qle _ (qE (qev en d) en (some .int) tb_X7_numberOf (0, [(0, .ref t), (1, .ref a1), (2, .int a2)], []) s)
  refine qle_gd fun ht => ?_
  refine qle_gd fun h_a1 => ?_
  refine e_L 1 (f' := (1, [(0, .ref t), (1, .ref a1), (2, .int a2)], [.ref t])) rfl ?_
  refine e_gR (q := (lr t 2)) 7 2 rfl rfl ht rfl ?_
  refine e_L 3 (f' := (7, [(0, .ref t), (1, .ref a1), (2, .int a2)], [.int a2, .ref a1, .ref t, .ref (lr t 2)])) rfl ?_
  refine e_vI 147 rfl rfl ix_X7_placeOf rfl (q_recvOf ht rfl) (Nat.le_of_ble_eq_true rfl) (fun w1 s2 e3 => ?_)
  refine qle_gd fun h4 => ?_
  refine e_ial (n := (ln (lr t 2))) (k := w1.toNatClampNeg) rfl (fc_7_2 ht) rfl h4 rfl ?_
  refine e_L 2 (f' := (13, [(0, .ref t), (1, .ref a1), (2, .int a2)], [.int ((s2.1 (lr t 2) w1.toNatClampNeg) - (1 : Int32))])) rfl ?_
  exact e_rI rfl rfl
noncomputable def L_X7_put_65 (en : pN) (d : Nat) (r0 : Nat) (v3 : Int32) (s : qS) : Option qR := qE (qev en d) en (some .int) tb_X7_put (65, [(0, .ref r0), (3, .int v3)], []) s
set_option maxRecDepth 100000 in
set_option maxHeartbeats 4000000 in
theorem le_X7_put_65 (en : pN) (d : Nat) (r0 : Nat) (v3 : Int32) (s : qS) : qle (gd (lc r0 = 7) (gd (p_inB v3 (ln (lr r0 2)) = true) (some (some (.int ((s.1 (lr r0 2) v3.toNatClampNeg) - (1 : Int32))), s)))) (L_X7_put_65 en d r0 v3 s) := by
  show qle _ (qE (qev en d) en (some .int) tb_X7_put (65, [(0, .ref r0), (3, .int v3)], []) s)
  refine qle_gd fun h_r0 => ?_
  refine e_L 1 (f' := (66, [(0, .ref r0), (3, .int v3)], [.ref r0])) rfl ?_
  refine e_gR (q := (lr r0 2)) 7 2 rfl rfl h_r0 rfl ?_
  refine e_L 1 (f' := (70, [(0, .ref r0), (3, .int v3)], [.int v3, .ref (lr r0 2)])) rfl ?_
  refine qle_gd fun h1 => ?_
  refine e_ial (n := (ln (lr r0 2))) (k := v3.toNatClampNeg) rfl (fc_7_2 h_r0) rfl h1 rfl ?_
  refine e_L 2 (f' := (73, [(0, .ref r0), (3, .int v3)], [.int ((s.1 (lr r0 2) v3.toNatClampNeg) - (1 : Int32))])) rfl ?_
  exact e_rI rfl rfl
set_option maxRecDepth 100000 in
set_option maxHeartbeats 4000000 in
theorem le_X7_put (en : pN) (d : Nat) (t : Nat) (a1 : Nat) (a2 : Int32) (s : qS) : qle (gd (lc t = 7) (gd (lc a1 = 21) (bI (qev en d 147 [.ref t, .ref a1, .int a2] s) (fun w1 s2 => gd (p_inB w1 (ln (lr t 2)) = true) (if ¬ (s2.1 (lr t 2) w1.toNatClampNeg) = (0 : Int32) then L_X7_put_65 en d t w1 s2 else if (s2.1 t 3) < (s2.1 t 5) then gd (cpG a2 ((s2.1 t 3) * (s2.1 t 4)) (s2.1 t 4) (ln a1) (ln (lr t 0))) (nm (uJr s2 (lr t 0) (va_cpy (s2.2.1 a1) (s2.2.1 (lr t 0)) a2.toNatClampNeg ((s2.1 t 3) * (s2.1 t 4)).toNatClampNeg (s2.1 t 4).toNatClampNeg)) (fun s8 => bV (qev en d 152 [.ref t, .int w1, .int ((s8.1 t 3) * (s8.1 t 4))] s8) (fun s10 => L_X7_put_65 en d t w1 s10))) else some (some (.int (-1 : Int32)), s2)))))) (qev en (d + 1) 150 [.ref t, .ref a1, .int a2] s) := by
  refine e_enter ix_X7_put (Nat.le_of_ble_eq_true rfl) ?_
  show qle _ (qE (qev en d) en (some .int) tb_X7_put (0, [(0, .ref t), (1, .ref a1), (2, .int a2)], []) s)
  refine qle_gd fun ht => ?_
  refine qle_gd fun h_a1 => ?_
  refine e_L 3 (f' := (3, [(0, .ref t), (1, .ref a1), (2, .int a2)], [.int a2, .ref a1, .ref t])) rfl ?_
  refine e_vI 147 rfl rfl ix_X7_placeOf rfl (q_recvOf ht rfl) (Nat.le_of_ble_eq_true rfl) (fun w1 s2 e3 => ?_)
  refine e_L 2 (f' := (8, [(3, .int w1), (0, .ref t), (1, .ref a1), (2, .int a2)], [.ref t])) rfl ?_
  refine e_gR (q := (lr t 2)) 7 2 rfl rfl ht rfl ?_
  refine e_L 1 (f' := (12, [(3, .int w1), (0, .ref t), (1, .ref a1), (2, .int a2)], [.int w1, .ref (lr t 2)])) rfl ?_
  refine qle_gd fun h4 => ?_
  refine e_ial (n := (ln (lr t 2))) (k := w1.toNatClampNeg) rfl (fc_7_2 ht) rfl h4 rfl ?_
  refine e_ifz 65 rfl rfl rfl (fun c5 => ?_) (fun c5 => ?_)
  · exact qE_sub (qsubL [1, 0] rfl (ks := [3, 0, 1, 2]) rfl (by decide))
  · refine e_L 1 (f' := (17, [(3, .int w1), (0, .ref t), (1, .ref a1), (2, .int a2)], [.ref t])) rfl ?_
    refine e_gI 7 3 rfl rfl ht ?_
    refine e_L 1 (f' := (21, [(3, .int w1), (0, .ref t), (1, .ref a1), (2, .int a2)], [.ref t, .int (s2.1 t 3)])) rfl ?_
    refine e_gI 7 5 rfl rfl ht ?_
    refine e_icmp 29 rfl rfl rfl (fun c6 => ?_) (fun c6 => ?_)
    · refine e_L 3 (f' := (32, [(3, .int w1), (0, .ref t), (1, .ref a1), (2, .int a2)], [.ref t, .int a2, .ref a1])) rfl ?_
      refine e_gR (q := (lr t 0)) 7 0 rfl rfl ht rfl ?_
      refine e_L 1 (f' := (36, [(3, .int w1), (0, .ref t), (1, .ref a1), (2, .int a2)], [.ref t, .ref (lr t 0), .int a2, .ref a1])) rfl ?_
      refine e_gI 7 3 rfl rfl ht ?_
      refine e_L 1 (f' := (40, [(3, .int w1), (0, .ref t), (1, .ref a1), (2, .int a2)], [.ref t, .int (s2.1 t 3), .ref (lr t 0), .int a2, .ref a1])) rfl ?_
      refine e_gI 7 4 rfl rfl ht ?_
      refine e_L 2 (f' := (45, [(3, .int w1), (0, .ref t), (1, .ref a1), (2, .int a2)], [.ref t, .int ((s2.1 t 3) * (s2.1 t 4)), .ref (lr t 0), .int a2, .ref a1])) rfl ?_
      refine e_gI 7 4 rfl rfl ht ?_
      refine qle_gd fun h7 => ?_
      refine e_cpJ (n0 := (ln a1)) (n1 := (ln (lr t 0))) rfl rfl (Nat.le_of_ble_eq_true rfl) ⟨h_a1, (fc_7_0 ht)⟩ rfl rfl h7 ?_
      refine e_nS fun s8 => ?_
      refine e_L 3 (f' := (54, [(3, .int w1), (0, .ref t), (1, .ref a1), (2, .int a2)], [.ref t, .int w1, .ref t])) rfl ?_
      refine e_gI 7 3 rfl rfl ht ?_
      refine e_L 1 (f' := (58, [(3, .int w1), (0, .ref t), (1, .ref a1), (2, .int a2)], [.ref t, .int (s8.1 t 3), .int w1, .ref t])) rfl ?_
      refine e_gI 7 4 rfl rfl ht ?_
      refine e_L 1 (f' := (62, [(3, .int w1), (0, .ref t), (1, .ref a1), (2, .int a2)], [.int ((s8.1 t 3) * (s8.1 t 4)), .int w1, .ref t])) rfl ?_
      refine e_vV 152 rfl rfl ix_X7_name rfl (q_recvOf ht rfl) (Nat.le_of_ble_eq_true rfl) (fun s10 e11 => ?_)
      exact qE_sub (qsubL [1, 0] rfl (ks := [3, 0, 1, 2]) rfl (by decide))
    · refine e_L 1 (f' := (28, [(3, .int w1), (0, .ref t), (1, .ref a1), (2, .int a2)], [.int (-1 : Int32)])) rfl ?_
      exact e_rI rfl rfl
noncomputable def L_X7_refer_25 (en : pN) (d : Nat) (r0 : Nat) (v2 : Int32) (s : qS) : Option qR := qE (qev en d) en (some .int) tb_X7_refer (25, [(0, .ref r0), (2, .int v2)], []) s
set_option maxRecDepth 100000 in
set_option maxHeartbeats 4000000 in
theorem le_X7_refer_25 (en : pN) (d : Nat) (r0 : Nat) (v2 : Int32) (s : qS) : qle (gd (lc r0 = 7) (gd (p_inB v2 (ln (lr r0 2)) = true) (some (some (.int ((s.1 (lr r0 2) v2.toNatClampNeg) - (1 : Int32))), s)))) (L_X7_refer_25 en d r0 v2 s) := by
  show qle _ (qE (qev en d) en (some .int) tb_X7_refer (25, [(0, .ref r0), (2, .int v2)], []) s)
  refine qle_gd fun h_r0 => ?_
  refine e_L 1 (f' := (26, [(0, .ref r0), (2, .int v2)], [.ref r0])) rfl ?_
  refine e_gR (q := (lr r0 2)) 7 2 rfl rfl h_r0 rfl ?_
  refine e_L 1 (f' := (30, [(0, .ref r0), (2, .int v2)], [.int v2, .ref (lr r0 2)])) rfl ?_
  refine qle_gd fun h1 => ?_
  refine e_ial (n := (ln (lr r0 2))) (k := v2.toNatClampNeg) rfl (fc_7_2 h_r0) rfl h1 rfl ?_
  refine e_L 2 (f' := (33, [(0, .ref r0), (2, .int v2)], [.int ((s.1 (lr r0 2) v2.toNatClampNeg) - (1 : Int32))])) rfl ?_
  exact e_rI rfl rfl
set_option maxRecDepth 100000 in
set_option maxHeartbeats 4000000 in
theorem le_X7_refer (en : pN) (d : Nat) (t : Nat) (a1 : Int32) (s : qS) : qle (gd (lc t = 7) (bI (qev en d 147 [.ref t, .ref (lr t 0), .int a1] s) (fun w1 s2 => gd (p_inB w1 (ln (lr t 2)) = true) (if ¬ (s2.1 (lr t 2) w1.toNatClampNeg) = (0 : Int32) then L_X7_refer_25 en d t w1 s2 else bV (qev en d 152 [.ref t, .int w1, .int a1] s2) (fun s7 => L_X7_refer_25 en d t w1 s7))))) (qev en (d + 1) 151 [.ref t, .int a1] s) := by
  refine e_enter ix_X7_refer (Nat.le_of_ble_eq_true rfl) ?_
  show qle _ (qE (qev en d) en (some .int) tb_X7_refer (0, [(0, .ref t), (1, .int a1)], []) s)
  refine qle_gd fun ht => ?_
  refine e_L 2 (f' := (2, [(0, .ref t), (1, .int a1)], [.ref t, .ref t])) rfl ?_
  refine e_gR (q := (lr t 0)) 7 0 rfl rfl ht rfl ?_
  refine e_L 1 (f' := (6, [(0, .ref t), (1, .int a1)], [.int a1, .ref (lr t 0), .ref t])) rfl ?_
  refine e_vI 147 rfl rfl ix_X7_placeOf rfl (q_recvOf ht rfl) (Nat.le_of_ble_eq_true rfl) (fun w1 s2 e3 => ?_)
  refine e_L 2 (f' := (11, [(2, .int w1), (0, .ref t), (1, .int a1)], [.ref t])) rfl ?_
  refine e_gR (q := (lr t 2)) 7 2 rfl rfl ht rfl ?_
  refine e_L 1 (f' := (15, [(2, .int w1), (0, .ref t), (1, .int a1)], [.int w1, .ref (lr t 2)])) rfl ?_
  refine qle_gd fun h4 => ?_
  refine e_ial (n := (ln (lr t 2))) (k := w1.toNatClampNeg) rfl (fc_7_2 ht) rfl h4 rfl ?_
  refine e_ifz 25 rfl rfl rfl (fun c5 => ?_) (fun c5 => ?_)
  · exact qE_sub (qsubL [1, 0] rfl (ks := [2, 0, 1]) rfl (by decide))
  · refine e_L 3 (f' := (22, [(2, .int w1), (0, .ref t), (1, .int a1)], [.int a1, .int w1, .ref t])) rfl ?_
    refine e_vV 152 rfl rfl ix_X7_name rfl (q_recvOf ht rfl) (Nat.le_of_ble_eq_true rfl) (fun s7 e8 => ?_)
    exact qE_sub (qsubL [1, 0] rfl (ks := [2, 0, 1]) rfl (by decide))
set_option maxRecDepth 100000 in
set_option maxHeartbeats 4000000 in
theorem le_X7_name (en : pN) (d : Nat) (t : Nat) (a1 : Int32) (a2 : Int32) (s : qS) : qle (gd (lc t = 7) (gd (p_inB (s.1 t 3) (ln (lr t 1)) = true) (nm (uI s (lr t 1) ((s.1 t 3).toNatClampNeg) a2) (fun s2 => nm (uI s2 t 3 ((s2.1 t 3) + (1 : Int32))) (fun s3 => gd (p_inB a1 (ln (lr t 2)) = true) (nm (uI s3 (lr t 2) (a1.toNatClampNeg) (s3.1 t 3)) (fun s5 => some (none, s5)))))))) (qev en (d + 1) 152 [.ref t, .int a1, .int a2] s) := by
  refine e_enter ix_X7_name (Nat.le_of_ble_eq_true rfl) ?_
  show qle _ (qE (qev en d) en none tb_X7_name (0, [(0, .ref t), (1, .int a1), (2, .int a2)], []) s)
  refine qle_gd fun ht => ?_
  refine e_L 1 (f' := (1, [(0, .ref t), (1, .int a1), (2, .int a2)], [.ref t])) rfl ?_
  refine e_gR (q := (lr t 1)) 7 1 rfl rfl ht rfl ?_
  refine e_L 1 (f' := (5, [(0, .ref t), (1, .int a1), (2, .int a2)], [.ref t, .ref (lr t 1)])) rfl ?_
  refine e_gI 7 3 rfl rfl ht ?_
  refine e_L 1 (f' := (9, [(0, .ref t), (1, .int a1), (2, .int a2)], [.int a2, .int (s.1 t 3), .ref (lr t 1)])) rfl ?_
  refine qle_gd fun h1 => ?_
  refine e_ias (n := (ln (lr t 1))) (k := (s.1 t 3).toNatClampNeg) rfl (fc_7_1 ht) rfl h1 rfl ?_
  refine e_nS fun s2 => ?_
  refine e_L 2 (f' := (12, [(0, .ref t), (1, .int a1), (2, .int a2)], [.ref t, .ref t])) rfl ?_
  refine e_gI 7 3 rfl rfl ht ?_
  refine e_L 2 (f' := (17, [(0, .ref t), (1, .int a1), (2, .int a2)], [.int ((s2.1 t 3) + (1 : Int32)), .ref t])) rfl ?_
  refine e_pI 7 3 rfl rfl ht rfl ?_
  refine e_nS fun s3 => ?_
  refine e_L 1 (f' := (21, [(0, .ref t), (1, .int a1), (2, .int a2)], [.ref t])) rfl ?_
  refine e_gR (q := (lr t 2)) 7 2 rfl rfl ht rfl ?_
  refine e_L 2 (f' := (26, [(0, .ref t), (1, .int a1), (2, .int a2)], [.ref t, .int a1, .ref (lr t 2)])) rfl ?_
  refine e_gI 7 3 rfl rfl ht ?_
  refine qle_gd fun h4 => ?_
  refine e_ias (n := (ln (lr t 2))) (k := a1.toNatClampNeg) rfl (fc_7_2 ht) rfl h4 rfl ?_
  refine e_nS fun s5 => ?_
  exact e_rV rfl rfl
noncomputable def L_X9_append_3 (en : pN) (d : Nat) (v1 : Int32) (v2 : Int32) (s : qS) : Option qR := qE (qev en d) en none tb_X9_append (3, [(0, .ref 1), (1, .int v1), (2, .int v2)], []) s
set_option maxRecDepth 100000 in
set_option maxHeartbeats 4000000 in
theorem le_X9_append_3 (en : pN) (d : Nat) (v1 : Int32) (v2 : Int32) (s : qS) : qle (if v2 < (0 : Int32) then some (none, s) else if (4000 : Int32) ≤ (s.1 1 5) then some (none, s) else gd (p_inB (s.1 1 5) 4000 = true) (nm (uI s 2 ((s.1 1 5).toNatClampNeg) (vp_nar .byte (v1 >>> (v2 &&& 31)).toInt8.toInt32)) (fun s4 => nm (uI s4 1 5 ((s4.1 1 5) + (1 : Int32))) (fun s5 => L_X9_append_3 en d v1 (v2 + (-8 : Int32)) s5)))) (L_X9_append_3 en d v1 v2 s) := by
  show qle _ (qE (qev en d) en none tb_X9_append (3, [(0, .ref 1), (1, .int v1), (2, .int v2)], []) s)
  refine e_L 1 (f' := (4, [(0, .ref 1), (1, .int v1), (2, .int v2)], [.int v2])) rfl ?_
  refine e_ifz 46 rfl rfl rfl (fun c1 => ?_) (fun c1 => ?_)
  · exact e_rV rfl rfl
  · refine e_L 1 (f' := (8, [(0, .ref 1), (1, .int v1), (2, .int v2)], [.ref 1])) rfl ?_
    refine e_gI 9 5 rfl rfl lc_1 ?_
    refine e_L 1 (f' := (14, [(0, .ref 1), (1, .int v1), (2, .int v2)], [.int (4000 : Int32), .int (s.1 1 5)])) rfl ?_
    refine e_icmp 46 rfl rfl rfl (fun c2 => ?_) (fun c2 => ?_)
    · exact e_rV rfl rfl
    · refine e_L 1 (f' := (18, [(0, .ref 1), (1, .int v1), (2, .int v2)], [.ref 1])) rfl ?_
      refine e_gR (q := 2) 9 0 rfl rfl lc_1 lr_1_0 ?_
      refine e_L 1 (f' := (22, [(0, .ref 1), (1, .int v1), (2, .int v2)], [.ref 1, .ref 2])) rfl ?_
      refine e_gI 9 5 rfl rfl lc_1 ?_
      refine e_L 4 (f' := (29, [(0, .ref 1), (1, .int v1), (2, .int v2)], [.int (v1 >>> (v2 &&& 31)).toInt8.toInt32, .int (s.1 1 5), .ref 2])) rfl ?_
      refine qle_gd fun h3 => ?_
      refine e_bas3 (n := 4000) (k := (s.1 1 5).toNatClampNeg) rfl lc_2 ln_2 h3 rfl ?_
      refine e_nS fun s4 => ?_
      refine e_L 2 (f' := (32, [(0, .ref 1), (1, .int v1), (2, .int v2)], [.ref 1, .ref 1])) rfl ?_
      refine e_gI 9 5 rfl rfl lc_1 ?_
      refine e_L 2 (f' := (37, [(0, .ref 1), (1, .int v1), (2, .int v2)], [.int ((s4.1 1 5) + (1 : Int32)), .ref 1])) rfl ?_
      refine e_pI 9 5 rfl rfl lc_1 rfl ?_
      refine e_nS fun s5 => ?_
      refine e_L 2 (f' := (3, [(2, .int (v2 + (-8 : Int32))), (0, .ref 1), (1, .int v1)], [])) rfl ?_
      exact qE_sub (qsubL [1, 2, 0] rfl (ks := [2, 0, 1]) rfl (by decide))
set_option maxRecDepth 100000 in
set_option maxHeartbeats 4000000 in
theorem le_X9_append (en : pN) (d : Nat) (a1 : Int32) (s : qS) : qle (L_X9_append_3 en d a1 (24 : Int32) s) (qev en (d + 1) 165 [.ref 1, .int a1] s) := by
  refine e_enter ix_X9_append (Nat.le_of_ble_eq_true rfl) ?_
  show qle _ (qE (qev en d) en none tb_X9_append (0, [(0, .ref 1), (1, .int a1)], []) s)
  refine e_L 2 (f' := (3, [(2, .int (24 : Int32)), (0, .ref 1), (1, .int a1)], [])) rfl ?_
  exact qE_sub (qsubL [1, 2, 0] rfl (ks := [2, 0, 1]) rfl (by decide))
noncomputable def L_X9_cut_17 (en : pN) (d : Nat) (v1 : Int32) (s : qS) : Option qR := qE (qev en d) en none tb_X9_cut (17, [(0, .ref 1), (1, .int v1)], []) s
noncomputable def L_X9_cut_115 (en : pN) (d : Nat) (s : qS) : Option qR := qE (qev en d) en none tb_X9_cut (115, [(0, .ref 1)], []) s
set_option maxRecDepth 100000 in
set_option maxHeartbeats 4000000 in
theorem le_X9_cut_17 (en : pN) (d : Nat) (v1 : Int32) (s : qS) : qle (if (4000 : Int32) < v1 then L_X9_cut_115 en d s else if (s.1 1 9) = (0 : Int32) then L_X9_cut_115 en d s else if (s.1 1 9) = (1 : Int32) then L_X9_cut_115 en d s else bV (qev en d 171 [.ref 1] s) (fun s5 => nm (uI s5 1 10 (s5.1 1 7)) (fun s7 => nm (uJ s7 1 11 (0 : Int64)) (fun s8 => bV (qev en d 172 [.ref 1] s8) (fun s10 => gd (p_inB (s10.1 1 6) 4001 = true) (nm (uI s10 4 ((s10.1 1 6).toNatClampNeg) (s10.1 1 9)) (fun s13 => gd (p_inB (s13.1 1 6) 4001 = true) (nm (uI s13 5 ((s13.1 1 6).toNatClampNeg) (s13.1 1 10)) (fun s15 => gd (p_inB (s15.1 1 6) 4001 = true) (nm (uJ s15 6 ((s15.1 1 6).toNatClampNeg) (s15.2.1 1 11)) (fun s17 => nm (uI s17 1 6 ((s17.1 1 6) + (1 : Int32))) (fun s18 => L_X9_cut_17 en d (v1 + (1 : Int32)) s18)))))))))))) (L_X9_cut_17 en d v1 s) := by
  show qle _ (qE (qev en d) en none tb_X9_cut (17, [(0, .ref 1), (1, .int v1)], []) s)
  refine e_L 2 (f' := (21, [(0, .ref 1), (1, .int v1)], [.int (4000 : Int32), .int v1])) rfl ?_
  refine e_icmp 115 rfl rfl rfl (fun c1 => ?_) (fun c1 => ?_)
  · exact qE_sub (qsubL [0] rfl (ks := [0, 1]) rfl (by decide))
  · refine e_L 1 (f' := (25, [(0, .ref 1), (1, .int v1)], [.ref 1])) rfl ?_
    refine e_gI 9 9 rfl rfl lc_1 ?_
    refine e_ifz 115 rfl rfl rfl (fun c2 => ?_) (fun c2 => ?_)
    · exact qE_sub (qsubL [0] rfl (ks := [0, 1]) rfl (by decide))
    · refine e_L 1 (f' := (32, [(0, .ref 1), (1, .int v1)], [.ref 1])) rfl ?_
      refine e_gI 9 9 rfl rfl lc_1 ?_
      refine e_L 1 (f' := (36, [(0, .ref 1), (1, .int v1)], [.int (1 : Int32), .int (s.1 1 9)])) rfl ?_
      refine e_icmp 115 rfl rfl rfl (fun c3 => ?_) (fun c3 => ?_)
      · exact qE_sub (qsubL [0] rfl (ks := [0, 1]) rfl (by decide))
      · refine e_L 1 (f' := (40, [(0, .ref 1), (1, .int v1)], [.ref 1])) rfl ?_
        refine e_vV 171 rfl rfl ix_X9_skipBlanks rfl (q_recvOf lc_1 rfl) (Nat.le_of_ble_eq_true rfl) (fun s5 e6 => ?_)
        refine e_L 2 (f' := (45, [(0, .ref 1), (1, .int v1)], [.ref 1, .ref 1])) rfl ?_
        refine e_gI 9 7 rfl rfl lc_1 ?_
        refine e_pI 9 10 rfl rfl lc_1 rfl ?_
        refine e_nS fun s7 => ?_
        refine e_L 2 (f' := (53, [(0, .ref 1), (1, .int v1)], [.long (0 : Int64), .ref 1])) rfl ?_
        refine e_pJ 9 11 rfl rfl lc_1 rfl ?_
        refine e_nS fun s8 => ?_
        refine e_L 1 (f' := (57, [(0, .ref 1), (1, .int v1)], [.ref 1])) rfl ?_
        refine e_vV 172 rfl rfl ix_X9_cutOne rfl (q_recvOf lc_1 rfl) (Nat.le_of_ble_eq_true rfl) (fun s10 e11 => ?_)
        refine e_L 1 (f' := (61, [(0, .ref 1), (1, .int v1)], [.ref 1])) rfl ?_
        refine e_gR (q := 4) 9 2 rfl rfl lc_1 lr_1_2 ?_
        refine e_L 1 (f' := (65, [(0, .ref 1), (1, .int v1)], [.ref 1, .ref 4])) rfl ?_
        refine e_gI 9 6 rfl rfl lc_1 ?_
        refine e_L 1 (f' := (69, [(0, .ref 1), (1, .int v1)], [.ref 1, .int (s10.1 1 6), .ref 4])) rfl ?_
        refine e_gI 9 9 rfl rfl lc_1 ?_
        refine qle_gd fun h12 => ?_
        refine e_ias (n := 4001) (k := (s10.1 1 6).toNatClampNeg) rfl lc_4 ln_4 h12 rfl ?_
        refine e_nS fun s13 => ?_
        refine e_L 1 (f' := (74, [(0, .ref 1), (1, .int v1)], [.ref 1])) rfl ?_
        refine e_gR (q := 5) 9 3 rfl rfl lc_1 lr_1_3 ?_
        refine e_L 1 (f' := (78, [(0, .ref 1), (1, .int v1)], [.ref 1, .ref 5])) rfl ?_
        refine e_gI 9 6 rfl rfl lc_1 ?_
        refine e_L 1 (f' := (82, [(0, .ref 1), (1, .int v1)], [.ref 1, .int (s13.1 1 6), .ref 5])) rfl ?_
        refine e_gI 9 10 rfl rfl lc_1 ?_
        refine qle_gd fun h14 => ?_
        refine e_ias (n := 4001) (k := (s13.1 1 6).toNatClampNeg) rfl lc_5 ln_5 h14 rfl ?_
        refine e_nS fun s15 => ?_
        refine e_L 1 (f' := (87, [(0, .ref 1), (1, .int v1)], [.ref 1])) rfl ?_
        refine e_gR (q := 6) 9 4 rfl rfl lc_1 lr_1_4 ?_
        refine e_L 1 (f' := (91, [(0, .ref 1), (1, .int v1)], [.ref 1, .ref 6])) rfl ?_
        refine e_gI 9 6 rfl rfl lc_1 ?_
        refine e_L 1 (f' := (95, [(0, .ref 1), (1, .int v1)], [.ref 1, .int (s15.1 1 6), .ref 6])) rfl ?_
        refine e_gJ 9 11 rfl rfl lc_1 ?_
        refine qle_gd fun h16 => ?_
        refine e_las (n := 4001) (k := (s15.1 1 6).toNatClampNeg) rfl lc_6 ln_6 h16 rfl ?_
        refine e_nS fun s17 => ?_
        refine e_L 2 (f' := (101, [(0, .ref 1), (1, .int v1)], [.ref 1, .ref 1])) rfl ?_
        refine e_gI 9 6 rfl rfl lc_1 ?_
        refine e_L 2 (f' := (106, [(0, .ref 1), (1, .int v1)], [.int ((s17.1 1 6) + (1 : Int32)), .ref 1])) rfl ?_
        refine e_pI 9 6 rfl rfl lc_1 rfl ?_
        refine e_nS fun s18 => ?_
        refine e_L 2 (f' := (17, [(1, .int (v1 + (1 : Int32))), (0, .ref 1)], [])) rfl ?_
        exact qE_sub (qsubL [1, 0] rfl (ks := [1, 0]) rfl (by decide))
set_option maxRecDepth 100000 in
set_option maxHeartbeats 4000000 in
theorem le_X9_cut_115 (en : pN) (d : Nat) (s : qS) : qle (nm (uI s 1 8 (-1 : Int32)) (fun s1 => bV (qev en d 167 [.ref 1] s1) (fun s3 => some (none, s3)))) (L_X9_cut_115 en d s) := by
  show qle _ (qE (qev en d) en none tb_X9_cut (115, [(0, .ref 1)], []) s)
  refine e_L 2 (f' := (117, [(0, .ref 1)], [.int (-1 : Int32), .ref 1])) rfl ?_
  refine e_pI 9 8 rfl rfl lc_1 rfl ?_
  refine e_nS fun s1 => ?_
  refine e_L 1 (f' := (121, [(0, .ref 1)], [.ref 1])) rfl ?_
  refine e_vV 167 rfl rfl ix_X9_advance rfl (q_recvOf lc_1 rfl) (Nat.le_of_ble_eq_true rfl) (fun s3 e4 => ?_)
  exact e_rV rfl rfl
set_option maxRecDepth 100000 in
set_option maxHeartbeats 4000000 in
theorem le_X9_cut (en : pN) (d : Nat) (s : qS) : qle (nm (uI s 1 6 (0 : Int32)) (fun s1 => nm (uI s1 1 7 (0 : Int32)) (fun s2 => nm (uI s2 1 9 (2 : Int32)) (fun s3 => L_X9_cut_17 en d (0 : Int32) s3)))) (qev en (d + 1) 166 [.ref 1] s) := by
  refine e_enter ix_X9_cut (Nat.le_of_ble_eq_true rfl) ?_
  show qle _ (qE (qev en d) en none tb_X9_cut (0, [(0, .ref 1)], []) s)
  refine e_L 2 (f' := (2, [(0, .ref 1)], [.int (0 : Int32), .ref 1])) rfl ?_
  refine e_pI 9 6 rfl rfl lc_1 rfl ?_
  refine e_nS fun s1 => ?_
  refine e_L 2 (f' := (7, [(0, .ref 1)], [.int (0 : Int32), .ref 1])) rfl ?_
  refine e_pI 9 7 rfl rfl lc_1 rfl ?_
  refine e_nS fun s2 => ?_
  refine e_L 2 (f' := (12, [(0, .ref 1)], [.int (2 : Int32), .ref 1])) rfl ?_
  refine e_pI 9 9 rfl rfl lc_1 rfl ?_
  refine e_nS fun s3 => ?_
  refine e_L 2 (f' := (17, [(1, .int (0 : Int32)), (0, .ref 1)], [])) rfl ?_
  exact qE_sub (qsubL [1, 0] rfl (ks := [1, 0]) rfl (by decide))
noncomputable def L_X9_advance_23 (en : pN) (d : Nat) (s : qS) : Option qR := qE (qev en d) en none tb_X9_advance (23, [(0, .ref 1)], []) s
set_option maxRecDepth 100000 in
set_option maxHeartbeats 4000000 in
theorem le_X9_advance_23 (en : pN) (d : Nat) (s : qS) : qle (gd (p_inB (s.1 1 8) 4001 = true) (nm (uI s 1 9 (s.1 4 (s.1 1 8).toNatClampNeg)) (fun s2 => gd (p_inB (s2.1 1 8) 4001 = true) (nm (uI s2 1 10 (s2.1 5 (s2.1 1 8).toNatClampNeg)) (fun s4 => gd (p_inB (s4.1 1 8) 4001 = true) (nm (uJ s4 1 11 (s4.2.1 6 (s4.1 1 8).toNatClampNeg)) (fun s6 => some (none, s6)))))))) (L_X9_advance_23 en d s) := by
  show qle _ (qE (qev en d) en none tb_X9_advance (23, [(0, .ref 1)], []) s)
  refine e_L 2 (f' := (25, [(0, .ref 1)], [.ref 1, .ref 1])) rfl ?_
  refine e_gR (q := 4) 9 2 rfl rfl lc_1 lr_1_2 ?_
  refine e_L 1 (f' := (29, [(0, .ref 1)], [.ref 1, .ref 4, .ref 1])) rfl ?_
  refine e_gI 9 8 rfl rfl lc_1 ?_
  refine qle_gd fun h1 => ?_
  refine e_ial (n := 4001) (k := (s.1 1 8).toNatClampNeg) rfl lc_4 ln_4 h1 rfl ?_
  refine e_pI 9 9 rfl rfl lc_1 rfl ?_
  refine e_nS fun s2 => ?_
  refine e_L 2 (f' := (38, [(0, .ref 1)], [.ref 1, .ref 1])) rfl ?_
  refine e_gR (q := 5) 9 3 rfl rfl lc_1 lr_1_3 ?_
  refine e_L 1 (f' := (42, [(0, .ref 1)], [.ref 1, .ref 5, .ref 1])) rfl ?_
  refine e_gI 9 8 rfl rfl lc_1 ?_
  refine qle_gd fun h3 => ?_
  refine e_ial (n := 4001) (k := (s2.1 1 8).toNatClampNeg) rfl lc_5 ln_5 h3 rfl ?_
  refine e_pI 9 10 rfl rfl lc_1 rfl ?_
  refine e_nS fun s4 => ?_
  refine e_L 2 (f' := (51, [(0, .ref 1)], [.ref 1, .ref 1])) rfl ?_
  refine e_gR (q := 6) 9 4 rfl rfl lc_1 lr_1_4 ?_
  refine e_L 1 (f' := (55, [(0, .ref 1)], [.ref 1, .ref 6, .ref 1])) rfl ?_
  refine e_gI 9 8 rfl rfl lc_1 ?_
  refine qle_gd fun h5 => ?_
  refine e_lal (n := 4001) (k := (s4.1 1 8).toNatClampNeg) rfl lc_6 ln_6 h5 rfl ?_
  refine e_pJ 9 11 rfl rfl lc_1 rfl ?_
  refine e_nS fun s6 => ?_
  exact e_rV rfl rfl
set_option maxRecDepth 100000 in
set_option maxHeartbeats 4000000 in
theorem le_X9_advance (en : pN) (d : Nat) (s : qS) : qle (if ((s.1 1 6) - (1 : Int32)) ≤ (s.1 1 8) then L_X9_advance_23 en d s else nm (uI s 1 8 ((s.1 1 8) + (1 : Int32))) (fun s2 => L_X9_advance_23 en d s2)) (qev en (d + 1) 167 [.ref 1] s) := by
  refine e_enter ix_X9_advance (Nat.le_of_ble_eq_true rfl) ?_
  show qle _ (qE (qev en d) en none tb_X9_advance (0, [(0, .ref 1)], []) s)
  refine e_L 1 (f' := (1, [(0, .ref 1)], [.ref 1])) rfl ?_
  refine e_gI 9 8 rfl rfl lc_1 ?_
  refine e_L 1 (f' := (5, [(0, .ref 1)], [.ref 1, .int (s.1 1 8)])) rfl ?_
  refine e_gI 9 6 rfl rfl lc_1 ?_
  refine e_L 2 (f' := (10, [(0, .ref 1)], [.int ((s.1 1 6) - (1 : Int32)), .int (s.1 1 8)])) rfl ?_
  refine e_icmp 23 rfl rfl rfl (fun c1 => ?_) (fun c1 => ?_)
  · exact qE_sub (qsubL [0] rfl (ks := [0]) rfl (by decide))
  · refine e_L 2 (f' := (15, [(0, .ref 1)], [.ref 1, .ref 1])) rfl ?_
    refine e_gI 9 8 rfl rfl lc_1 ?_
    refine e_L 2 (f' := (20, [(0, .ref 1)], [.int ((s.1 1 8) + (1 : Int32)), .ref 1])) rfl ?_
    refine e_pI 9 8 rfl rfl lc_1 rfl ?_
    refine e_nS fun s2 => ?_
    exact qE_sub (qsubL [0] rfl (ks := [0]) rfl (by decide))
set_option maxRecDepth 100000 in
set_option maxHeartbeats 4000000 in
theorem le_X9_byteAt (en : pN) (d : Nat) (a1 : Int32) (s : qS) : qle (if (s.1 1 5) ≤ a1 then some (some (.int (-1 : Int32)), s) else gd (p_inB a1 4000 = true) (some (some (.int ((s.1 2 a1.toNatClampNeg) &&& (255 : Int32))), s))) (qev en (d + 1) 168 [.ref 1, .int a1] s) := by
  refine e_enter ix_X9_byteAt (Nat.le_of_ble_eq_true rfl) ?_
  show qle _ (qE (qev en d) en (some .int) tb_X9_byteAt (0, [(0, .ref 1), (1, .int a1)], []) s)
  refine e_L 2 (f' := (2, [(0, .ref 1), (1, .int a1)], [.ref 1, .int a1])) rfl ?_
  refine e_gI 9 5 rfl rfl lc_1 ?_
  refine e_icmp 21 rfl rfl rfl (fun c1 => ?_) (fun c1 => ?_)
  · refine e_L 1 (f' := (22, [(0, .ref 1), (1, .int a1)], [.int (-1 : Int32)])) rfl ?_
    exact e_rI rfl rfl
  · refine e_L 1 (f' := (9, [(0, .ref 1), (1, .int a1)], [.ref 1])) rfl ?_
    refine e_gR (q := 2) 9 0 rfl rfl lc_1 lr_1_0 ?_
    refine e_L 1 (f' := (13, [(0, .ref 1), (1, .int a1)], [.int a1, .ref 2])) rfl ?_
    refine qle_gd fun h2 => ?_
    refine e_bal (n := 4000) (k := a1.toNatClampNeg) rfl (Or.inr lc_2) ln_2 h2 rfl ?_
    refine e_L 3 (f' := (22, [(0, .ref 1), (1, .int a1)], [.int ((s.1 2 a1.toNatClampNeg) &&& (255 : Int32))])) rfl ?_
    exact e_rI rfl rfl
noncomputable def L_X9_isLetter_12 (en : pN) (d : Nat) (v0 : Int32) (s : qS) : Option qR := qE (qev en d) en (some .boolean) tb_X9_isLetter (12, [(0, .int v0)], []) s
set_option maxRecDepth 100000 in
set_option maxHeartbeats 4000000 in
theorem le_X9_isLetter_12 (en : pN) (d : Nat) (v0 : Int32) (s : qS) : qle (if v0 < (65 : Int32) then some (some (.int (0 : Int32)), s) else if (90 : Int32) < v0 then some (some (.int (0 : Int32)), s) else some (some (.int (1 : Int32)), s)) (L_X9_isLetter_12 en d v0 s) := by
  show qle _ (qE (qev en d) en (some .boolean) tb_X9_isLetter (12, [(0, .int v0)], []) s)
  refine e_L 2 (f' := (15, [(0, .int v0)], [.int (65 : Int32), .int v0])) rfl ?_
  refine e_icmp 28 rfl rfl rfl (fun c1 => ?_) (fun c1 => ?_)
  · refine e_L 1 (f' := (29, [(0, .int v0)], [.int (0 : Int32)])) rfl ?_
    exact e_rZ rfl rfl (by decide)
  · refine e_L 2 (f' := (21, [(0, .int v0)], [.int (90 : Int32), .int v0])) rfl ?_
    refine e_icmp 28 rfl rfl rfl (fun c2 => ?_) (fun c2 => ?_)
    · refine e_L 1 (f' := (29, [(0, .int v0)], [.int (0 : Int32)])) rfl ?_
      exact e_rZ rfl rfl (by decide)
    · refine e_L 2 (f' := (29, [(0, .int v0)], [.int (1 : Int32)])) rfl ?_
      exact e_rZ rfl rfl (by decide)
set_option maxRecDepth 100000 in
set_option maxHeartbeats 4000000 in
theorem le_X9_isLetter (en : pN) (d : Nat) (a1 : Int32) (s : qS) : qle (if a1 < (97 : Int32) then L_X9_isLetter_12 en d a1 s else if a1 ≤ (122 : Int32) then some (some (.int (1 : Int32)), s) else L_X9_isLetter_12 en d a1 s) (qev en (d + 1) 169 [.int a1] s) := by
  refine e_enter ix_X9_isLetter (Nat.le_of_ble_eq_true rfl) ?_
  show qle _ (qE (qev en d) en (some .boolean) tb_X9_isLetter (0, [(0, .int a1)], []) s)
  refine e_L 2 (f' := (3, [(0, .int a1)], [.int (97 : Int32), .int a1])) rfl ?_
  refine e_icmp 12 rfl rfl rfl (fun c1 => ?_) (fun c1 => ?_)
  · exact qE_sub (qsubL [0] rfl (ks := [0]) rfl (by decide))
  · refine e_L 2 (f' := (9, [(0, .int a1)], [.int (122 : Int32), .int a1])) rfl ?_
    refine e_icmp 24 rfl rfl rfl (fun c2 => ?_) (fun c2 => ?_)
    · refine e_L 2 (f' := (29, [(0, .int a1)], [.int (1 : Int32)])) rfl ?_
      exact e_rZ rfl rfl (by decide)
    · exact qE_sub (qsubL [0] rfl (ks := [0]) rfl (by decide))
set_option maxRecDepth 100000 in
set_option maxHeartbeats 4000000 in
theorem le_X9_isDigit (en : pN) (d : Nat) (a1 : Int32) (s : qS) : qle (if a1 < (48 : Int32) then some (some (.int (0 : Int32)), s) else if (57 : Int32) < a1 then some (some (.int (0 : Int32)), s) else some (some (.int (1 : Int32)), s)) (qev en (d + 1) 170 [.int a1] s) := by
  refine e_enter ix_X9_isDigit (Nat.le_of_ble_eq_true rfl) ?_
  show qle _ (qE (qev en d) en (some .boolean) tb_X9_isDigit (0, [(0, .int a1)], []) s)
  refine e_L 2 (f' := (3, [(0, .int a1)], [.int (48 : Int32), .int a1])) rfl ?_
  refine e_icmp 16 rfl rfl rfl (fun c1 => ?_) (fun c1 => ?_)
  · refine e_L 1 (f' := (17, [(0, .int a1)], [.int (0 : Int32)])) rfl ?_
    exact e_rZ rfl rfl (by decide)
  · refine e_L 2 (f' := (9, [(0, .int a1)], [.int (57 : Int32), .int a1])) rfl ?_
    refine e_icmp 16 rfl rfl rfl (fun c2 => ?_) (fun c2 => ?_)
    · refine e_L 1 (f' := (17, [(0, .int a1)], [.int (0 : Int32)])) rfl ?_
      exact e_rZ rfl rfl (by decide)
    · refine e_L 2 (f' := (17, [(0, .int a1)], [.int (1 : Int32)])) rfl ?_
      exact e_rZ rfl rfl (by decide)
noncomputable def L_X9_skipBlanks_2 (en : pN) (d : Nat) (v1 : Int32) (s : qS) : Option qR := qE (qev en d) en none tb_X9_skipBlanks (2, [(0, .ref 1), (1, .int v1)], []) s
noncomputable def L_X9_skipBlanks_68 (en : pN) (d : Nat) (v1 : Int32) (s : qS) : Option qR := qE (qev en d) en none tb_X9_skipBlanks (68, [(0, .ref 1), (1, .int v1)], []) s
set_option maxRecDepth 100000 in
set_option maxHeartbeats 4000000 in
theorem le_X9_skipBlanks_2 (en : pN) (d : Nat) (v1 : Int32) (s : qS) : qle (if (s.1 1 5) ≤ (s.1 1 7) then some (none, s) else gd (p_inB (s.1 1 7) 4000 = true) (nm (s.1 2 (s.1 1 7).toNatClampNeg) (fun z3 => if ¬ z3 = (10 : Int32) then if ¬ z3 = (35 : Int32) then if ¬ v1 = (0 : Int32) then L_X9_skipBlanks_68 en d v1 s else if z3 = (9 : Int32) then L_X9_skipBlanks_68 en d v1 s else if z3 = (13 : Int32) then L_X9_skipBlanks_68 en d v1 s else if z3 = (32 : Int32) then L_X9_skipBlanks_68 en d v1 s else some (none, s) else L_X9_skipBlanks_68 en d (1 : Int32) s else L_X9_skipBlanks_68 en d (0 : Int32) s))) (L_X9_skipBlanks_2 en d v1 s) := by
  show qle _ (qE (qev en d) en none tb_X9_skipBlanks (2, [(0, .ref 1), (1, .int v1)], []) s)
  refine e_L 1 (f' := (3, [(0, .ref 1), (1, .int v1)], [.ref 1])) rfl ?_
  refine e_gI 9 7 rfl rfl lc_1 ?_
  refine e_L 1 (f' := (7, [(0, .ref 1), (1, .int v1)], [.ref 1, .int (s.1 1 7)])) rfl ?_
  refine e_gI 9 5 rfl rfl lc_1 ?_
  refine e_icmp 81 rfl rfl rfl (fun c1 => ?_) (fun c1 => ?_)
  · exact e_rV rfl rfl
  · refine e_L 1 (f' := (14, [(0, .ref 1), (1, .int v1)], [.ref 1])) rfl ?_
    refine e_gR (q := 2) 9 0 rfl rfl lc_1 lr_1_0 ?_
    refine e_L 1 (f' := (18, [(0, .ref 1), (1, .int v1)], [.ref 1, .ref 2])) rfl ?_
    refine e_gI 9 7 rfl rfl lc_1 ?_
    refine qle_gd fun h2 => ?_
    refine e_bal (n := 4000) (k := (s.1 1 7).toNatClampNeg) rfl (Or.inr lc_2) ln_2 h2 rfl ?_
    refine e_nI fun z3 => ?_
    refine e_L 3 (f' := (26, [(2, .int z3), (0, .ref 1), (1, .int v1)], [.int (10 : Int32), .int z3])) rfl ?_
    refine e_icmp 34 rfl rfl rfl (fun c4 => ?_) (fun c4 => ?_)
    · refine e_L 2 (f' := (37, [(2, .int z3), (0, .ref 1), (1, .int v1)], [.int (35 : Int32), .int z3])) rfl ?_
      refine e_icmp 45 rfl rfl rfl (fun c5 => ?_) (fun c5 => ?_)
      · refine e_L 1 (f' := (46, [(2, .int z3), (0, .ref 1), (1, .int v1)], [.int v1])) rfl ?_
        refine e_ifz 68 rfl rfl rfl (fun c6 => ?_) (fun c6 => ?_)
        · exact qE_sub (qsubL [1, 2] rfl (ks := [2, 0, 1]) rfl (by decide))
        · refine e_L 2 (f' := (52, [(2, .int z3), (0, .ref 1), (1, .int v1)], [.int (9 : Int32), .int z3])) rfl ?_
          refine e_icmp 68 rfl rfl rfl (fun c7 => ?_) (fun c7 => ?_)
          · exact qE_sub (qsubL [1, 2] rfl (ks := [2, 0, 1]) rfl (by decide))
          · refine e_L 2 (f' := (58, [(2, .int z3), (0, .ref 1), (1, .int v1)], [.int (13 : Int32), .int z3])) rfl ?_
            refine e_icmp 68 rfl rfl rfl (fun c8 => ?_) (fun c8 => ?_)
            · exact qE_sub (qsubL [1, 2] rfl (ks := [2, 0, 1]) rfl (by decide))
            · refine e_L 2 (f' := (64, [(2, .int z3), (0, .ref 1), (1, .int v1)], [.int (32 : Int32), .int z3])) rfl ?_
              refine e_icmp 68 rfl rfl rfl (fun c9 => ?_) (fun c9 => ?_)
              · exact qE_sub (qsubL [1, 2] rfl (ks := [2, 0, 1]) rfl (by decide))
              · exact e_rV rfl rfl
      · refine e_L 3 (f' := (68, [(1, .int (1 : Int32)), (2, .int z3), (0, .ref 1)], [])) rfl ?_
        exact qE_sub (qsubL [2, 0] rfl (ks := [1, 2, 0]) rfl (by decide))
    · refine e_L 3 (f' := (68, [(1, .int (0 : Int32)), (2, .int z3), (0, .ref 1)], [])) rfl ?_
      exact qE_sub (qsubL [2, 0] rfl (ks := [1, 2, 0]) rfl (by decide))
set_option maxRecDepth 100000 in
set_option maxHeartbeats 4000000 in
theorem le_X9_skipBlanks_68 (en : pN) (d : Nat) (v1 : Int32) (s : qS) : qle (nm (uI s 1 7 ((s.1 1 7) + (1 : Int32))) (fun s1 => L_X9_skipBlanks_2 en d v1 s1)) (L_X9_skipBlanks_68 en d v1 s) := by
  show qle _ (qE (qev en d) en none tb_X9_skipBlanks (68, [(0, .ref 1), (1, .int v1)], []) s)
  refine e_L 2 (f' := (70, [(0, .ref 1), (1, .int v1)], [.ref 1, .ref 1])) rfl ?_
  refine e_gI 9 7 rfl rfl lc_1 ?_
  refine e_L 2 (f' := (75, [(0, .ref 1), (1, .int v1)], [.int ((s.1 1 7) + (1 : Int32)), .ref 1])) rfl ?_
  refine e_pI 9 7 rfl rfl lc_1 rfl ?_
  refine e_nS fun s1 => ?_
  refine e_L 1 (f' := (2, [(0, .ref 1), (1, .int v1)], [])) rfl ?_
  exact qE_sub (qsubL [0, 1] rfl (ks := [0, 1]) rfl (by decide))
set_option maxRecDepth 100000 in
set_option maxHeartbeats 4000000 in
theorem le_X9_skipBlanks (en : pN) (d : Nat) (s : qS) : qle (L_X9_skipBlanks_2 en d (0 : Int32) s) (qev en (d + 1) 171 [.ref 1] s) := by
  refine e_enter ix_X9_skipBlanks (Nat.le_of_ble_eq_true rfl) ?_
  show qle _ (qE (qev en d) en none tb_X9_skipBlanks (0, [(0, .ref 1)], []) s)
  refine e_L 2 (f' := (2, [(1, .int (0 : Int32)), (0, .ref 1)], [])) rfl ?_
  exact qE_sub (qsubL [1, 0] rfl (ks := [1, 0]) rfl (by decide))
set_option maxRecDepth 100000 in
set_option maxHeartbeats 4000000 in
theorem le_X9_cutOne (en : pN) (d : Nat) (s : qS) : qle (bI (qev en d 168 [.ref 1, .int (s.1 1 7)] s) (fun w1 s2 => if (0 : Int32) ≤ w1 then bI (qev en d 169 [.int w1] s2) (fun w5 s6 => if w5 = (0 : Int32) then bI (qev en d 170 [.int w1] s6) (fun w9 s10 => if w9 = (0 : Int32) then bV (qev en d 175 [.ref 1, .int w1] s10) (fun s14 => some (none, s14)) else bV (qev en d 174 [.ref 1] s10) (fun s17 => some (none, s17))) else bV (qev en d 173 [.ref 1] s6) (fun s20 => some (none, s20))) else nm (uI s2 1 9 (0 : Int32)) (fun s22 => some (none, s22)))) (qev en (d + 1) 172 [.ref 1] s) := by
  refine e_enter ix_X9_cutOne (Nat.le_of_ble_eq_true rfl) ?_
  show qle _ (qE (qev en d) en none tb_X9_cutOne (0, [(0, .ref 1)], []) s)
  refine e_L 2 (f' := (2, [(0, .ref 1)], [.ref 1, .ref 1])) rfl ?_
  refine e_gI 9 7 rfl rfl lc_1 ?_
  refine e_vI 168 rfl rfl ix_X9_byteAt rfl (q_recvOf lc_1 rfl) (Nat.le_of_ble_eq_true rfl) (fun w1 s2 e3 => ?_)
  refine e_L 2 (f' := (10, [(1, .int w1), (0, .ref 1)], [.int w1])) rfl ?_
  refine e_ifz 21 rfl rfl rfl (fun c4 => ?_) (fun c4 => ?_)
  · refine e_L 1 (f' := (22, [(1, .int w1), (0, .ref 1)], [.int w1])) rfl ?_
    refine e_sI 169 rfl rfl rfl ix_X9_isLetter rfl (Nat.le_of_ble_eq_true rfl) (fun w5 s6 e7 => ?_)
    refine e_ifz 35 rfl rfl rfl (fun c8 => ?_) (fun c8 => ?_)
    · refine e_L 1 (f' := (36, [(1, .int w1), (0, .ref 1)], [.int w1])) rfl ?_
      refine e_sI 170 rfl rfl rfl ix_X9_isDigit rfl (Nat.le_of_ble_eq_true rfl) (fun w9 s10 e11 => ?_)
      refine e_ifz 49 rfl rfl rfl (fun c12 => ?_) (fun c12 => ?_)
      · refine e_L 2 (f' := (51, [(1, .int w1), (0, .ref 1)], [.int w1, .ref 1])) rfl ?_
        refine e_vV 175 rfl rfl ix_X9_cutSign rfl (q_recvOf lc_1 rfl) (Nat.le_of_ble_eq_true rfl) (fun s14 e15 => ?_)
        exact e_rV rfl rfl
      · refine e_L 1 (f' := (43, [(1, .int w1), (0, .ref 1)], [.ref 1])) rfl ?_
        refine e_vV 174 rfl rfl ix_X9_cutNumber rfl (q_recvOf lc_1 rfl) (Nat.le_of_ble_eq_true rfl) (fun s17 e18 => ?_)
        refine e_L 1 (f' := (54, [(1, .int w1), (0, .ref 1)], [])) rfl ?_
        exact e_rV rfl rfl
    · refine e_L 1 (f' := (29, [(1, .int w1), (0, .ref 1)], [.ref 1])) rfl ?_
      refine e_vV 173 rfl rfl ix_X9_cutWord rfl (q_recvOf lc_1 rfl) (Nat.le_of_ble_eq_true rfl) (fun s20 e21 => ?_)
      refine e_L 1 (f' := (54, [(1, .int w1), (0, .ref 1)], [])) rfl ?_
      exact e_rV rfl rfl
  · refine e_L 2 (f' := (15, [(1, .int w1), (0, .ref 1)], [.int (0 : Int32), .ref 1])) rfl ?_
    refine e_pI 9 9 rfl rfl lc_1 rfl ?_
    refine e_nS fun s22 => ?_
    refine e_L 1 (f' := (54, [(1, .int w1), (0, .ref 1)], [])) rfl ?_
    exact e_rV rfl rfl
noncomputable def L_X9_cutWord_0 (en : pN) (d : Nat) (s : qS) : Option qR := qE (qev en d) en none tb_X9_cutWord (0, [(0, .ref 1)], []) s
noncomputable def L_X9_cutWord_43 (en : pN) (d : Nat) (v1 : Int32) (s : qS) : Option qR := qE (qev en d) en none tb_X9_cutWord (43, [(0, .ref 1), (1, .int v1)], []) s
noncomputable def L_X9_cutWord_70 (en : pN) (d : Nat) (s : qS) : Option qR := qE (qev en d) en none tb_X9_cutWord (70, [(0, .ref 1)], []) s
noncomputable def L_X9_cutWord_90 (en : pN) (d : Nat) (vs1 : Int32) (s : qS) : Option qR := qE (qev en d) en none tb_X9_cutWord (90, [(0, .ref 1)], [.int vs1, .ref 1]) s
noncomputable def L_X9_cutWord_95 (en : pN) (d : Nat) (v1 : Int32) (s : qS) : Option qR := qE (qev en d) en none tb_X9_cutWord (95, [(0, .ref 1), (1, .int v1)], []) s
set_option maxRecDepth 100000 in
set_option maxHeartbeats 4000000 in
theorem le_X9_cutWord_0 (en : pN) (d : Nat) (s : qS) : qle (if (s.1 1 5) ≤ (s.1 1 7) then L_X9_cutWord_70 en d s else bI (qev en d 168 [.ref 1, .int (s.1 1 7)] s) (fun w2 s3 => bI (qev en d 169 [.int w2] s3) (fun w5 s6 => if ¬ w5 = (0 : Int32) then L_X9_cutWord_43 en d w2 s6 else bI (qev en d 170 [.int w2] s6) (fun w9 s10 => if ¬ w9 = (0 : Int32) then L_X9_cutWord_43 en d w2 s10 else if w2 = (95 : Int32) then L_X9_cutWord_43 en d w2 s10 else L_X9_cutWord_70 en d s10)))) (L_X9_cutWord_0 en d s) := by
  show qle _ (qE (qev en d) en none tb_X9_cutWord (0, [(0, .ref 1)], []) s)
  refine e_L 1 (f' := (1, [(0, .ref 1)], [.ref 1])) rfl ?_
  refine e_gI 9 7 rfl rfl lc_1 ?_
  refine e_L 1 (f' := (5, [(0, .ref 1)], [.ref 1, .int (s.1 1 7)])) rfl ?_
  refine e_gI 9 5 rfl rfl lc_1 ?_
  refine e_icmp 70 rfl rfl rfl (fun c1 => ?_) (fun c1 => ?_)
  · exact qE_sub (qsubL [0] rfl (ks := [0]) rfl (by decide))
  · refine e_L 2 (f' := (13, [(0, .ref 1)], [.ref 1, .ref 1])) rfl ?_
    refine e_gI 9 7 rfl rfl lc_1 ?_
    refine e_vI 168 rfl rfl ix_X9_byteAt rfl (q_recvOf lc_1 rfl) (Nat.le_of_ble_eq_true rfl) (fun w2 s3 e4 => ?_)
    refine e_L 2 (f' := (21, [(1, .int w2), (0, .ref 1)], [.int w2])) rfl ?_
    refine e_sI 169 rfl rfl rfl ix_X9_isLetter rfl (Nat.le_of_ble_eq_true rfl) (fun w5 s6 e7 => ?_)
    refine e_ifz 43 rfl rfl rfl (fun c8 => ?_) (fun c8 => ?_)
    · exact qE_sub (qsubL [1, 0] rfl (ks := [1, 0]) rfl (by decide))
    · refine e_L 1 (f' := (28, [(1, .int w2), (0, .ref 1)], [.int w2])) rfl ?_
      refine e_sI 170 rfl rfl rfl ix_X9_isDigit rfl (Nat.le_of_ble_eq_true rfl) (fun w9 s10 e11 => ?_)
      refine e_ifz 43 rfl rfl rfl (fun c12 => ?_) (fun c12 => ?_)
      · exact qE_sub (qsubL [1, 0] rfl (ks := [1, 0]) rfl (by decide))
      · refine e_L 2 (f' := (37, [(1, .int w2), (0, .ref 1)], [.int (95 : Int32), .int w2])) rfl ?_
        refine e_icmp 43 rfl rfl rfl (fun c13 => ?_) (fun c13 => ?_)
        · exact qE_sub (qsubL [1, 0] rfl (ks := [1, 0]) rfl (by decide))
        · refine e_L 1 (f' := (70, [(1, .int w2), (0, .ref 1)], [])) rfl ?_
          exact qE_sub (qsubL [1] rfl (ks := [1, 0]) rfl (by decide))
set_option maxRecDepth 100000 in
set_option maxHeartbeats 4000000 in
theorem le_X9_cutWord_43 (en : pN) (d : Nat) (v1 : Int32) (s : qS) : qle (nm (uJ s 1 11 (((s.2.1 1 11) <<< ((7 : Int32).toInt64 &&& 63)) ||| v1.toInt64)) (fun s1 => nm (uI s1 1 7 ((s1.1 1 7) + (1 : Int32))) (fun s2 => L_X9_cutWord_0 en d s2))) (L_X9_cutWord_43 en d v1 s) := by
  show qle _ (qE (qev en d) en none tb_X9_cutWord (43, [(0, .ref 1), (1, .int v1)], []) s)
  refine e_L 2 (f' := (45, [(0, .ref 1), (1, .int v1)], [.ref 1, .ref 1])) rfl ?_
  refine e_gJ 9 11 rfl rfl lc_1 ?_
  refine e_L 5 (f' := (54, [(0, .ref 1), (1, .int v1)], [.long (((s.2.1 1 11) <<< ((7 : Int32).toInt64 &&& 63)) ||| v1.toInt64), .ref 1])) rfl ?_
  refine e_pJ 9 11 rfl rfl lc_1 rfl ?_
  refine e_nS fun s1 => ?_
  refine e_L 2 (f' := (59, [(0, .ref 1), (1, .int v1)], [.ref 1, .ref 1])) rfl ?_
  refine e_gI 9 7 rfl rfl lc_1 ?_
  refine e_L 2 (f' := (64, [(0, .ref 1), (1, .int v1)], [.int ((s1.1 1 7) + (1 : Int32)), .ref 1])) rfl ?_
  refine e_pI 9 7 rfl rfl lc_1 rfl ?_
  refine e_nS fun s2 => ?_
  refine e_L 1 (f' := (0, [(0, .ref 1), (1, .int v1)], [])) rfl ?_
  exact qE_sub (qsubL [0] rfl (ks := [0, 1]) rfl (by decide))
set_option maxRecDepth 100000 in
set_option maxHeartbeats 4000000 in
theorem le_X9_cutWord_70 (en : pN) (d : Nat) (s : qS) : qle (if ((s.1 1 7) - (s.1 1 10)) ≤ (8 : Int32) then L_X9_cutWord_90 en d (2 : Int32) s else L_X9_cutWord_90 en d (1 : Int32) s) (L_X9_cutWord_70 en d s) := by
  show qle _ (qE (qev en d) en none tb_X9_cutWord (70, [(0, .ref 1)], []) s)
  refine e_L 2 (f' := (72, [(0, .ref 1)], [.ref 1, .ref 1])) rfl ?_
  refine e_gI 9 7 rfl rfl lc_1 ?_
  refine e_L 1 (f' := (76, [(0, .ref 1)], [.ref 1, .int (s.1 1 7), .ref 1])) rfl ?_
  refine e_gI 9 10 rfl rfl lc_1 ?_
  refine e_L 2 (f' := (82, [(0, .ref 1)], [.int (8 : Int32), .int ((s.1 1 7) - (s.1 1 10)), .ref 1])) rfl ?_
  refine e_icmp 89 rfl rfl rfl (fun c1 => ?_) (fun c1 => ?_)
  · refine e_L 1 (f' := (90, [(0, .ref 1)], [.int (2 : Int32), .ref 1])) rfl ?_
    exact qE_sub (qsubL [0] rfl (ks := [0]) rfl (by decide))
  · refine e_L 2 (f' := (90, [(0, .ref 1)], [.int (1 : Int32), .ref 1])) rfl ?_
    exact qE_sub (qsubL [0] rfl (ks := [0]) rfl (by decide))
set_option maxRecDepth 100000 in
set_option maxHeartbeats 4000000 in
theorem le_X9_cutWord_90 (en : pN) (d : Nat) (vs1 : Int32) (s : qS) : qle (nm (uI s 1 9 vs1) (fun s1 => L_X9_cutWord_95 en d (0 : Int32) s1)) (L_X9_cutWord_90 en d vs1 s) := by
  show qle _ (qE (qev en d) en none tb_X9_cutWord (90, [(0, .ref 1)], [.int vs1, .ref 1]) s)
  refine e_pI 9 9 rfl rfl lc_1 rfl ?_
  refine e_nS fun s1 => ?_
  refine e_L 2 (f' := (95, [(1, .int (0 : Int32)), (0, .ref 1)], [])) rfl ?_
  exact qE_sub (qsubL [1, 0] rfl (ks := [1, 0]) rfl (by decide))
set_option maxRecDepth 100000 in
set_option maxHeartbeats 4000000 in
theorem le_X9_cutWord_95 (en : pN) (d : Nat) (v1 : Int32) (s : qS) : qle (if (33 : Int32) ≤ v1 then some (none, s) else if ¬ (s.1 1 9) = (2 : Int32) then some (none, s) else gd (p_inB v1 33 = true) (if ¬ (lg_cmp (s.2.1 3 v1.toNatClampNeg) (s.2.1 1 11)) = (0 : Int32) then L_X9_cutWord_95 en d (v1 + (1 : Int32)) s else nm (uI s 1 9 ((300 : Int32) + v1)) (fun s5 => L_X9_cutWord_95 en d (v1 + (1 : Int32)) s5))) (L_X9_cutWord_95 en d v1 s) := by
  show qle _ (qE (qev en d) en none tb_X9_cutWord (95, [(0, .ref 1), (1, .int v1)], []) s)
  refine e_L 2 (f' := (98, [(0, .ref 1), (1, .int v1)], [.int (33 : Int32), .int v1])) rfl ?_
  refine e_icmp 138 rfl rfl rfl (fun c1 => ?_) (fun c1 => ?_)
  · exact e_rV rfl rfl
  · refine e_L 1 (f' := (102, [(0, .ref 1), (1, .int v1)], [.ref 1])) rfl ?_
    refine e_gI 9 9 rfl rfl lc_1 ?_
    refine e_L 1 (f' := (106, [(0, .ref 1), (1, .int v1)], [.int (2 : Int32), .int (s.1 1 9)])) rfl ?_
    refine e_icmp 138 rfl rfl rfl (fun c2 => ?_) (fun c2 => ?_)
    · exact e_rV rfl rfl
    · refine e_L 1 (f' := (110, [(0, .ref 1), (1, .int v1)], [.ref 1])) rfl ?_
      refine e_gR (q := 3) 9 1 rfl rfl lc_1 lr_1_1 ?_
      refine e_L 1 (f' := (114, [(0, .ref 1), (1, .int v1)], [.int v1, .ref 3])) rfl ?_
      refine qle_gd fun h3 => ?_
      refine e_lal (n := 33) (k := v1.toNatClampNeg) rfl lc_3 ln_3 h3 rfl ?_
      refine e_L 1 (f' := (116, [(0, .ref 1), (1, .int v1)], [.ref 1, .long (s.2.1 3 v1.toNatClampNeg)])) rfl ?_
      refine e_gJ 9 11 rfl rfl lc_1 ?_
      refine e_L 1 (f' := (120, [(0, .ref 1), (1, .int v1)], [.int (lg_cmp (s.2.1 3 v1.toNatClampNeg) (s.2.1 1 11))])) rfl ?_
      refine e_ifz 132 rfl rfl rfl (fun c4 => ?_) (fun c4 => ?_)
      · refine e_L 2 (f' := (95, [(1, .int (v1 + (1 : Int32))), (0, .ref 1)], [])) rfl ?_
        exact qE_sub (qsubL [1, 0] rfl (ks := [1, 0]) rfl (by decide))
      · refine e_L 4 (f' := (129, [(0, .ref 1), (1, .int v1)], [.int ((300 : Int32) + v1), .ref 1])) rfl ?_
        refine e_pI 9 9 rfl rfl lc_1 rfl ?_
        refine e_nS fun s5 => ?_
        refine e_L 2 (f' := (95, [(1, .int (v1 + (1 : Int32))), (0, .ref 1)], [])) rfl ?_
        exact qE_sub (qsubL [1, 0] rfl (ks := [1, 0]) rfl (by decide))
set_option maxRecDepth 100000 in
set_option maxHeartbeats 4000000 in
theorem le_X9_cutWord (en : pN) (d : Nat) (s : qS) : qle (L_X9_cutWord_0 en d s) (qev en (d + 1) 173 [.ref 1] s) := by
  refine e_enter ix_X9_cutWord (Nat.le_of_ble_eq_true rfl) ?_
  show qle _ (qE (qev en d) en none tb_X9_cutWord (0, [(0, .ref 1)], []) s)
  exact qE_sub (qsubL [0] rfl (ks := [0]) rfl (by decide))
noncomputable def L_X9_cutNumber_0 (en : pN) (d : Nat) (s : qS) : Option qR := qE (qev en d) en none tb_X9_cutNumber (0, [(0, .ref 1)], []) s
noncomputable def L_X9_cutNumber_64 (en : pN) (d : Nat) (s : qS) : Option qR := qE (qev en d) en none tb_X9_cutNumber (64, [(0, .ref 1)], []) s
noncomputable def L_X9_cutNumber_83 (en : pN) (d : Nat) (vs1 : Int32) (s : qS) : Option qR := qE (qev en d) en none tb_X9_cutNumber (83, [], [.int vs1, .ref 1]) s
set_option maxRecDepth 100000 in
set_option maxHeartbeats 4000000 in
theorem le_X9_cutNumber_0 (en : pN) (d : Nat) (s : qS) : qle (if (s.1 1 5) ≤ (s.1 1 7) then L_X9_cutNumber_64 en d s else bI (qev en d 168 [.ref 1, .int (s.1 1 7)] s) (fun w2 s3 => bI (qev en d 170 [.int w2] s3) (fun w5 s6 => if w5 = (0 : Int32) then L_X9_cutNumber_64 en d s6 else bI (qev en d 168 [.ref 1, .int (s6.1 1 7)] s6) (fun w9 s10 => nm (uJ s10 1 11 ((((s6.2.1 1 11) * (10 : Int64)) + w9.toInt64) - (48 : Int64))) (fun s12 => nm (uI s12 1 7 ((s12.1 1 7) + (1 : Int32))) (fun s13 => L_X9_cutNumber_0 en d s13)))))) (L_X9_cutNumber_0 en d s) := by
  show qle _ (qE (qev en d) en none tb_X9_cutNumber (0, [(0, .ref 1)], []) s)
  refine e_L 1 (f' := (1, [(0, .ref 1)], [.ref 1])) rfl ?_
  refine e_gI 9 7 rfl rfl lc_1 ?_
  refine e_L 1 (f' := (5, [(0, .ref 1)], [.ref 1, .int (s.1 1 7)])) rfl ?_
  refine e_gI 9 5 rfl rfl lc_1 ?_
  refine e_icmp 64 rfl rfl rfl (fun c1 => ?_) (fun c1 => ?_)
  · exact qE_sub (qsubL [0] rfl (ks := [0]) rfl (by decide))
  · refine e_L 2 (f' := (13, [(0, .ref 1)], [.ref 1, .ref 1])) rfl ?_
    refine e_gI 9 7 rfl rfl lc_1 ?_
    refine e_vI 168 rfl rfl ix_X9_byteAt rfl (q_recvOf lc_1 rfl) (Nat.le_of_ble_eq_true rfl) (fun w2 s3 e4 => ?_)
    refine e_sI 170 rfl rfl rfl ix_X9_isDigit rfl (Nat.le_of_ble_eq_true rfl) (fun w5 s6 e7 => ?_)
    refine e_ifz 64 rfl rfl rfl (fun c8 => ?_) (fun c8 => ?_)
    · exact qE_sub (qsubL [0] rfl (ks := [0]) rfl (by decide))
    · refine e_L 2 (f' := (27, [(0, .ref 1)], [.ref 1, .ref 1])) rfl ?_
      refine e_gJ 9 11 rfl rfl lc_1 ?_
      refine e_ldc2 (v := (10 : Int64)) rfl (by decide +kernel) ?_
      refine e_L 3 (f' := (36, [(0, .ref 1)], [.ref 1, .ref 1, .long ((s6.2.1 1 11) * (10 : Int64)), .ref 1])) rfl ?_
      refine e_gI 9 7 rfl rfl lc_1 ?_
      refine e_vI 168 rfl rfl ix_X9_byteAt rfl (q_recvOf lc_1 rfl) (Nat.le_of_ble_eq_true rfl) (fun w9 s10 e11 => ?_)
      refine e_L 2 (f' := (44, [(0, .ref 1)], [.long (((s6.2.1 1 11) * (10 : Int64)) + w9.toInt64), .ref 1])) rfl ?_
      refine e_ldc2 (v := (48 : Int64)) rfl (by decide +kernel) ?_
      refine e_L 1 (f' := (48, [(0, .ref 1)], [.long ((((s6.2.1 1 11) * (10 : Int64)) + w9.toInt64) - (48 : Int64)), .ref 1])) rfl ?_
      refine e_pJ 9 11 rfl rfl lc_1 rfl ?_
      refine e_nS fun s12 => ?_
      refine e_L 2 (f' := (53, [(0, .ref 1)], [.ref 1, .ref 1])) rfl ?_
      refine e_gI 9 7 rfl rfl lc_1 ?_
      refine e_L 2 (f' := (58, [(0, .ref 1)], [.int ((s12.1 1 7) + (1 : Int32)), .ref 1])) rfl ?_
      refine e_pI 9 7 rfl rfl lc_1 rfl ?_
      refine e_nS fun s13 => ?_
      refine e_L 1 (f' := (0, [(0, .ref 1)], [])) rfl ?_
      exact qE_sub (qsubL [0] rfl (ks := [0]) rfl (by decide))
set_option maxRecDepth 100000 in
set_option maxHeartbeats 4000000 in
theorem le_X9_cutNumber_64 (en : pN) (d : Nat) (s : qS) : qle (if ((s.1 1 7) - (s.1 1 10)) ≤ (3 : Int32) then L_X9_cutNumber_83 en d (3 : Int32) s else L_X9_cutNumber_83 en d (1 : Int32) s) (L_X9_cutNumber_64 en d s) := by
  show qle _ (qE (qev en d) en none tb_X9_cutNumber (64, [(0, .ref 1)], []) s)
  refine e_L 2 (f' := (66, [(0, .ref 1)], [.ref 1, .ref 1])) rfl ?_
  refine e_gI 9 7 rfl rfl lc_1 ?_
  refine e_L 1 (f' := (70, [(0, .ref 1)], [.ref 1, .int (s.1 1 7), .ref 1])) rfl ?_
  refine e_gI 9 10 rfl rfl lc_1 ?_
  refine e_L 2 (f' := (75, [(0, .ref 1)], [.int (3 : Int32), .int ((s.1 1 7) - (s.1 1 10)), .ref 1])) rfl ?_
  refine e_icmp 82 rfl rfl rfl (fun c1 => ?_) (fun c1 => ?_)
  · refine e_L 1 (f' := (83, [(0, .ref 1)], [.int (3 : Int32), .ref 1])) rfl ?_
    exact qE_sub (qsubL [] rfl (ks := [0]) rfl (by decide))
  · refine e_L 2 (f' := (83, [(0, .ref 1)], [.int (1 : Int32), .ref 1])) rfl ?_
    exact qE_sub (qsubL [] rfl (ks := [0]) rfl (by decide))
set_option maxRecDepth 100000 in
set_option maxHeartbeats 4000000 in
theorem le_X9_cutNumber_83 (en : pN) (d : Nat) (vs1 : Int32) (s : qS) : qle (nm (uI s 1 9 vs1) (fun s1 => some (none, s1))) (L_X9_cutNumber_83 en d vs1 s) := by
  show qle _ (qE (qev en d) en none tb_X9_cutNumber (83, [], [.int vs1, .ref 1]) s)
  refine e_pI 9 9 rfl rfl lc_1 rfl ?_
  refine e_nS fun s1 => ?_
  exact e_rV rfl rfl
set_option maxRecDepth 100000 in
set_option maxHeartbeats 4000000 in
theorem le_X9_cutNumber (en : pN) (d : Nat) (s : qS) : qle (L_X9_cutNumber_0 en d s) (qev en (d + 1) 174 [.ref 1] s) := by
  refine e_enter ix_X9_cutNumber (Nat.le_of_ble_eq_true rfl) ?_
  show qle _ (qE (qev en d) en none tb_X9_cutNumber (0, [(0, .ref 1)], []) s)
  exact qE_sub (qsubL [0] rfl (ks := [0]) rfl (by decide))
noncomputable def L_X9_cutSign_60 (en : pN) (d : Nat) (v1 : Int32) (vs0 : Int32) (s : qS) : Option qR := qE (qev en d) en none tb_X9_cutSign (60, [(0, .ref 1), (1, .int v1)], [.int vs0]) s
set_option maxRecDepth 100000 in
set_option maxHeartbeats 4000000 in
theorem le_X9_cutSign_60 (en : pN) (d : Nat) (v1 : Int32) (vs0 : Int32) (s : qS) : qle (if vs0 = (0 : Int32) then some (none, s) else bI (qev en d 168 [.ref 1, .int (s.1 1 7)] s) (fun w2 s3 => if ¬ w2 = (61 : Int32) then some (none, s3) else nm (uI s3 1 7 ((s3.1 1 7) + (1 : Int32))) (fun s6 => nm (uI s6 1 9 (v1 + (128 : Int32))) (fun s7 => some (none, s7))))) (L_X9_cutSign_60 en d v1 vs0 s) := by
  show qle _ (qE (qev en d) en none tb_X9_cutSign (60, [(0, .ref 1), (1, .int v1)], [.int vs0]) s)
  refine e_L 2 (f' := (62, [(2, .int vs0), (0, .ref 1), (1, .int v1)], [.int vs0])) rfl ?_
  refine e_ifz 97 rfl rfl rfl (fun c1 => ?_) (fun c1 => ?_)
  · exact e_rV rfl rfl
  · refine e_L 2 (f' := (67, [(2, .int vs0), (0, .ref 1), (1, .int v1)], [.ref 1, .ref 1])) rfl ?_
    refine e_gI 9 7 rfl rfl lc_1 ?_
    refine e_vI 168 rfl rfl ix_X9_byteAt rfl (q_recvOf lc_1 rfl) (Nat.le_of_ble_eq_true rfl) (fun w2 s3 e4 => ?_)
    refine e_L 1 (f' := (75, [(2, .int vs0), (0, .ref 1), (1, .int v1)], [.int (61 : Int32), .int w2])) rfl ?_
    refine e_icmp 97 rfl rfl rfl (fun c5 => ?_) (fun c5 => ?_)
    · exact e_rV rfl rfl
    · refine e_L 2 (f' := (80, [(2, .int vs0), (0, .ref 1), (1, .int v1)], [.ref 1, .ref 1])) rfl ?_
      refine e_gI 9 7 rfl rfl lc_1 ?_
      refine e_L 2 (f' := (85, [(2, .int vs0), (0, .ref 1), (1, .int v1)], [.int ((s3.1 1 7) + (1 : Int32)), .ref 1])) rfl ?_
      refine e_pI 9 7 rfl rfl lc_1 rfl ?_
      refine e_nS fun s6 => ?_
      refine e_L 4 (f' := (94, [(2, .int vs0), (0, .ref 1), (1, .int v1)], [.int (v1 + (128 : Int32)), .ref 1])) rfl ?_
      refine e_pI 9 9 rfl rfl lc_1 rfl ?_
      refine e_nS fun s7 => ?_
      exact e_rV rfl rfl
set_option maxRecDepth 100000 in
set_option maxHeartbeats 4000000 in
theorem le_X9_cutSign (en : pN) (d : Nat) (a1 : Int32) (s : qS) : qle (bI (qev en d 415 [.retAddr 3, .int (a1.toUInt32 % 65536).toInt32] s) (fun w1 s2 => if (0 : Int32) ≤ w1 then nm (uI s2 1 7 ((s2.1 1 7) + (1 : Int32))) (fun s5 => nm (uI s5 1 9 a1) (fun s6 => if a1 = (61 : Int32) then L_X9_cutSign_60 en d a1 (1 : Int32) s6 else if a1 = (33 : Int32) then L_X9_cutSign_60 en d a1 (1 : Int32) s6 else if a1 = (60 : Int32) then L_X9_cutSign_60 en d a1 (1 : Int32) s6 else if ¬ a1 = (62 : Int32) then L_X9_cutSign_60 en d a1 (0 : Int32) s6 else L_X9_cutSign_60 en d a1 (1 : Int32) s6)) else nm (uI s2 1 9 (1 : Int32)) (fun s11 => some (none, s11)))) (qev en (d + 1) 175 [.ref 1, .int a1] s) := by
  refine e_enter ix_X9_cutSign (Nat.le_of_ble_eq_true rfl) ?_
  show qle _ (qE (qev en d) en none tb_X9_cutSign (0, [(0, .ref 1), (1, .int a1)], []) s)
  refine e_ldcS (k := 2) rfl rfl ?_
  refine e_L 2 (f' := (4, [(0, .ref 1), (1, .int a1)], [.int (a1.toUInt32 % 65536).toInt32, .retAddr 3])) rfl ?_
  refine e_vI 415 rfl rfl ix_J0_indexOf_0f7a4 rfl rfl (Nat.le_of_ble_eq_true rfl) (fun w1 s2 e3 => ?_)
  refine e_ifz 16 rfl rfl rfl (fun c4 => ?_) (fun c4 => ?_)
  · refine e_L 2 (f' := (18, [(0, .ref 1), (1, .int a1)], [.ref 1, .ref 1])) rfl ?_
    refine e_gI 9 7 rfl rfl lc_1 ?_
    refine e_L 2 (f' := (23, [(0, .ref 1), (1, .int a1)], [.int ((s2.1 1 7) + (1 : Int32)), .ref 1])) rfl ?_
    refine e_pI 9 7 rfl rfl lc_1 rfl ?_
    refine e_nS fun s5 => ?_
    refine e_L 2 (f' := (28, [(0, .ref 1), (1, .int a1)], [.int a1, .ref 1])) rfl ?_
    refine e_pI 9 9 rfl rfl lc_1 rfl ?_
    refine e_nS fun s6 => ?_
    refine e_L 2 (f' := (34, [(0, .ref 1), (1, .int a1)], [.int (61 : Int32), .int a1])) rfl ?_
    refine e_icmp 55 rfl rfl rfl (fun c7 => ?_) (fun c7 => ?_)
    · refine e_L 2 (f' := (60, [(0, .ref 1), (1, .int a1)], [.int (1 : Int32)])) rfl ?_
      exact qE_sub (qsubL [0, 1] rfl (ks := [0, 1]) rfl (by decide))
    · refine e_L 2 (f' := (40, [(0, .ref 1), (1, .int a1)], [.int (33 : Int32), .int a1])) rfl ?_
      refine e_icmp 55 rfl rfl rfl (fun c8 => ?_) (fun c8 => ?_)
      · refine e_L 2 (f' := (60, [(0, .ref 1), (1, .int a1)], [.int (1 : Int32)])) rfl ?_
        exact qE_sub (qsubL [0, 1] rfl (ks := [0, 1]) rfl (by decide))
      · refine e_L 2 (f' := (46, [(0, .ref 1), (1, .int a1)], [.int (60 : Int32), .int a1])) rfl ?_
        refine e_icmp 55 rfl rfl rfl (fun c9 => ?_) (fun c9 => ?_)
        · refine e_L 2 (f' := (60, [(0, .ref 1), (1, .int a1)], [.int (1 : Int32)])) rfl ?_
          exact qE_sub (qsubL [0, 1] rfl (ks := [0, 1]) rfl (by decide))
        · refine e_L 2 (f' := (52, [(0, .ref 1), (1, .int a1)], [.int (62 : Int32), .int a1])) rfl ?_
          refine e_icmp 59 rfl rfl rfl (fun c10 => ?_) (fun c10 => ?_)
          · refine e_L 1 (f' := (60, [(0, .ref 1), (1, .int a1)], [.int (0 : Int32)])) rfl ?_
            exact qE_sub (qsubL [0, 1] rfl (ks := [0, 1]) rfl (by decide))
          · refine e_L 2 (f' := (60, [(0, .ref 1), (1, .int a1)], [.int (1 : Int32)])) rfl ?_
            exact qE_sub (qsubL [0, 1] rfl (ks := [0, 1]) rfl (by decide))
  · refine e_L 2 (f' := (12, [(0, .ref 1), (1, .int a1)], [.int (1 : Int32), .ref 1])) rfl ?_
    refine e_pI 9 9 rfl rfl lc_1 rfl ?_
    refine e_nS fun s11 => ?_
    exact e_rV rfl rfl
