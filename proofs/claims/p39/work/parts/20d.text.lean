/-! what methods do, printed by program out of their tables: X3_localSlot .. -/
set_option maxRecDepth 100000 in
set_option maxHeartbeats 4000000 in
theorem le_X3_localSlot (en : pN) (d : Nat) (a1 : Int32) (a2 : Int32) (s : qS) : qle (some (some (.int (((16 : Int32) + (a1 * (6 : Int32))) + a2)), s)) (qev en (d + 1) 32 [.int a1, .int a2] s) := by
  refine e_enter ix_X3_localSlot (Nat.le_of_ble_eq_true rfl) ?_
  show qle _ (qE (qev en d) en (some .int) tb_X3_localSlot (0, [(0, .int a1), (1, .int a2)], []) s)
  refine e_L 7 (f' := (9, [(0, .int a1), (1, .int a2)], [.int (((16 : Int32) + (a1 * (6 : Int32))) + a2)])) rfl ?_
  exact e_rI rfl rfl
noncomputable def L_X3_enterFirst_20 (en : pN) (d : Nat) (r0 : Nat) (v3 : Int32) (s : qS) : Option qR := qE (qev en d) en none tb_X3_enterFirst (20, [(0, .ref r0), (3, .int v3)], []) s
noncomputable def L_X3_enterFirst_96 (en : pN) (d : Nat) (r0 : Nat) (v3 : Int32) (s : qS) : Option qR := qE (qev en d) en none tb_X3_enterFirst (96, [(0, .ref r0), (3, .int v3)], []) s
noncomputable def L_X3_enterFirst_119 (en : pN) (d : Nat) (r0 : Nat) (v3 : Int32) (s : qS) : Option qR := qE (qev en d) en none tb_X3_enterFirst (119, [(0, .ref r0), (3, .int v3)], []) s
set_option maxRecDepth 100000 in
set_option maxHeartbeats 4000000 in
theorem le_X3_enterFirst_20 (en : pN) (d : Nat) (r0 : Nat) (v3 : Int32) (s : qS) : qle (gd (lc r0 = 3) (gd (s.2.2 r0 7 ≠ 0 ∧ lc (s.2.2 r0 7 - 1) = 5) (nm (s.2.2 r0 7 - 1) (fun q2 => if (s.1 q2 9) ≤ v3 then L_X3_enterFirst_96 en d r0 (0 : Int32) s else gd (s.2.2 r0 7 ≠ 0 ∧ lc (s.2.2 r0 7 - 1) = 5) (nm (s.2.2 r0 7 - 1) (fun q5 => gd (p_inB v3 8 = true) (gd (p_inB ((48 : Int32) + v3) 236 = true) (nm (uI s (r0 + 1) (((48 : Int32) + v3).toNatClampNeg) (s.1 (q5 + 4) v3.toNatClampNeg)) (fun s8 => if ¬ (s8.1 r0 8) = (2 : Int32) then L_X3_enterFirst_20 en d r0 (v3 + (1 : Int32)) s8 else gd (p_inB ((72 : Int32) + v3) 236 = true) (nm (uI s8 (r0 + 1) (((72 : Int32) + v3).toNatClampNeg) (1 : Int32)) (fun s11 => gd (s11.2.2 r0 7 ≠ 0 ∧ lc (s11.2.2 r0 7 - 1) = 5) (nm (s11.2.2 r0 7 - 1) (fun q13 => gd (p_inB ((80 : Int32) + (v3 * (9 : Int32))) 236 = true) (nm (uI s11 (r0 + 1) (((80 : Int32) + (v3 * (9 : Int32))).toNatClampNeg) (s11.1 (q13 + 4) v3.toNatClampNeg)) (fun s15 => L_X3_enterFirst_20 en d r0 (v3 + (1 : Int32)) s15))))))))))))))) (L_X3_enterFirst_20 en d r0 v3 s) := by
  show qle _ (qE (qev en d) en none tb_X3_enterFirst (20, [(0, .ref r0), (3, .int v3)], []) s)
  refine qle_gd fun h_r0 => ?_
  refine e_L 2 (f' := (22, [(0, .ref r0), (3, .int v3)], [.ref r0, .int v3])) rfl ?_
  refine qle_gd fun h1 => ?_
  refine e_gM 3 7 rfl rfl h_r0 h1.1 ?_
  refine e_nR (ci := 5) h1.2 fun q2 h_q2 => ?_
  refine e_gI 5 9 rfl rfl h_q2 ?_
  refine e_icmp 94 rfl rfl rfl (fun c3 => ?_) (fun c3 => ?_)
  · refine e_L 2 (f' := (96, [(3, .int (0 : Int32)), (0, .ref r0)], [])) rfl ?_
    exact qE_sub (qsubL [1, 0] rfl (ks := [3, 0]) rfl (by decide))
  · refine e_L 1 (f' := (32, [(0, .ref r0), (3, .int v3)], [.ref r0])) rfl ?_
    refine e_gR (q := (r0 + 1)) 3 0 rfl rfl h_r0 (fo_3_0 h_r0) ?_
    refine e_L 4 (f' := (40, [(0, .ref r0), (3, .int v3)], [.ref r0, .int ((48 : Int32) + v3), .ref (r0 + 1)])) rfl ?_
    refine qle_gd fun h4 => ?_
    refine e_gM 3 7 rfl rfl h_r0 h4.1 ?_
    refine e_nR (ci := 5) h4.2 fun q5 h_q5 => ?_
    refine e_gR (q := (q5 + 4)) 5 4 rfl rfl h_q5 (fo_5_4 h_q5) ?_
    refine e_L 1 (f' := (47, [(0, .ref r0), (3, .int v3)], [.int v3, .ref (q5 + 4), .int ((48 : Int32) + v3), .ref (r0 + 1)])) rfl ?_
    refine qle_gd fun h6 => ?_
    refine e_ial (n := 8) (k := v3.toNatClampNeg) rfl (fc_5_4 h_q5) (fl_5_4 h_q5) h6 rfl ?_
    refine qle_gd fun h7 => ?_
    refine e_ias (n := 236) (k := ((48 : Int32) + v3).toNatClampNeg) rfl (fc_3_0 h_r0) (fl_3_0 h_r0) h7 rfl ?_
    refine e_nS fun s8 => ?_
    refine e_L 1 (f' := (50, [(0, .ref r0), (3, .int v3)], [.ref r0])) rfl ?_
    refine e_gI 3 8 rfl rfl h_r0 ?_
    refine e_L 1 (f' := (54, [(0, .ref r0), (3, .int v3)], [.int (2 : Int32), .int (s8.1 r0 8)])) rfl ?_
    refine e_icmp 88 rfl rfl rfl (fun c9 => ?_) (fun c9 => ?_)
    · refine e_L 2 (f' := (20, [(3, .int (v3 + (1 : Int32))), (0, .ref r0)], [])) rfl ?_
      exact qE_sub (qsubL [1, 0] rfl (ks := [3, 0]) rfl (by decide))
    · refine e_L 1 (f' := (58, [(0, .ref r0), (3, .int v3)], [.ref r0])) rfl ?_
      refine e_gR (q := (r0 + 1)) 3 0 rfl rfl h_r0 (fo_3_0 h_r0) ?_
      refine e_L 4 (f' := (66, [(0, .ref r0), (3, .int v3)], [.int (1 : Int32), .int ((72 : Int32) + v3), .ref (r0 + 1)])) rfl ?_
      refine qle_gd fun h10 => ?_
      refine e_ias (n := 236) (k := ((72 : Int32) + v3).toNatClampNeg) rfl (fc_3_0 h_r0) (fl_3_0 h_r0) h10 rfl ?_
      refine e_nS fun s11 => ?_
      refine e_L 1 (f' := (68, [(0, .ref r0), (3, .int v3)], [.ref r0])) rfl ?_
      refine e_gR (q := (r0 + 1)) 3 0 rfl rfl h_r0 (fo_3_0 h_r0) ?_
      refine e_L 6 (f' := (79, [(0, .ref r0), (3, .int v3)], [.ref r0, .int ((80 : Int32) + (v3 * (9 : Int32))), .ref (r0 + 1)])) rfl ?_
      refine qle_gd fun h12 => ?_
      refine e_gM 3 7 rfl rfl h_r0 h12.1 ?_
      refine e_nR (ci := 5) h12.2 fun q13 h_q13 => ?_
      refine e_gR (q := (q13 + 4)) 5 4 rfl rfl h_q13 (fo_5_4 h_q13) ?_
      refine e_L 1 (f' := (86, [(0, .ref r0), (3, .int v3)], [.int v3, .ref (q13 + 4), .int ((80 : Int32) + (v3 * (9 : Int32))), .ref (r0 + 1)])) rfl ?_
      refine e_ial (n := 8) (k := v3.toNatClampNeg) rfl (fc_5_4 h_q13) (fl_5_4 h_q13) h6 rfl ?_
      refine qle_gd fun h14 => ?_
      refine e_ias (n := 236) (k := ((80 : Int32) + (v3 * (9 : Int32))).toNatClampNeg) rfl (fc_3_0 h_r0) (fl_3_0 h_r0) h14 rfl ?_
      refine e_nS fun s15 => ?_
      refine e_L 2 (f' := (20, [(3, .int (v3 + (1 : Int32))), (0, .ref r0)], [])) rfl ?_
      exact qE_sub (qsubL [1, 0] rfl (ks := [3, 0]) rfl (by decide))
set_option maxRecDepth 100000 in
set_option maxHeartbeats 4000000 in
theorem le_X3_enterFirst_96 (en : pN) (d : Nat) (r0 : Nat) (v3 : Int32) (s : qS) : qle (gd (lc r0 = 3) (if (4 : Int32) ≤ v3 then L_X3_enterFirst_119 en d r0 (0 : Int32) s else gd (p_inB ((40 : Int32) + v3) 236 = true) (nm (uI s (r0 + 1) (((40 : Int32) + v3).toNatClampNeg) (-1 : Int32)) (fun s3 => L_X3_enterFirst_96 en d r0 (v3 + (1 : Int32)) s3)))) (L_X3_enterFirst_96 en d r0 v3 s) := by
  show qle _ (qE (qev en d) en none tb_X3_enterFirst (96, [(0, .ref r0), (3, .int v3)], []) s)
  refine qle_gd fun h_r0 => ?_
  refine e_L 2 (f' := (98, [(0, .ref r0), (3, .int v3)], [.int (4 : Int32), .int v3])) rfl ?_
  refine e_icmp 117 rfl rfl rfl (fun c1 => ?_) (fun c1 => ?_)
  · refine e_L 2 (f' := (119, [(3, .int (0 : Int32)), (0, .ref r0)], [])) rfl ?_
    exact qE_sub (qsubL [1, 0] rfl (ks := [3, 0]) rfl (by decide))
  · refine e_L 1 (f' := (102, [(0, .ref r0), (3, .int v3)], [.ref r0])) rfl ?_
    refine e_gR (q := (r0 + 1)) 3 0 rfl rfl h_r0 (fo_3_0 h_r0) ?_
    refine e_L 4 (f' := (110, [(0, .ref r0), (3, .int v3)], [.int (-1 : Int32), .int ((40 : Int32) + v3), .ref (r0 + 1)])) rfl ?_
    refine qle_gd fun h2 => ?_
    refine e_ias (n := 236) (k := ((40 : Int32) + v3).toNatClampNeg) rfl (fc_3_0 h_r0) (fl_3_0 h_r0) h2 rfl ?_
    refine e_nS fun s3 => ?_
    refine e_L 2 (f' := (96, [(3, .int (v3 + (1 : Int32))), (0, .ref r0)], [])) rfl ?_
    exact qE_sub (qsubL [1, 0] rfl (ks := [3, 0]) rfl (by decide))
set_option maxRecDepth 100000 in
set_option maxHeartbeats 4000000 in
theorem le_X3_enterFirst_119 (en : pN) (d : Nat) (r0 : Nat) (v3 : Int32) (s : qS) : qle (gd (lc r0 = 3) (if (4 : Int32) ≤ v3 then some (none, s) else gd (p_inB ((4 : Int32) + v3) 236 = true) (nm (uI s (r0 + 1) (((4 : Int32) + v3).toNatClampNeg) (-1 : Int32)) (fun s3 => gd (s3.2.2 r0 7 ≠ 0 ∧ lc (s3.2.2 r0 7 - 1) = 5) (nm (s3.2.2 r0 7 - 1) (fun q5 => if (s3.1 q5 11) ≤ v3 then L_X3_enterFirst_119 en d r0 (v3 + (1 : Int32)) s3 else gd (s3.2.2 r0 7 ≠ 0 ∧ lc (s3.2.2 r0 7 - 1) = 5) (nm (s3.2.2 r0 7 - 1) (fun q8 => if ¬ (((s3.1 q8 8) >>> (v3 &&& 31)) &&& (1 : Int32)) = (0 : Int32) then L_X3_enterFirst_119 en d r0 (v3 + (1 : Int32)) s3 else gd (s3.2.2 r0 7 ≠ 0 ∧ lc (s3.2.2 r0 7 - 1) = 5) (nm (s3.2.2 r0 7 - 1) (fun q11 => gd (p_inB v3 4 = true) (bV (qev en d 34 [.ref r0, .int v3, .int (s3.1 (q11 + 5) v3.toNatClampNeg)] s3) (fun s14 => L_X3_enterFirst_119 en d r0 (v3 + (1 : Int32)) s14)))))))))))) (L_X3_enterFirst_119 en d r0 v3 s) := by
  show qle _ (qE (qev en d) en none tb_X3_enterFirst (119, [(0, .ref r0), (3, .int v3)], []) s)
  refine qle_gd fun h_r0 => ?_
  refine e_L 2 (f' := (121, [(0, .ref r0), (3, .int v3)], [.int (4 : Int32), .int v3])) rfl ?_
  refine e_icmp 178 rfl rfl rfl (fun c1 => ?_) (fun c1 => ?_)
  · exact e_rV rfl rfl
  · refine e_L 1 (f' := (125, [(0, .ref r0), (3, .int v3)], [.ref r0])) rfl ?_
    refine e_gR (q := (r0 + 1)) 3 0 rfl rfl h_r0 (fo_3_0 h_r0) ?_
    refine e_L 4 (f' := (132, [(0, .ref r0), (3, .int v3)], [.int (-1 : Int32), .int ((4 : Int32) + v3), .ref (r0 + 1)])) rfl ?_
    refine qle_gd fun h2 => ?_
    refine e_ias (n := 236) (k := ((4 : Int32) + v3).toNatClampNeg) rfl (fc_3_0 h_r0) (fl_3_0 h_r0) h2 rfl ?_
    refine e_nS fun s3 => ?_
    refine e_L 2 (f' := (135, [(0, .ref r0), (3, .int v3)], [.ref r0, .int v3])) rfl ?_
    refine qle_gd fun h4 => ?_
    refine e_gM 3 7 rfl rfl h_r0 h4.1 ?_
    refine e_nR (ci := 5) h4.2 fun q5 h_q5 => ?_
    refine e_gI 5 11 rfl rfl h_q5 ?_
    refine e_icmp 172 rfl rfl rfl (fun c6 => ?_) (fun c6 => ?_)
    · refine e_L 2 (f' := (119, [(3, .int (v3 + (1 : Int32))), (0, .ref r0)], [])) rfl ?_
      exact qE_sub (qsubL [1, 0] rfl (ks := [3, 0]) rfl (by decide))
    · refine e_L 1 (f' := (145, [(0, .ref r0), (3, .int v3)], [.ref r0])) rfl ?_
      refine qle_gd fun h7 => ?_
      refine e_gM 3 7 rfl rfl h_r0 h7.1 ?_
      refine e_nR (ci := 5) h7.2 fun q8 h_q8 => ?_
      refine e_gI 5 8 rfl rfl h_q8 ?_
      refine e_L 4 (f' := (155, [(0, .ref r0), (3, .int v3)], [.int (((s3.1 q8 8) >>> (v3 &&& 31)) &&& (1 : Int32))])) rfl ?_
      refine e_ifz 172 rfl rfl rfl (fun c9 => ?_) (fun c9 => ?_)
      · refine e_L 2 (f' := (119, [(3, .int (v3 + (1 : Int32))), (0, .ref r0)], [])) rfl ?_
        exact qE_sub (qsubL [1, 0] rfl (ks := [3, 0]) rfl (by decide))
      · refine e_L 3 (f' := (161, [(0, .ref r0), (3, .int v3)], [.ref r0, .int v3, .ref r0])) rfl ?_
        refine qle_gd fun h10 => ?_
        refine e_gM 3 7 rfl rfl h_r0 h10.1 ?_
        refine e_nR (ci := 5) h10.2 fun q11 h_q11 => ?_
        refine e_gR (q := (q11 + 5)) 5 5 rfl rfl h_q11 (fo_5_5 h_q11) ?_
        refine e_L 1 (f' := (168, [(0, .ref r0), (3, .int v3)], [.int v3, .ref (q11 + 5), .int v3, .ref r0])) rfl ?_
        refine qle_gd fun h12 => ?_
        refine e_ial (n := 4) (k := v3.toNatClampNeg) rfl (fc_5_5 h_q11) (fl_5_5 h_q11) h12 rfl ?_
        refine e_vV 34 rfl rfl ix_X3_go rfl (q_recvOf h_r0 rfl) (Nat.le_of_ble_eq_true rfl) (fun s14 e15 => ?_)
        refine e_L 2 (f' := (119, [(3, .int (v3 + (1 : Int32))), (0, .ref r0)], [])) rfl ?_
        exact qE_sub (qsubL [1, 0] rfl (ks := [3, 0]) rfl (by decide))
set_option maxRecDepth 100000 in
set_option maxHeartbeats 4000000 in
theorem le_X3_enterFirst (en : pN) (d : Nat) (t : Nat) (a1 : Nat) (a2 : Int32) (s : qS) : qle (gd (lc t = 3) (gd (lc a1 = 5) (nm (uR s t 7 (a1 + 1)) (fun s1 => nm (uI s1 t 8 a2) (fun s2 => bV (qev en d 435 [.ref (t + 1), .int (0 : Int32)] s2) (fun s4 => L_X3_enterFirst_20 en d t (0 : Int32) s4)))))) (qev en (d + 1) 33 [.ref t, .ref a1, .int a2] s) := by
  refine e_enter ix_X3_enterFirst (Nat.le_of_ble_eq_true rfl) ?_
  show qle _ (qE (qev en d) en none tb_X3_enterFirst (0, [(0, .ref t), (1, .ref a1), (2, .int a2)], []) s)
  refine qle_gd fun ht => ?_
  refine qle_gd fun h_a1 => ?_
  refine e_L 2 (f' := (2, [(0, .ref t), (1, .ref a1), (2, .int a2)], [.ref a1, .ref t])) rfl ?_
  refine e_pM 3 7 rfl rfl ht rfl ?_
  refine e_nS fun s1 => ?_
  refine e_L 2 (f' := (7, [(0, .ref t), (1, .ref a1), (2, .int a2)], [.int a2, .ref t])) rfl ?_
  refine e_pI 3 8 rfl rfl ht rfl ?_
  refine e_nS fun s2 => ?_
  refine e_L 1 (f' := (11, [(0, .ref t), (1, .ref a1), (2, .int a2)], [.ref t])) rfl ?_
  refine e_gR (q := (t + 1)) 3 0 rfl rfl ht (fo_3_0 ht) ?_
  refine e_L 1 (f' := (15, [(0, .ref t), (1, .ref a1), (2, .int a2)], [.int (0 : Int32), .ref (t + 1)])) rfl ?_
  refine e_sV 435 rfl rfl rfl ix_J7_fill_53178 rfl (Nat.le_of_ble_eq_true rfl) (fun s4 e5 => ?_)
  refine e_L 2 (f' := (20, [(3, .int (0 : Int32)), (0, .ref t), (1, .ref a1), (2, .int a2)], [])) rfl ?_
  exact qE_sub (qsubL [1, 0] rfl (ks := [3, 0, 1, 2]) rfl (by decide))
noncomputable def L_X3_go_25 (en : pN) (d : Nat) (rs0 : Nat) (vs1 : Int32) (vs2 : Int32) (s : qS) : Option qR := qE (qev en d) en none tb_X3_go (25, [], [.int vs2, .int vs1, .ref (rs0 + 1)]) s
set_option maxRecDepth 100000 in
set_option maxHeartbeats 4000000 in
theorem le_X3_go_25 (en : pN) (d : Nat) (rs0 : Nat) (vs1 : Int32) (vs2 : Int32) (s : qS) : qle (gd (lc rs0 = 3) (gd (p_inB vs1 236 = true) (nm (uI s (rs0 + 1) (vs1.toNatClampNeg) vs2) (fun s2 => some (none, s2))))) (L_X3_go_25 en d rs0 vs1 vs2 s) := by
  show qle _ (qE (qev en d) en none tb_X3_go (25, [], [.int vs2, .int vs1, .ref (rs0 + 1)]) s)
  refine qle_gd fun h_rs0 => ?_
  refine qle_gd fun h1 => ?_
  refine e_ias (n := 236) (k := vs1.toNatClampNeg) rfl (fc_3_0 h_rs0) (fl_3_0 h_rs0) h1 rfl ?_
  refine e_nS fun s2 => ?_
  exact e_rV rfl rfl
set_option maxRecDepth 100000 in
set_option maxHeartbeats 4000000 in
theorem le_X3_go (en : pN) (d : Nat) (t : Nat) (a1 : Int32) (a2 : Int32) (s : qS) : qle (gd (lc t = 3) (gd (p_inB ((4 : Int32) + a1) 236 = true) (nm (uI s (t + 1) (((4 : Int32) + a1).toNatClampNeg) a2) (fun s2 => if (0 : Int32) ≤ a2 then L_X3_go_25 en d t ((0 : Int32) + a1) (1 : Int32) s2 else L_X3_go_25 en d t ((0 : Int32) + a1) (4 : Int32) s2)))) (qev en (d + 1) 34 [.ref t, .int a1, .int a2] s) := by
  refine e_enter ix_X3_go (Nat.le_of_ble_eq_true rfl) ?_
  show qle _ (qE (qev en d) en none tb_X3_go (0, [(0, .ref t), (1, .int a1), (2, .int a2)], []) s)
  refine qle_gd fun ht => ?_
  refine e_L 1 (f' := (1, [(0, .ref t), (1, .int a1), (2, .int a2)], [.ref t])) rfl ?_
  refine e_gR (q := (t + 1)) 3 0 rfl rfl ht (fo_3_0 ht) ?_
  refine e_L 4 (f' := (8, [(0, .ref t), (1, .int a1), (2, .int a2)], [.int a2, .int ((4 : Int32) + a1), .ref (t + 1)])) rfl ?_
  refine qle_gd fun h1 => ?_
  refine e_ias (n := 236) (k := ((4 : Int32) + a1).toNatClampNeg) rfl (fc_3_0 ht) (fl_3_0 ht) h1 rfl ?_
  refine e_nS fun s2 => ?_
  refine e_L 1 (f' := (10, [(0, .ref t), (1, .int a1), (2, .int a2)], [.ref t])) rfl ?_
  refine e_gR (q := (t + 1)) 3 0 rfl rfl ht (fo_3_0 ht) ?_
  refine e_L 4 (f' := (17, [(0, .ref t), (1, .int a1), (2, .int a2)], [.int a2, .int ((0 : Int32) + a1), .ref (t + 1)])) rfl ?_
  refine e_ifz 24 rfl rfl rfl (fun c3 => ?_) (fun c3 => ?_)
  · refine e_L 1 (f' := (25, [(0, .ref t), (1, .int a1), (2, .int a2)], [.int (1 : Int32), .int ((0 : Int32) + a1), .ref (t + 1)])) rfl ?_
    exact qE_sub (qsubL [] rfl (ks := [0, 1, 2]) rfl (by decide))
  · refine e_L 2 (f' := (25, [(0, .ref t), (1, .int a1), (2, .int a2)], [.int (4 : Int32), .int ((0 : Int32) + a1), .ref (t + 1)])) rfl ?_
    exact qE_sub (qsubL [] rfl (ks := [0, 1, 2]) rfl (by decide))
noncomputable def L_X3_pickSlots_28 (en : pN) (d : Nat) (r0 : Nat) (v1 : Int32) (s : qS) : Option qR := qE (qev en d) en none tb_X3_pickSlots (28, [(0, .ref r0), (1, .int v1)], []) s
noncomputable def L_X3_pickSlots_77 (en : pN) (d : Nat) (r0 : Nat) (v1 : Int32) (s : qS) : Option qR := qE (qev en d) en none tb_X3_pickSlots (77, [(0, .ref r0), (1, .int v1)], []) s
noncomputable def L_X3_pickSlots_163 (en : pN) (d : Nat) (r0 : Nat) (s : qS) : Option qR := qE (qev en d) en none tb_X3_pickSlots (163, [(0, .ref r0)], []) s
noncomputable def L_X3_pickSlots_253 (en : pN) (d : Nat) (r0 : Nat) (s : qS) : Option qR := qE (qev en d) en none tb_X3_pickSlots (253, [(0, .ref r0)], []) s
set_option maxRecDepth 100000 in
set_option maxHeartbeats 4000000 in
theorem le_X3_pickSlots_28 (en : pN) (d : Nat) (r0 : Nat) (v1 : Int32) (s : qS) : qle (gd (lc r0 = 3) (gd (s.2.2 r0 7 ≠ 0 ∧ lc (s.2.2 r0 7 - 1) = 5) (nm (s.2.2 r0 7 - 1) (fun q2 => if (s.1 q2 11) ≤ v1 then bV (qev en d 37 [.ref r0] s) (fun s5 => nm (uI s5 r0 6 (s5.1 r0 5)) (fun s7 => L_X3_pickSlots_77 en d r0 (0 : Int32) s7)) else bI (qev en d 32 [.int v1, .int (0 : Int32)] s) (fun w8 s9 => gd (s9.2.2 r0 7 ≠ 0 ∧ lc (s9.2.2 r0 7 - 1) = 5) (nm (s9.2.2 r0 7 - 1) (fun q12 => gd (p_inB v1 4 = true) (bV (qev en d 36 [.ref r0, .int w8, .int (s9.1 (q12 + 3) v1.toNatClampNeg)] s9) (fun s15 => L_X3_pickSlots_28 en d r0 (v1 + (1 : Int32)) s15))))))))) (L_X3_pickSlots_28 en d r0 v1 s) := by
  show qle _ (qE (qev en d) en none tb_X3_pickSlots (28, [(0, .ref r0), (1, .int v1)], []) s)
  refine qle_gd fun h_r0 => ?_
  refine e_L 2 (f' := (30, [(0, .ref r0), (1, .int v1)], [.ref r0, .int v1])) rfl ?_
  refine qle_gd fun h1 => ?_
  refine e_gM 3 7 rfl rfl h_r0 h1.1 ?_
  refine e_nR (ci := 5) h1.2 fun q2 h_q2 => ?_
  refine e_gI 5 11 rfl rfl h_q2 ?_
  refine e_icmp 63 rfl rfl rfl (fun c3 => ?_) (fun c3 => ?_)
  · refine e_L 1 (f' := (64, [(0, .ref r0), (1, .int v1)], [.ref r0])) rfl ?_
    refine e_vV 37 rfl rfl ix_X3_makeEven rfl (q_recvOf h_r0 rfl) (Nat.le_of_ble_eq_true rfl) (fun s5 e6 => ?_)
    refine e_L 2 (f' := (69, [(0, .ref r0), (1, .int v1)], [.ref r0, .ref r0])) rfl ?_
    refine e_gI 3 5 rfl rfl h_r0 ?_
    refine e_pI 3 6 rfl rfl h_r0 rfl ?_
    refine e_nS fun s7 => ?_
    refine e_L 2 (f' := (77, [(1, .int (0 : Int32)), (0, .ref r0)], [])) rfl ?_
    exact qE_sub (qsubL [1, 0] rfl (ks := [1, 0]) rfl (by decide))
  · refine e_L 3 (f' := (42, [(0, .ref r0), (1, .int v1)], [.int (0 : Int32), .int v1, .ref r0])) rfl ?_
    refine e_sI 32 rfl rfl rfl ix_X3_localSlot rfl (Nat.le_of_ble_eq_true rfl) (fun w8 s9 e10 => ?_)
    refine e_L 1 (f' := (46, [(0, .ref r0), (1, .int v1)], [.ref r0, .int w8, .ref r0])) rfl ?_
    refine qle_gd fun h11 => ?_
    refine e_gM 3 7 rfl rfl h_r0 h11.1 ?_
    refine e_nR (ci := 5) h11.2 fun q12 h_q12 => ?_
    refine e_gR (q := (q12 + 3)) 5 3 rfl rfl h_q12 (fo_5_3 h_q12) ?_
    refine e_L 1 (f' := (53, [(0, .ref r0), (1, .int v1)], [.int v1, .ref (q12 + 3), .int w8, .ref r0])) rfl ?_
    refine qle_gd fun h13 => ?_
    refine e_ial (n := 4) (k := v1.toNatClampNeg) rfl (fc_5_3 h_q12) (fl_5_3 h_q12) h13 rfl ?_
    refine e_vV 36 rfl rfl ix_X3_pick rfl (q_recvOf h_r0 rfl) (Nat.le_of_ble_eq_true rfl) (fun s15 e16 => ?_)
    refine e_L 2 (f' := (28, [(1, .int (v1 + (1 : Int32))), (0, .ref r0)], [])) rfl ?_
    exact qE_sub (qsubL [1, 0] rfl (ks := [1, 0]) rfl (by decide))
set_option maxRecDepth 100000 in
set_option maxHeartbeats 4000000 in
theorem le_X3_pickSlots_77 (en : pN) (d : Nat) (r0 : Nat) (v1 : Int32) (s : qS) : qle (gd (lc r0 = 3) (if (16 : Int32) ≤ v1 then gd (s.2.2 r0 7 ≠ 0 ∧ lc (s.2.2 r0 7 - 1) = 5) (nm (s.2.2 r0 7 - 1) (fun q3 => bV (qev en d 36 [.ref r0, .int (40 : Int32), .int (s.1 q3 10)] s) (fun s5 => gd (s5.2.2 r0 7 ≠ 0 ∧ lc (s5.2.2 r0 7 - 1) = 5) (nm (s5.2.2 r0 7 - 1) (fun q8 => bV (qev en d 36 [.ref r0, .int (44 : Int32), .int (s5.1 q8 10)] s5) (fun s10 => if ¬ (s10.1 r0 8) = (1 : Int32) then L_X3_pickSlots_163 en d r0 s10 else gd (s10.2.2 r0 7 ≠ 0 ∧ lc (s10.2.2 r0 7 - 1) = 5) (nm (s10.2.2 r0 7 - 1) (fun q14 => bV (qev en d 36 [.ref r0, .int (56 : Int32), .int (s10.1 q14 11)] s10) (fun s16 => gd (s16.2.2 r0 7 ≠ 0 ∧ lc (s16.2.2 r0 7 - 1) = 5) (nm (s16.2.2 r0 7 - 1) (fun q19 => bV (qev en d 36 [.ref r0, .int (60 : Int32), .int ((s16.1 q19 11) * (3 : Int32))] s16) (fun s21 => L_X3_pickSlots_163 en d r0 s21)))))))))))) else gd (s.2.2 r0 7 ≠ 0 ∧ lc (s.2.2 r0 7 - 1) = 5) (nm (s.2.2 r0 7 - 1) (fun q24 => bV (qev en d 36 [.ref r0, .int v1, .int (s.1 q24 11)] s) (fun s26 => L_X3_pickSlots_77 en d r0 (v1 + (4 : Int32)) s26))))) (L_X3_pickSlots_77 en d r0 v1 s) := by
  show qle _ (qE (qev en d) en none tb_X3_pickSlots (77, [(0, .ref r0), (1, .int v1)], []) s)
  refine qle_gd fun h_r0 => ?_
  refine e_L 2 (f' := (80, [(0, .ref r0), (1, .int v1)], [.int (16 : Int32), .int v1])) rfl ?_
  refine e_icmp 101 rfl rfl rfl (fun c1 => ?_) (fun c1 => ?_)
  · refine e_L 3 (f' := (105, [(0, .ref r0), (1, .int v1)], [.ref r0, .int (40 : Int32), .ref r0])) rfl ?_
    refine qle_gd fun h2 => ?_
    refine e_gM 3 7 rfl rfl h_r0 h2.1 ?_
    refine e_nR (ci := 5) h2.2 fun q3 h_q3 => ?_
    refine e_gI 5 10 rfl rfl h_q3 ?_
    refine e_vV 36 rfl rfl ix_X3_pick rfl (q_recvOf h_r0 rfl) (Nat.le_of_ble_eq_true rfl) (fun s5 e6 => ?_)
    refine e_L 3 (f' := (118, [(0, .ref r0), (1, .int v1)], [.ref r0, .int (44 : Int32), .ref r0])) rfl ?_
    refine qle_gd fun h7 => ?_
    refine e_gM 3 7 rfl rfl h_r0 h7.1 ?_
    refine e_nR (ci := 5) h7.2 fun q8 h_q8 => ?_
    refine e_gI 5 10 rfl rfl h_q8 ?_
    refine e_vV 36 rfl rfl ix_X3_pick rfl (q_recvOf h_r0 rfl) (Nat.le_of_ble_eq_true rfl) (fun s10 e11 => ?_)
    refine e_L 1 (f' := (128, [(0, .ref r0), (1, .int v1)], [.ref r0])) rfl ?_
    refine e_gI 3 8 rfl rfl h_r0 ?_
    refine e_L 1 (f' := (132, [(0, .ref r0), (1, .int v1)], [.int (1 : Int32), .int (s10.1 r0 8)])) rfl ?_
    refine e_icmp 163 rfl rfl rfl (fun c12 => ?_) (fun c12 => ?_)
    · exact qE_sub (qsubL [0] rfl (ks := [0, 1]) rfl (by decide))
    · refine e_L 3 (f' := (139, [(0, .ref r0), (1, .int v1)], [.ref r0, .int (56 : Int32), .ref r0])) rfl ?_
      refine qle_gd fun h13 => ?_
      refine e_gM 3 7 rfl rfl h_r0 h13.1 ?_
      refine e_nR (ci := 5) h13.2 fun q14 h_q14 => ?_
      refine e_gI 5 11 rfl rfl h_q14 ?_
      refine e_vV 36 rfl rfl ix_X3_pick rfl (q_recvOf h_r0 rfl) (Nat.le_of_ble_eq_true rfl) (fun s16 e17 => ?_)
      refine e_L 3 (f' := (152, [(0, .ref r0), (1, .int v1)], [.ref r0, .int (60 : Int32), .ref r0])) rfl ?_
      refine qle_gd fun h18 => ?_
      refine e_gM 3 7 rfl rfl h_r0 h18.1 ?_
      refine e_nR (ci := 5) h18.2 fun q19 h_q19 => ?_
      refine e_gI 5 11 rfl rfl h_q19 ?_
      refine e_L 2 (f' := (160, [(0, .ref r0), (1, .int v1)], [.int ((s16.1 q19 11) * (3 : Int32)), .int (60 : Int32), .ref r0])) rfl ?_
      refine e_vV 36 rfl rfl ix_X3_pick rfl (q_recvOf h_r0 rfl) (Nat.le_of_ble_eq_true rfl) (fun s21 e22 => ?_)
      exact qE_sub (qsubL [0] rfl (ks := [0, 1]) rfl (by decide))
  · refine e_L 3 (f' := (86, [(0, .ref r0), (1, .int v1)], [.ref r0, .int v1, .ref r0])) rfl ?_
    refine qle_gd fun h23 => ?_
    refine e_gM 3 7 rfl rfl h_r0 h23.1 ?_
    refine e_nR (ci := 5) h23.2 fun q24 h_q24 => ?_
    refine e_gI 5 11 rfl rfl h_q24 ?_
    refine e_vV 36 rfl rfl ix_X3_pick rfl (q_recvOf h_r0 rfl) (Nat.le_of_ble_eq_true rfl) (fun s26 e27 => ?_)
    refine e_L 2 (f' := (77, [(1, .int (v1 + (4 : Int32))), (0, .ref r0)], [])) rfl ?_
    exact qE_sub (qsubL [1, 0] rfl (ks := [1, 0]) rfl (by decide))
set_option maxRecDepth 100000 in
set_option maxHeartbeats 4000000 in
theorem le_X3_pickSlots_163 (en : pN) (d : Nat) (r0 : Nat) (s : qS) : qle (gd (lc r0 = 3) (if ¬ (s.1 r0 8) = (2 : Int32) then L_X3_pickSlots_253 en d r0 s else gd (s.2.2 r0 7 ≠ 0 ∧ lc (s.2.2 r0 7 - 1) = 5) (nm (s.2.2 r0 7 - 1) (fun q3 => bV (qev en d 36 [.ref r0, .int (72 : Int32), .int (s.1 q3 9)] s) (fun s5 => gd (s5.2.2 r0 7 ≠ 0 ∧ lc (s5.2.2 r0 7 - 1) = 5) (nm (s5.2.2 r0 7 - 1) (fun q8 => bV (qev en d 36 [.ref r0, .int (80 : Int32), .int ((s5.1 q8 9) * (9 : Int32))] s5) (fun s10 => gd (s10.2.2 r0 7 ≠ 0 ∧ lc (s10.2.2 r0 7 - 1) = 5) (nm (s10.2.2 r0 7 - 1) (fun q13 => bV (qev en d 36 [.ref r0, .int (152 : Int32), .int ((s10.1 q13 9) * (9 : Int32))] s10) (fun s15 => gd (s15.2.2 r0 7 ≠ 0 ∧ lc (s15.2.2 r0 7 - 1) = 5) (nm (s15.2.2 r0 7 - 1) (fun q18 => bV (qev en d 36 [.ref r0, .int (224 : Int32), .int (s15.1 q18 11)] s15) (fun s20 => gd (s20.2.2 r0 7 ≠ 0 ∧ lc (s20.2.2 r0 7 - 1) = 5) (nm (s20.2.2 r0 7 - 1) (fun q23 => bV (qev en d 36 [.ref r0, .int (228 : Int32), .int (s20.1 q23 10)] s20) (fun s25 => bV (qev en d 36 [.ref r0, .int (232 : Int32), .int (1 : Int32)] s25) (fun s28 => L_X3_pickSlots_253 en d r0 s28)))))))))))))))))) (L_X3_pickSlots_163 en d r0 s) := by
  show qle _ (qE (qev en d) en none tb_X3_pickSlots (163, [(0, .ref r0)], []) s)
  refine qle_gd fun h_r0 => ?_
  refine e_L 1 (f' := (164, [(0, .ref r0)], [.ref r0])) rfl ?_
  refine e_gI 3 8 rfl rfl h_r0 ?_
  refine e_L 1 (f' := (168, [(0, .ref r0)], [.int (2 : Int32), .int (s.1 r0 8)])) rfl ?_
  refine e_icmp 253 rfl rfl rfl (fun c1 => ?_) (fun c1 => ?_)
  · exact qE_sub (qsubL [0] rfl (ks := [0]) rfl (by decide))
  · refine e_L 3 (f' := (175, [(0, .ref r0)], [.ref r0, .int (72 : Int32), .ref r0])) rfl ?_
    refine qle_gd fun h2 => ?_
    refine e_gM 3 7 rfl rfl h_r0 h2.1 ?_
    refine e_nR (ci := 5) h2.2 fun q3 h_q3 => ?_
    refine e_gI 5 9 rfl rfl h_q3 ?_
    refine e_vV 36 rfl rfl ix_X3_pick rfl (q_recvOf h_r0 rfl) (Nat.le_of_ble_eq_true rfl) (fun s5 e6 => ?_)
    refine e_L 3 (f' := (188, [(0, .ref r0)], [.ref r0, .int (80 : Int32), .ref r0])) rfl ?_
    refine qle_gd fun h7 => ?_
    refine e_gM 3 7 rfl rfl h_r0 h7.1 ?_
    refine e_nR (ci := 5) h7.2 fun q8 h_q8 => ?_
    refine e_gI 5 9 rfl rfl h_q8 ?_
    refine e_L 2 (f' := (197, [(0, .ref r0)], [.int ((s5.1 q8 9) * (9 : Int32)), .int (80 : Int32), .ref r0])) rfl ?_
    refine e_vV 36 rfl rfl ix_X3_pick rfl (q_recvOf h_r0 rfl) (Nat.le_of_ble_eq_true rfl) (fun s10 e11 => ?_)
    refine e_L 3 (f' := (205, [(0, .ref r0)], [.ref r0, .int (152 : Int32), .ref r0])) rfl ?_
    refine qle_gd fun h12 => ?_
    refine e_gM 3 7 rfl rfl h_r0 h12.1 ?_
    refine e_nR (ci := 5) h12.2 fun q13 h_q13 => ?_
    refine e_gI 5 9 rfl rfl h_q13 ?_
    refine e_L 2 (f' := (214, [(0, .ref r0)], [.int ((s10.1 q13 9) * (9 : Int32)), .int (152 : Int32), .ref r0])) rfl ?_
    refine e_vV 36 rfl rfl ix_X3_pick rfl (q_recvOf h_r0 rfl) (Nat.le_of_ble_eq_true rfl) (fun s15 e16 => ?_)
    refine e_L 3 (f' := (222, [(0, .ref r0)], [.ref r0, .int (224 : Int32), .ref r0])) rfl ?_
    refine qle_gd fun h17 => ?_
    refine e_gM 3 7 rfl rfl h_r0 h17.1 ?_
    refine e_nR (ci := 5) h17.2 fun q18 h_q18 => ?_
    refine e_gI 5 11 rfl rfl h_q18 ?_
    refine e_vV 36 rfl rfl ix_X3_pick rfl (q_recvOf h_r0 rfl) (Nat.le_of_ble_eq_true rfl) (fun s20 e21 => ?_)
    refine e_L 3 (f' := (236, [(0, .ref r0)], [.ref r0, .int (228 : Int32), .ref r0])) rfl ?_
    refine qle_gd fun h22 => ?_
    refine e_gM 3 7 rfl rfl h_r0 h22.1 ?_
    refine e_nR (ci := 5) h22.2 fun q23 h_q23 => ?_
    refine e_gI 5 10 rfl rfl h_q23 ?_
    refine e_vV 36 rfl rfl ix_X3_pick rfl (q_recvOf h_r0 rfl) (Nat.le_of_ble_eq_true rfl) (fun s25 e26 => ?_)
    refine e_L 3 (f' := (250, [(0, .ref r0)], [.int (1 : Int32), .int (232 : Int32), .ref r0])) rfl ?_
    refine e_vV 36 rfl rfl ix_X3_pick rfl (q_recvOf h_r0 rfl) (Nat.le_of_ble_eq_true rfl) (fun s28 e29 => ?_)
    exact qE_sub (qsubL [0] rfl (ks := [0]) rfl (by decide))
set_option maxRecDepth 100000 in
set_option maxHeartbeats 4000000 in
theorem le_X3_pickSlots_253 (en : pN) (d : Nat) (r0 : Nat) (s : qS) : qle (gd (lc r0 = 3) (bV (qev en d 37 [.ref r0] s) (fun s2 => some (none, s2)))) (L_X3_pickSlots_253 en d r0 s) := by
  show qle _ (qE (qev en d) en none tb_X3_pickSlots (253, [(0, .ref r0)], []) s)
  refine qle_gd fun h_r0 => ?_
  refine e_L 1 (f' := (254, [(0, .ref r0)], [.ref r0])) rfl ?_
  refine e_vV 37 rfl rfl ix_X3_makeEven rfl (q_recvOf h_r0 rfl) (Nat.le_of_ble_eq_true rfl) (fun s2 e3 => ?_)
  exact e_rV rfl rfl
set_option maxRecDepth 100000 in
set_option maxHeartbeats 4000000 in
theorem le_X3_pickSlots (en : pN) (d : Nat) (t : Nat) (s : qS) : qle (gd (lc t = 3) (nm (uI s t 5 (0 : Int32)) (fun s1 => bV (qev en d 36 [.ref t, .int (233 : Int32), .int (1 : Int32)] s1) (fun s3 => gd (s3.2.2 t 7 ≠ 0 ∧ lc (s3.2.2 t 7 - 1) = 5) (nm (s3.2.2 t 7 - 1) (fun q6 => bV (qev en d 36 [.ref t, .int (48 : Int32), .int (s3.1 q6 9)] s3) (fun s8 => L_X3_pickSlots_28 en d t (0 : Int32) s8))))))) (qev en (d + 1) 35 [.ref t] s) := by
  refine e_enter ix_X3_pickSlots (Nat.le_of_ble_eq_true rfl) ?_
  show qle _ (qE (qev en d) en none tb_X3_pickSlots (0, [(0, .ref t)], []) s)
  refine qle_gd fun ht => ?_
  refine e_L 2 (f' := (2, [(0, .ref t)], [.int (0 : Int32), .ref t])) rfl ?_
  refine e_pI 3 5 rfl rfl ht rfl ?_
  refine e_nS fun s1 => ?_
  refine e_L 3 (f' := (10, [(0, .ref t)], [.int (1 : Int32), .int (233 : Int32), .ref t])) rfl ?_
  refine e_vV 36 rfl rfl ix_X3_pick rfl (q_recvOf ht rfl) (Nat.le_of_ble_eq_true rfl) (fun s3 e4 => ?_)
  refine e_L 3 (f' := (17, [(0, .ref t)], [.ref t, .int (48 : Int32), .ref t])) rfl ?_
  refine qle_gd fun h5 => ?_
  refine e_gM 3 7 rfl rfl ht h5.1 ?_
  refine e_nR (ci := 5) h5.2 fun q6 h_q6 => ?_
  refine e_gI 5 9 rfl rfl h_q6 ?_
  refine e_vV 36 rfl rfl ix_X3_pick rfl (q_recvOf ht rfl) (Nat.le_of_ble_eq_true rfl) (fun s8 e9 => ?_)
  refine e_L 2 (f' := (28, [(1, .int (0 : Int32)), (0, .ref t)], [])) rfl ?_
  exact qE_sub (qsubL [1, 0] rfl (ks := [1, 0]) rfl (by decide))
noncomputable def L_X3_pick_2 (en : pN) (d : Nat) (r0 : Nat) (v1 : Int32) (v2 : Int32) (v3 : Int32) (s : qS) : Option qR := qE (qev en d) en none tb_X3_pick (2, [(0, .ref r0), (1, .int v1), (2, .int v2), (3, .int v3)], []) s
set_option maxRecDepth 100000 in
set_option maxHeartbeats 4000000 in
theorem le_X3_pick_2 (en : pN) (d : Nat) (r0 : Nat) (v1 : Int32) (v2 : Int32) (v3 : Int32) (s : qS) : qle (gd (lc r0 = 3) (if v2 ≤ v3 then some (none, s) else gd (p_inB (s.1 r0 5) 220 = true) (nm (uI s (r0 + 4) ((s.1 r0 5).toNatClampNeg) (v1 + v3)) (fun s3 => nm (uI s3 r0 5 ((s3.1 r0 5) + (1 : Int32))) (fun s4 => L_X3_pick_2 en d r0 v1 v2 (v3 + (1 : Int32)) s4))))) (L_X3_pick_2 en d r0 v1 v2 v3 s) := by
  show qle _ (qE (qev en d) en none tb_X3_pick (2, [(0, .ref r0), (1, .int v1), (2, .int v2), (3, .int v3)], []) s)
  refine qle_gd fun h_r0 => ?_
  refine e_L 2 (f' := (4, [(0, .ref r0), (1, .int v1), (2, .int v2), (3, .int v3)], [.int v2, .int v3])) rfl ?_
  refine e_icmp 35 rfl rfl rfl (fun c1 => ?_) (fun c1 => ?_)
  · exact e_rV rfl rfl
  · refine e_L 1 (f' := (8, [(0, .ref r0), (1, .int v1), (2, .int v2), (3, .int v3)], [.ref r0])) rfl ?_
    refine e_gR (q := (r0 + 4)) 3 4 rfl rfl h_r0 (fo_3_4 h_r0) ?_
    refine e_L 1 (f' := (12, [(0, .ref r0), (1, .int v1), (2, .int v2), (3, .int v3)], [.ref r0, .ref (r0 + 4)])) rfl ?_
    refine e_gI 3 5 rfl rfl h_r0 ?_
    refine e_L 3 (f' := (18, [(0, .ref r0), (1, .int v1), (2, .int v2), (3, .int v3)], [.int (v1 + v3), .int (s.1 r0 5), .ref (r0 + 4)])) rfl ?_
    refine qle_gd fun h2 => ?_
    refine e_ias (n := 220) (k := (s.1 r0 5).toNatClampNeg) rfl (fc_3_4 h_r0) (fl_3_4 h_r0) h2 rfl ?_
    refine e_nS fun s3 => ?_
    refine e_L 2 (f' := (21, [(0, .ref r0), (1, .int v1), (2, .int v2), (3, .int v3)], [.ref r0, .ref r0])) rfl ?_
    refine e_gI 3 5 rfl rfl h_r0 ?_
    refine e_L 2 (f' := (26, [(0, .ref r0), (1, .int v1), (2, .int v2), (3, .int v3)], [.int ((s3.1 r0 5) + (1 : Int32)), .ref r0])) rfl ?_
    refine e_pI 3 5 rfl rfl h_r0 rfl ?_
    refine e_nS fun s4 => ?_
    refine e_L 2 (f' := (2, [(3, .int (v3 + (1 : Int32))), (0, .ref r0), (1, .int v1), (2, .int v2)], [])) rfl ?_
    exact qE_sub (qsubL [1, 2, 3, 0] rfl (ks := [3, 0, 1, 2]) rfl (by decide))
set_option maxRecDepth 100000 in
set_option maxHeartbeats 4000000 in
theorem le_X3_pick (en : pN) (d : Nat) (t : Nat) (a1 : Int32) (a2 : Int32) (s : qS) : qle (gd (lc t = 3) (L_X3_pick_2 en d t a1 a2 (0 : Int32) s)) (qev en (d + 1) 36 [.ref t, .int a1, .int a2] s) := by
  refine e_enter ix_X3_pick (Nat.le_of_ble_eq_true rfl) ?_
  show qle _ (qE (qev en d) en none tb_X3_pick (0, [(0, .ref t), (1, .int a1), (2, .int a2)], []) s)
  refine qle_gd fun ht => ?_
  refine e_L 2 (f' := (2, [(3, .int (0 : Int32)), (0, .ref t), (1, .int a1), (2, .int a2)], [])) rfl ?_
  exact qE_sub (qsubL [1, 2, 3, 0] rfl (ks := [3, 0, 1, 2]) rfl (by decide))
set_option maxRecDepth 100000 in
set_option maxHeartbeats 4000000 in
theorem le_X3_makeEven (en : pN) (d : Nat) (t : Nat) (s : qS) : qle (gd (lc t = 3) (if ((s.1 t 5) - (s.1 t 5) / (2 : Int32) * (2 : Int32)) = (0 : Int32) then some (none, s) else bV (qev en d 36 [.ref t, .int (235 : Int32), .int (1 : Int32)] s) (fun s3 => some (none, s3)))) (qev en (d + 1) 37 [.ref t] s) := by
  refine e_enter ix_X3_makeEven (Nat.le_of_ble_eq_true rfl) ?_
  show qle _ (qE (qev en d) en none tb_X3_makeEven (0, [(0, .ref t)], []) s)
  refine qle_gd fun ht => ?_
  refine e_L 1 (f' := (1, [(0, .ref t)], [.ref t])) rfl ?_
  refine e_gI 3 5 rfl rfl ht ?_
  refine e_L 1 (f' := (5, [(0, .ref t)], [.int (2 : Int32), .int (s.1 t 5)])) rfl ?_
  refine e_rem rfl (by decide) ?_
  refine e_ifz 17 rfl rfl rfl (fun c1 => ?_) (fun c1 => ?_)
  · exact e_rV rfl rfl
  · refine e_L 3 (f' := (14, [(0, .ref t)], [.int (1 : Int32), .int (235 : Int32), .ref t])) rfl ?_
    refine e_vV 36 rfl rfl ix_X3_pick rfl (q_recvOf ht rfl) (Nat.le_of_ble_eq_true rfl) (fun s3 e4 => ?_)
    exact e_rV rfl rfl
noncomputable def L_X3_pack_14 (en : pN) (d : Nat) (r0 : Nat) (r1 : Nat) (v2 : Int32) (s : qS) : Option qR := qE (qev en d) en none tb_X3_pack (14, [(0, .ref r0), (1, .ref r1), (2, .int v2)], []) s
set_option maxRecDepth 100000 in
set_option maxHeartbeats 4000000 in
theorem le_X3_pack_14 (en : pN) (d : Nat) (r0 : Nat) (r1 : Nat) (v2 : Int32) (s : qS) : qle (gd (lc r0 = 3) (gd (lc r1 = 21) (if (s.1 r0 5) ≤ v2 then some (none, s) else gd (p_inB v2 220 = true) (gd (p_inB (s.1 (r0 + 4) v2.toNatClampNeg) 236 = true) (gd (p_inB (v2 + (1 : Int32)) 220 = true) (gd (p_inB (s.1 (r0 + 4) (v2 + (1 : Int32)).toNatClampNeg) 236 = true) (gd (p_inB (v2 / (2 : Int32)) (ln r1) = true) (nm (uJ s r1 ((v2 / (2 : Int32)).toNatClampNeg) (((s.1 (r0 + 1) (s.1 (r0 + 4) v2.toNatClampNeg).toNatClampNeg).toInt64 <<< ((32 : Int32).toInt64 &&& 63)) ||| ((s.1 (r0 + 1) (s.1 (r0 + 4) (v2 + (1 : Int32)).toNatClampNeg).toNatClampNeg).toInt64 &&& (4294967295 : Int64)))) (fun s7 => L_X3_pack_14 en d r0 r1 (v2 + (2 : Int32)) s7))))))))) (L_X3_pack_14 en d r0 r1 v2 s) := by
  show qle _ (qE (qev en d) en none tb_X3_pack (14, [(0, .ref r0), (1, .ref r1), (2, .int v2)], []) s)
  refine qle_gd fun h_r0 => ?_
  refine qle_gd fun h_r1 => ?_
  refine e_L 2 (f' := (16, [(0, .ref r0), (1, .ref r1), (2, .int v2)], [.ref r0, .int v2])) rfl ?_
  refine e_gI 3 5 rfl rfl h_r0 ?_
  refine e_icmp 67 rfl rfl rfl (fun c1 => ?_) (fun c1 => ?_)
  · exact e_rV rfl rfl
  · refine e_L 3 (f' := (25, [(0, .ref r0), (1, .ref r1), (2, .int v2)], [.int (2 : Int32), .int v2, .ref r1])) rfl ?_
    refine e_div rfl (by decide) ?_
    refine e_L 1 (f' := (27, [(0, .ref r0), (1, .ref r1), (2, .int v2)], [.ref r0, .int (v2 / (2 : Int32)), .ref r1])) rfl ?_
    refine e_gR (q := (r0 + 1)) 3 0 rfl rfl h_r0 (fo_3_0 h_r0) ?_
    refine e_L 1 (f' := (31, [(0, .ref r0), (1, .ref r1), (2, .int v2)], [.ref r0, .ref (r0 + 1), .int (v2 / (2 : Int32)), .ref r1])) rfl ?_
    refine e_gR (q := (r0 + 4)) 3 4 rfl rfl h_r0 (fo_3_4 h_r0) ?_
    refine e_L 1 (f' := (35, [(0, .ref r0), (1, .ref r1), (2, .int v2)], [.int v2, .ref (r0 + 4), .ref (r0 + 1), .int (v2 / (2 : Int32)), .ref r1])) rfl ?_
    refine qle_gd fun h2 => ?_
    refine e_ial (n := 220) (k := v2.toNatClampNeg) rfl (fc_3_4 h_r0) (fl_3_4 h_r0) h2 rfl ?_
    refine qle_gd fun h3 => ?_
    refine e_ial (n := 236) (k := (s.1 (r0 + 4) v2.toNatClampNeg).toNatClampNeg) rfl (fc_3_0 h_r0) (fl_3_0 h_r0) h3 rfl ?_
    refine e_L 4 (f' := (42, [(0, .ref r0), (1, .ref r1), (2, .int v2)], [.ref r0, .long ((s.1 (r0 + 1) (s.1 (r0 + 4) v2.toNatClampNeg).toNatClampNeg).toInt64 <<< ((32 : Int32).toInt64 &&& 63)), .int (v2 / (2 : Int32)), .ref r1])) rfl ?_
    refine e_gR (q := (r0 + 1)) 3 0 rfl rfl h_r0 (fo_3_0 h_r0) ?_
    refine e_L 1 (f' := (46, [(0, .ref r0), (1, .ref r1), (2, .int v2)], [.ref r0, .ref (r0 + 1), .long ((s.1 (r0 + 1) (s.1 (r0 + 4) v2.toNatClampNeg).toNatClampNeg).toInt64 <<< ((32 : Int32).toInt64 &&& 63)), .int (v2 / (2 : Int32)), .ref r1])) rfl ?_
    refine e_gR (q := (r0 + 4)) 3 4 rfl rfl h_r0 (fo_3_4 h_r0) ?_
    refine e_L 3 (f' := (52, [(0, .ref r0), (1, .ref r1), (2, .int v2)], [.int (v2 + (1 : Int32)), .ref (r0 + 4), .ref (r0 + 1), .long ((s.1 (r0 + 1) (s.1 (r0 + 4) v2.toNatClampNeg).toNatClampNeg).toInt64 <<< ((32 : Int32).toInt64 &&& 63)), .int (v2 / (2 : Int32)), .ref r1])) rfl ?_
    refine qle_gd fun h4 => ?_
    refine e_ial (n := 220) (k := (v2 + (1 : Int32)).toNatClampNeg) rfl (fc_3_4 h_r0) (fl_3_4 h_r0) h4 rfl ?_
    refine qle_gd fun h5 => ?_
    refine e_ial (n := 236) (k := (s.1 (r0 + 4) (v2 + (1 : Int32)).toNatClampNeg).toNatClampNeg) rfl (fc_3_0 h_r0) (fl_3_0 h_r0) h5 rfl ?_
    refine e_L 1 (f' := (55, [(0, .ref r0), (1, .ref r1), (2, .int v2)], [.long (s.1 (r0 + 1) (s.1 (r0 + 4) (v2 + (1 : Int32)).toNatClampNeg).toNatClampNeg).toInt64, .long ((s.1 (r0 + 1) (s.1 (r0 + 4) v2.toNatClampNeg).toNatClampNeg).toInt64 <<< ((32 : Int32).toInt64 &&& 63)), .int (v2 / (2 : Int32)), .ref r1])) rfl ?_
    refine e_ldc2 (v := (4294967295 : Int64)) rfl (by decide +kernel) ?_
    refine e_L 2 (f' := (60, [(0, .ref r0), (1, .ref r1), (2, .int v2)], [.long (((s.1 (r0 + 1) (s.1 (r0 + 4) v2.toNatClampNeg).toNatClampNeg).toInt64 <<< ((32 : Int32).toInt64 &&& 63)) ||| ((s.1 (r0 + 1) (s.1 (r0 + 4) (v2 + (1 : Int32)).toNatClampNeg).toNatClampNeg).toInt64 &&& (4294967295 : Int64))), .int (v2 / (2 : Int32)), .ref r1])) rfl ?_
    refine qle_gd fun h6 => ?_
    refine e_las (n := (ln r1)) (k := (v2 / (2 : Int32)).toNatClampNeg) rfl h_r1 rfl h6 rfl ?_
    refine e_nS fun s7 => ?_
    refine e_L 2 (f' := (14, [(2, .int (v2 + (2 : Int32))), (0, .ref r0), (1, .ref r1)], [])) rfl ?_
    exact qE_sub (qsubL [1, 2, 0] rfl (ks := [2, 0, 1]) rfl (by decide))
set_option maxRecDepth 100000 in
set_option maxHeartbeats 4000000 in
theorem le_X3_pack (en : pN) (d : Nat) (t : Nat) (a1 : Nat) (s : qS) : qle (gd (lc t = 3) (gd (lc a1 = 21) (bI (qev en d 49 [.ref t] s) (fun w1 s2 => nm (uI s2 (t + 1) 233 w1) (fun s4 => L_X3_pack_14 en d t a1 (0 : Int32) s4))))) (qev en (d + 1) 38 [.ref t, .ref a1] s) := by
  refine e_enter ix_X3_pack (Nat.le_of_ble_eq_true rfl) ?_
  show qle _ (qE (qev en d) en none tb_X3_pack (0, [(0, .ref t), (1, .ref a1)], []) s)
  refine qle_gd fun ht => ?_
  refine qle_gd fun h_a1 => ?_
  refine e_L 1 (f' := (1, [(0, .ref t), (1, .ref a1)], [.ref t])) rfl ?_
  refine e_gR (q := (t + 1)) 3 0 rfl rfl ht (fo_3_0 ht) ?_
  refine e_L 2 (f' := (8, [(0, .ref t), (1, .ref a1)], [.ref t, .int (233 : Int32), .ref (t + 1)])) rfl ?_
  refine e_vI 49 rfl rfl ix_X3_sort rfl (q_recvOf ht rfl) (Nat.le_of_ble_eq_true rfl) (fun w1 s2 e3 => ?_)
  refine e_ias (n := 236) (k := 233) rfl (fc_3_0 ht) (fl_3_0 ht) (by decide +kernel) (by decide +kernel) ?_
  refine e_nS fun s4 => ?_
  refine e_L 2 (f' := (14, [(2, .int (0 : Int32)), (0, .ref t), (1, .ref a1)], [])) rfl ?_
  exact qE_sub (qsubL [1, 2, 0] rfl (ks := [2, 0, 1]) rfl (by decide))
noncomputable def L_X3_unpack_2 (en : pN) (d : Nat) (r0 : Nat) (r1 : Nat) (v2 : Int32) (v3 : Int32) (s : qS) : Option qR := qE (qev en d) en none tb_X3_unpack (2, [(0, .ref r0), (1, .ref r1), (2, .int v2), (3, .int v3)], []) s
set_option maxRecDepth 100000 in
set_option maxHeartbeats 4000000 in
theorem le_X3_unpack_2 (en : pN) (d : Nat) (r0 : Nat) (r1 : Nat) (v2 : Int32) (v3 : Int32) (s : qS) : qle (gd (lc r0 = 3) (gd (lc r1 = 21) (if (s.1 r0 5) ≤ v3 then some (none, s) else gd (p_inB (v2 + (v3 / (2 : Int32))) (ln r1) = true) (nm (s.2.1 r1 (v2 + (v3 / (2 : Int32))).toNatClampNeg) (fun z3 => gd (p_inB v3 220 = true) (gd (p_inB (s.1 (r0 + 4) v3.toNatClampNeg) 236 = true) (nm (uI s (r0 + 1) ((s.1 (r0 + 4) v3.toNatClampNeg).toNatClampNeg) (z3 >>> ((32 : Int32).toInt64 &&& 63)).toInt32) (fun s6 => gd (p_inB (v3 + (1 : Int32)) 220 = true) (gd (p_inB (s6.1 (r0 + 4) (v3 + (1 : Int32)).toNatClampNeg) 236 = true) (nm (uI s6 (r0 + 1) ((s6.1 (r0 + 4) (v3 + (1 : Int32)).toNatClampNeg).toNatClampNeg) z3.toInt32) (fun s9 => L_X3_unpack_2 en d r0 r1 v2 (v3 + (2 : Int32)) s9))))))))))) (L_X3_unpack_2 en d r0 r1 v2 v3 s) := by
  show qle _ (qE (qev en d) en none tb_X3_unpack (2, [(0, .ref r0), (1, .ref r1), (2, .int v2), (3, .int v3)], []) s)
  refine qle_gd fun h_r0 => ?_
  refine qle_gd fun h_r1 => ?_
  refine e_L 2 (f' := (4, [(0, .ref r0), (1, .ref r1), (2, .int v2), (3, .int v3)], [.ref r0, .int v3])) rfl ?_
  refine e_gI 3 5 rfl rfl h_r0 ?_
  refine e_icmp 58 rfl rfl rfl (fun c1 => ?_) (fun c1 => ?_)
  · exact e_rV rfl rfl
  · refine e_L 4 (f' := (14, [(0, .ref r0), (1, .ref r1), (2, .int v2), (3, .int v3)], [.int (2 : Int32), .int v3, .int v2, .ref r1])) rfl ?_
    refine e_div rfl (by decide) ?_
    refine e_L 1 (f' := (16, [(0, .ref r0), (1, .ref r1), (2, .int v2), (3, .int v3)], [.int (v2 + (v3 / (2 : Int32))), .ref r1])) rfl ?_
    refine qle_gd fun h2 => ?_
    refine e_lal (n := (ln r1)) (k := (v2 + (v3 / (2 : Int32))).toNatClampNeg) rfl h_r1 rfl h2 rfl ?_
    refine e_nJ fun z3 => ?_
    refine e_L 2 (f' := (20, [(4, .long z3), (0, .ref r0), (1, .ref r1), (2, .int v2), (3, .int v3)], [.ref r0])) rfl ?_
    refine e_gR (q := (r0 + 1)) 3 0 rfl rfl h_r0 (fo_3_0 h_r0) ?_
    refine e_L 1 (f' := (24, [(4, .long z3), (0, .ref r0), (1, .ref r1), (2, .int v2), (3, .int v3)], [.ref r0, .ref (r0 + 1)])) rfl ?_
    refine e_gR (q := (r0 + 4)) 3 4 rfl rfl h_r0 (fo_3_4 h_r0) ?_
    refine e_L 1 (f' := (28, [(4, .long z3), (0, .ref r0), (1, .ref r1), (2, .int v2), (3, .int v3)], [.int v3, .ref (r0 + 4), .ref (r0 + 1)])) rfl ?_
    refine qle_gd fun h4 => ?_
    refine e_ial (n := 220) (k := v3.toNatClampNeg) rfl (fc_3_4 h_r0) (fl_3_4 h_r0) h4 rfl ?_
    refine e_L 4 (f' := (35, [(4, .long z3), (0, .ref r0), (1, .ref r1), (2, .int v2), (3, .int v3)], [.int (z3 >>> ((32 : Int32).toInt64 &&& 63)).toInt32, .int (s.1 (r0 + 4) v3.toNatClampNeg), .ref (r0 + 1)])) rfl ?_
    refine qle_gd fun h5 => ?_
    refine e_ias (n := 236) (k := (s.1 (r0 + 4) v3.toNatClampNeg).toNatClampNeg) rfl (fc_3_0 h_r0) (fl_3_0 h_r0) h5 rfl ?_
    refine e_nS fun s6 => ?_
    refine e_L 1 (f' := (37, [(4, .long z3), (0, .ref r0), (1, .ref r1), (2, .int v2), (3, .int v3)], [.ref r0])) rfl ?_
    refine e_gR (q := (r0 + 1)) 3 0 rfl rfl h_r0 (fo_3_0 h_r0) ?_
    refine e_L 1 (f' := (41, [(4, .long z3), (0, .ref r0), (1, .ref r1), (2, .int v2), (3, .int v3)], [.ref r0, .ref (r0 + 1)])) rfl ?_
    refine e_gR (q := (r0 + 4)) 3 4 rfl rfl h_r0 (fo_3_4 h_r0) ?_
    refine e_L 3 (f' := (47, [(4, .long z3), (0, .ref r0), (1, .ref r1), (2, .int v2), (3, .int v3)], [.int (v3 + (1 : Int32)), .ref (r0 + 4), .ref (r0 + 1)])) rfl ?_
    refine qle_gd fun h7 => ?_
    refine e_ial (n := 220) (k := (v3 + (1 : Int32)).toNatClampNeg) rfl (fc_3_4 h_r0) (fl_3_4 h_r0) h7 rfl ?_
    refine e_L 2 (f' := (51, [(4, .long z3), (0, .ref r0), (1, .ref r1), (2, .int v2), (3, .int v3)], [.int z3.toInt32, .int (s6.1 (r0 + 4) (v3 + (1 : Int32)).toNatClampNeg), .ref (r0 + 1)])) rfl ?_
    refine qle_gd fun h8 => ?_
    refine e_ias (n := 236) (k := (s6.1 (r0 + 4) (v3 + (1 : Int32)).toNatClampNeg).toNatClampNeg) rfl (fc_3_0 h_r0) (fl_3_0 h_r0) h8 rfl ?_
    refine e_nS fun s9 => ?_
    refine e_L 2 (f' := (2, [(3, .int (v3 + (2 : Int32))), (4, .long z3), (0, .ref r0), (1, .ref r1), (2, .int v2)], [])) rfl ?_
    exact qE_sub (qsubL [2, 3, 4, 0] rfl (ks := [3, 4, 0, 1, 2]) rfl (by decide))
set_option maxRecDepth 100000 in
set_option maxHeartbeats 4000000 in
theorem le_X3_unpack (en : pN) (d : Nat) (t : Nat) (a1 : Nat) (a2 : Int32) (s : qS) : qle (gd (lc t = 3) (gd (lc a1 = 21) (L_X3_unpack_2 en d t a1 a2 (0 : Int32) s))) (qev en (d + 1) 39 [.ref t, .ref a1, .int a2] s) := by
  refine e_enter ix_X3_unpack (Nat.le_of_ble_eq_true rfl) ?_
  show qle _ (qE (qev en d) en none tb_X3_unpack (0, [(0, .ref t), (1, .ref a1), (2, .int a2)], []) s)
  refine qle_gd fun ht => ?_
  refine qle_gd fun h_a1 => ?_
  refine e_L 2 (f' := (2, [(3, .int (0 : Int32)), (0, .ref t), (1, .ref a1), (2, .int a2)], [])) rfl ?_
  exact qE_sub (qsubL [1, 2, 3, 0] rfl (ks := [3, 0, 1, 2]) rfl (by decide))
set_option maxRecDepth 100000 in
set_option maxHeartbeats 4000000 in
theorem le_X3_keep (en : pN) (d : Nat) (t : Nat) (s : qS) : qle (gd (lc t = 3) (gd (cpG (0 : Int32) (0 : Int32) (236 : Int32) 236 236) (nm (uIr s (t + 2) (va_cpy (s.1 (t + 1)) (s.1 (t + 2)) (0 : Int32).toNatClampNeg (0 : Int32).toNatClampNeg (236 : Int32).toNatClampNeg)) (fun s2 => some (none, s2))))) (qev en (d + 1) 40 [.ref t] s) := by
  refine e_enter ix_X3_keep (Nat.le_of_ble_eq_true rfl) ?_
  show qle _ (qE (qev en d) en none tb_X3_keep (0, [(0, .ref t)], []) s)
  refine qle_gd fun ht => ?_
  refine e_L 1 (f' := (1, [(0, .ref t)], [.ref t])) rfl ?_
  refine e_gR (q := (t + 1)) 3 0 rfl rfl ht (fo_3_0 ht) ?_
  refine e_L 2 (f' := (6, [(0, .ref t)], [.ref t, .int (0 : Int32), .ref (t + 1)])) rfl ?_
  refine e_gR (q := (t + 2)) 3 1 rfl rfl ht (fo_3_1 ht) ?_
  refine e_L 2 (f' := (13, [(0, .ref t)], [.int (236 : Int32), .int (0 : Int32), .ref (t + 2), .int (0 : Int32), .ref (t + 1)])) rfl ?_
  refine qle_gd fun h1 => ?_
  refine e_cpI (n0 := 236) (n1 := 236) rfl rfl (Nat.le_of_ble_eq_true rfl) ⟨(fc_3_0 ht), (fc_3_1 ht)⟩ (fl_3_0 ht) (fl_3_1 ht) h1 ?_
  refine e_nS fun s2 => ?_
  exact e_rV rfl rfl
set_option maxRecDepth 100000 in
set_option maxHeartbeats 4000000 in
theorem le_X3_comeBack (en : pN) (d : Nat) (t : Nat) (s : qS) : qle (gd (lc t = 3) (gd (cpG (0 : Int32) (0 : Int32) (236 : Int32) 236 236) (nm (uIr s (t + 1) (va_cpy (s.1 (t + 2)) (s.1 (t + 1)) (0 : Int32).toNatClampNeg (0 : Int32).toNatClampNeg (236 : Int32).toNatClampNeg)) (fun s2 => some (none, s2))))) (qev en (d + 1) 41 [.ref t] s) := by
  refine e_enter ix_X3_comeBack (Nat.le_of_ble_eq_true rfl) ?_
  show qle _ (qE (qev en d) en none tb_X3_comeBack (0, [(0, .ref t)], []) s)
  refine qle_gd fun ht => ?_
  refine e_L 1 (f' := (1, [(0, .ref t)], [.ref t])) rfl ?_
  refine e_gR (q := (t + 2)) 3 1 rfl rfl ht (fo_3_1 ht) ?_
  refine e_L 2 (f' := (6, [(0, .ref t)], [.ref t, .int (0 : Int32), .ref (t + 2)])) rfl ?_
  refine e_gR (q := (t + 1)) 3 0 rfl rfl ht (fo_3_0 ht) ?_
  refine e_L 2 (f' := (13, [(0, .ref t)], [.int (236 : Int32), .int (0 : Int32), .ref (t + 1), .int (0 : Int32), .ref (t + 2)])) rfl ?_
  refine qle_gd fun h1 => ?_
  refine e_cpI (n0 := 236) (n1 := 236) rfl rfl (Nat.le_of_ble_eq_true rfl) ⟨(fc_3_1 ht), (fc_3_0 ht)⟩ (fl_3_1 ht) (fl_3_0 ht) h1 ?_
  refine e_nS fun s2 => ?_
  exact e_rV rfl rfl
noncomputable def L_X3_listReady_7 (en : pN) (d : Nat) (r0 : Nat) (v1 : Int32) (s : qS) : Option qR := qE (qev en d) en (some .int) tb_X3_listReady (7, [(0, .ref r0), (1, .int v1)], []) s
noncomputable def L_X3_listReady_26 (en : pN) (d : Nat) (r0 : Nat) (v1 : Int32) (v2 : Int32) (v3 : Int32) (s : qS) : Option qR := qE (qev en d) en (some .int) tb_X3_listReady (26, [(0, .ref r0), (1, .int v1), (2, .int v2), (3, .int v3)], []) s
set_option maxRecDepth 100000 in
set_option maxHeartbeats 4000000 in
theorem le_X3_listReady_7 (en : pN) (d : Nat) (r0 : Nat) (v1 : Int32) (s : qS) : qle (gd (lc r0 = 3) (gd (s.2.2 r0 7 ≠ 0 ∧ lc (s.2.2 r0 7 - 1) = 5) (nm (s.2.2 r0 7 - 1) (fun q2 => if (s.1 q2 11) ≤ v1 then some (some (.int (s.1 r0 3)), s) else bI (qev en d 44 [.ref r0, .int v1] s) (fun w4 s5 => L_X3_listReady_26 en d r0 v1 w4 (0 : Int32) s5))))) (L_X3_listReady_7 en d r0 v1 s) := by
  show qle _ (qE (qev en d) en (some .int) tb_X3_listReady (7, [(0, .ref r0), (1, .int v1)], []) s)
  refine qle_gd fun h_r0 => ?_
  refine e_L 2 (f' := (9, [(0, .ref r0), (1, .int v1)], [.ref r0, .int v1])) rfl ?_
  refine qle_gd fun h1 => ?_
  refine e_gM 3 7 rfl rfl h_r0 h1.1 ?_
  refine e_nR (ci := 5) h1.2 fun q2 h_q2 => ?_
  refine e_gI 5 11 rfl rfl h_q2 ?_
  refine e_icmp 106 rfl rfl rfl (fun c3 => ?_) (fun c3 => ?_)
  · refine e_L 1 (f' := (107, [(0, .ref r0), (1, .int v1)], [.ref r0])) rfl ?_
    refine e_gI 3 3 rfl rfl h_r0 ?_
    exact e_rI rfl rfl
  · refine e_L 2 (f' := (20, [(0, .ref r0), (1, .int v1)], [.int v1, .ref r0])) rfl ?_
    refine e_vI 44 rfl rfl ix_X3_choices rfl (q_recvOf h_r0 rfl) (Nat.le_of_ble_eq_true rfl) (fun w4 s5 e6 => ?_)
    refine e_L 3 (f' := (26, [(3, .int (0 : Int32)), (2, .int w4), (0, .ref r0), (1, .int v1)], [])) rfl ?_
    exact qE_sub (qsubL [2, 3, 1, 0] rfl (ks := [3, 2, 0, 1]) rfl (by decide))
set_option maxRecDepth 100000 in
set_option maxHeartbeats 4000000 in
theorem le_X3_listReady_26 (en : pN) (d : Nat) (r0 : Nat) (v1 : Int32) (v2 : Int32) (v3 : Int32) (s : qS) : qle (gd (lc r0 = 3) (if v2 ≤ v3 then gd (p_inB ((56 : Int32) + v1) 236 = true) (if (s.1 (r0 + 1) ((56 : Int32) + v1).toNatClampNeg) ≤ (0 : Int32) then L_X3_listReady_7 en d r0 (v1 + (1 : Int32)) s else gd (p_inB (s.1 r0 3) 40 = true) (nm (uI s (r0 + 3) ((s.1 r0 3).toNatClampNeg) ((v1 * (10 : Int32)) + (9 : Int32))) (fun s5 => nm (uI s5 r0 3 ((s5.1 r0 3) + (1 : Int32))) (fun s6 => L_X3_listReady_7 en d r0 (v1 + (1 : Int32)) s6)))) else gd (p_inB (s.1 r0 3) 40 = true) (nm (uI s (r0 + 3) ((s.1 r0 3).toNatClampNeg) ((v1 * (10 : Int32)) + v3)) (fun s8 => nm (uI s8 r0 3 ((s8.1 r0 3) + (1 : Int32))) (fun s9 => L_X3_listReady_26 en d r0 v1 v2 (v3 + (1 : Int32)) s9))))) (L_X3_listReady_26 en d r0 v1 v2 v3 s) := by
  show qle _ (qE (qev en d) en (some .int) tb_X3_listReady (26, [(0, .ref r0), (1, .int v1), (2, .int v2), (3, .int v3)], []) s)
  refine qle_gd fun h_r0 => ?_
  refine e_L 2 (f' := (28, [(0, .ref r0), (1, .int v1), (2, .int v2), (3, .int v3)], [.int v2, .int v3])) rfl ?_
  refine e_icmp 62 rfl rfl rfl (fun c1 => ?_) (fun c1 => ?_)
  · refine e_L 1 (f' := (63, [(0, .ref r0), (1, .int v1), (2, .int v2), (3, .int v3)], [.ref r0])) rfl ?_
    refine e_gR (q := (r0 + 1)) 3 0 rfl rfl h_r0 (fo_3_0 h_r0) ?_
    refine e_L 3 (f' := (70, [(0, .ref r0), (1, .int v1), (2, .int v2), (3, .int v3)], [.int ((56 : Int32) + v1), .ref (r0 + 1)])) rfl ?_
    refine qle_gd fun h2 => ?_
    refine e_ial (n := 236) (k := ((56 : Int32) + v1).toNatClampNeg) rfl (fc_3_0 h_r0) (fl_3_0 h_r0) h2 rfl ?_
    refine e_ifz 100 rfl rfl rfl (fun c3 => ?_) (fun c3 => ?_)
    · refine e_L 2 (f' := (7, [(1, .int (v1 + (1 : Int32))), (0, .ref r0), (2, .int v2), (3, .int v3)], [])) rfl ?_
      exact qE_sub (qsubL [1, 0] rfl (ks := [1, 0, 2, 3]) rfl (by decide))
    · refine e_L 1 (f' := (75, [(0, .ref r0), (1, .int v1), (2, .int v2), (3, .int v3)], [.ref r0])) rfl ?_
      refine e_gR (q := (r0 + 3)) 3 2 rfl rfl h_r0 (fo_3_2 h_r0) ?_
      refine e_L 1 (f' := (79, [(0, .ref r0), (1, .int v1), (2, .int v2), (3, .int v3)], [.ref r0, .ref (r0 + 3)])) rfl ?_
      refine e_gI 3 3 rfl rfl h_r0 ?_
      refine e_L 5 (f' := (89, [(0, .ref r0), (1, .int v1), (2, .int v2), (3, .int v3)], [.int ((v1 * (10 : Int32)) + (9 : Int32)), .int (s.1 r0 3), .ref (r0 + 3)])) rfl ?_
      refine qle_gd fun h4 => ?_
      refine e_ias (n := 40) (k := (s.1 r0 3).toNatClampNeg) rfl (fc_3_2 h_r0) (fl_3_2 h_r0) h4 rfl ?_
      refine e_nS fun s5 => ?_
      refine e_L 2 (f' := (92, [(0, .ref r0), (1, .int v1), (2, .int v2), (3, .int v3)], [.ref r0, .ref r0])) rfl ?_
      refine e_gI 3 3 rfl rfl h_r0 ?_
      refine e_L 2 (f' := (97, [(0, .ref r0), (1, .int v1), (2, .int v2), (3, .int v3)], [.int ((s5.1 r0 3) + (1 : Int32)), .ref r0])) rfl ?_
      refine e_pI 3 3 rfl rfl h_r0 rfl ?_
      refine e_nS fun s6 => ?_
      refine e_L 2 (f' := (7, [(1, .int (v1 + (1 : Int32))), (0, .ref r0), (2, .int v2), (3, .int v3)], [])) rfl ?_
      exact qE_sub (qsubL [1, 0] rfl (ks := [1, 0, 2, 3]) rfl (by decide))
  · refine e_L 1 (f' := (32, [(0, .ref r0), (1, .int v1), (2, .int v2), (3, .int v3)], [.ref r0])) rfl ?_
    refine e_gR (q := (r0 + 3)) 3 2 rfl rfl h_r0 (fo_3_2 h_r0) ?_
    refine e_L 1 (f' := (36, [(0, .ref r0), (1, .int v1), (2, .int v2), (3, .int v3)], [.ref r0, .ref (r0 + 3)])) rfl ?_
    refine e_gI 3 3 rfl rfl h_r0 ?_
    refine e_L 5 (f' := (45, [(0, .ref r0), (1, .int v1), (2, .int v2), (3, .int v3)], [.int ((v1 * (10 : Int32)) + v3), .int (s.1 r0 3), .ref (r0 + 3)])) rfl ?_
    refine qle_gd fun h7 => ?_
    refine e_ias (n := 40) (k := (s.1 r0 3).toNatClampNeg) rfl (fc_3_2 h_r0) (fl_3_2 h_r0) h7 rfl ?_
    refine e_nS fun s8 => ?_
    refine e_L 2 (f' := (48, [(0, .ref r0), (1, .int v1), (2, .int v2), (3, .int v3)], [.ref r0, .ref r0])) rfl ?_
    refine e_gI 3 3 rfl rfl h_r0 ?_
    refine e_L 2 (f' := (53, [(0, .ref r0), (1, .int v1), (2, .int v2), (3, .int v3)], [.int ((s8.1 r0 3) + (1 : Int32)), .ref r0])) rfl ?_
    refine e_pI 3 3 rfl rfl h_r0 rfl ?_
    refine e_nS fun s9 => ?_
    refine e_L 2 (f' := (26, [(3, .int (v3 + (1 : Int32))), (0, .ref r0), (1, .int v1), (2, .int v2)], [])) rfl ?_
    exact qE_sub (qsubL [1, 2, 3, 0] rfl (ks := [3, 0, 1, 2]) rfl (by decide))
set_option maxRecDepth 100000 in
set_option maxHeartbeats 4000000 in
theorem le_X3_listReady (en : pN) (d : Nat) (t : Nat) (s : qS) : qle (gd (lc t = 3) (nm (uI s t 3 (0 : Int32)) (fun s1 => L_X3_listReady_7 en d t (0 : Int32) s1))) (qev en (d + 1) 42 [.ref t] s) := by
  refine e_enter ix_X3_listReady (Nat.le_of_ble_eq_true rfl) ?_
  show qle _ (qE (qev en d) en (some .int) tb_X3_listReady (0, [(0, .ref t)], []) s)
  refine qle_gd fun ht => ?_
  refine e_L 2 (f' := (2, [(0, .ref t)], [.int (0 : Int32), .ref t])) rfl ?_
  refine e_pI 3 3 rfl rfl ht rfl ?_
  refine e_nS fun s1 => ?_
  refine e_L 2 (f' := (7, [(1, .int (0 : Int32)), (0, .ref t)], [])) rfl ?_
  exact qE_sub (qsubL [1, 0] rfl (ks := [1, 0]) rfl (by decide))
set_option maxRecDepth 100000 in
set_option maxHeartbeats 4000000 in
theorem le_X3_isReady (en : pN) (d : Nat) (t : Nat) (a1 : Int32) (a2 : Int32) (s : qS) : qle (gd (lc t = 3) (if a1 < (0 : Int32) then some (some (.int (0 : Int32)), s) else gd (s.2.2 t 7 ≠ 0 ∧ lc (s.2.2 t 7 - 1) = 5) (nm (s.2.2 t 7 - 1) (fun q3 => if (s.1 q3 11) ≤ a1 then some (some (.int (0 : Int32)), s) else if (0 : Int32) ≤ a2 then bI (qev en d 44 [.ref t, .int a1] s) (fun w6 s7 => if a2 < w6 then some (some (.int (1 : Int32)), s7) else if ¬ a2 = (9 : Int32) then some (some (.int (0 : Int32)), s7) else gd (p_inB ((56 : Int32) + a1) 236 = true) (if (s7.1 (t + 1) ((56 : Int32) + a1).toNatClampNeg) ≤ (0 : Int32) then some (some (.int (0 : Int32)), s7) else some (some (.int (1 : Int32)), s7))) else some (some (.int (0 : Int32)), s))))) (qev en (d + 1) 43 [.ref t, .int a1, .int a2] s) := by
  refine e_enter ix_X3_isReady (Nat.le_of_ble_eq_true rfl) ?_
  show qle _ (qE (qev en d) en (some .boolean) tb_X3_isReady (0, [(0, .ref t), (1, .int a1), (2, .int a2)], []) s)
  refine qle_gd fun ht => ?_
  refine e_L 1 (f' := (1, [(0, .ref t), (1, .int a1), (2, .int a2)], [.int a1])) rfl ?_
  refine e_ifz 19 rfl rfl rfl (fun c1 => ?_) (fun c1 => ?_)
  · refine e_L 1 (f' := (20, [(0, .ref t), (1, .int a1), (2, .int a2)], [.int (0 : Int32)])) rfl ?_
    exact e_rZ rfl rfl (by decide)
  · refine e_L 2 (f' := (6, [(0, .ref t), (1, .int a1), (2, .int a2)], [.ref t, .int a1])) rfl ?_
    refine qle_gd fun h2 => ?_
    refine e_gM 3 7 rfl rfl ht h2.1 ?_
    refine e_nR (ci := 5) h2.2 fun q3 h_q3 => ?_
    refine e_gI 5 11 rfl rfl h_q3 ?_
    refine e_icmp 19 rfl rfl rfl (fun c4 => ?_) (fun c4 => ?_)
    · refine e_L 1 (f' := (20, [(0, .ref t), (1, .int a1), (2, .int a2)], [.int (0 : Int32)])) rfl ?_
      exact e_rZ rfl rfl (by decide)
    · refine e_L 1 (f' := (16, [(0, .ref t), (1, .int a1), (2, .int a2)], [.int a2])) rfl ?_
      refine e_ifz 21 rfl rfl rfl (fun c5 => ?_) (fun c5 => ?_)
      · refine e_L 3 (f' := (24, [(0, .ref t), (1, .int a1), (2, .int a2)], [.int a1, .ref t, .int a2])) rfl ?_
        refine e_vI 44 rfl rfl ix_X3_choices rfl (q_recvOf ht rfl) (Nat.le_of_ble_eq_true rfl) (fun w6 s7 e8 => ?_)
        refine e_icmp 48 rfl rfl rfl (fun c9 => ?_) (fun c9 => ?_)
        · refine e_L 2 (f' := (53, [(0, .ref t), (1, .int a1), (2, .int a2)], [.int (1 : Int32)])) rfl ?_
          exact e_rZ rfl rfl (by decide)
        · refine e_L 2 (f' := (33, [(0, .ref t), (1, .int a1), (2, .int a2)], [.int (9 : Int32), .int a2])) rfl ?_
          refine e_icmp 52 rfl rfl rfl (fun c10 => ?_) (fun c10 => ?_)
          · refine e_L 1 (f' := (53, [(0, .ref t), (1, .int a1), (2, .int a2)], [.int (0 : Int32)])) rfl ?_
            exact e_rZ rfl rfl (by decide)
          · refine e_L 1 (f' := (37, [(0, .ref t), (1, .int a1), (2, .int a2)], [.ref t])) rfl ?_
            refine e_gR (q := (t + 1)) 3 0 rfl rfl ht (fo_3_0 ht) ?_
            refine e_L 3 (f' := (44, [(0, .ref t), (1, .int a1), (2, .int a2)], [.int ((56 : Int32) + a1), .ref (t + 1)])) rfl ?_
            refine qle_gd fun h11 => ?_
            refine e_ial (n := 236) (k := ((56 : Int32) + a1).toNatClampNeg) rfl (fc_3_0 ht) (fl_3_0 ht) h11 rfl ?_
            refine e_ifz 52 rfl rfl rfl (fun c12 => ?_) (fun c12 => ?_)
            · refine e_L 1 (f' := (53, [(0, .ref t), (1, .int a1), (2, .int a2)], [.int (0 : Int32)])) rfl ?_
              exact e_rZ rfl rfl (by decide)
            · refine e_L 2 (f' := (53, [(0, .ref t), (1, .int a1), (2, .int a2)], [.int (1 : Int32)])) rfl ?_
              exact e_rZ rfl rfl (by decide)
      · refine e_L 1 (f' := (20, [(0, .ref t), (1, .int a1), (2, .int a2)], [.int (0 : Int32)])) rfl ?_
        exact e_rZ rfl rfl (by decide)
noncomputable def L_X3_choices_56 (en : pN) (d : Nat) (r0 : Nat) (v1 : Int32) (v2 : Int32) (v3 : Int32) (vs0 : Int32) (s : qS) : Option qR := qE (qev en d) en (some .int) tb_X3_choices (56, [(0, .ref r0), (1, .int v1), (2, .int v2), (3, .int v3)], [.int vs0]) s
noncomputable def L_X3_choices_123 (en : pN) (d : Nat) (r0 : Nat) (v1 : Int32) (v2 : Int32) (v3 : Int32) (v5 : Int32) (s : qS) : Option qR := qE (qev en d) en (some .int) tb_X3_choices (123, [(0, .ref r0), (1, .int v1), (2, .int v2), (3, .int v3), (5, .int v5)], []) s
noncomputable def L_X3_choices_224 (en : pN) (d : Nat) (r0 : Nat) (v1 : Int32) (v2 : Int32) (v5 : Int32) (s : qS) : Option qR := qE (qev en d) en (some .int) tb_X3_choices (224, [(0, .ref r0), (1, .int v1), (2, .int v2), (5, .int v5)], []) s
set_option maxRecDepth 100000 in
set_option maxHeartbeats 4000000 in
theorem le_X3_choices_56 (en : pN) (d : Nat) (r0 : Nat) (v1 : Int32) (v2 : Int32) (v3 : Int32) (vs0 : Int32) (s : qS) : qle (gd (lc r0 = 3) (gd (p_inB ((0 : Int32) + v1) 236 = true) (if ¬ (s.1 (r0 + 1) ((0 : Int32) + v1).toNatClampNeg) = (3 : Int32) then gd (s.2.2 r0 7 ≠ 0 ∧ lc (s.2.2 r0 7 - 1) = 5) (nm (s.2.2 r0 7 - 1) (fun q4 => gd (p_inB v2 100 = true) (nm (s.1 (q4 + 7) v2.toNatClampNeg) (fun z6 => if vs0 = (0 : Int32) then L_X3_choices_123 en d r0 v1 v2 v3 z6 s else bI (qev en d 45 [.ref r0, .int z6, .int v3] s) (fun w8 s9 => if w8 = (0 : Int32) then L_X3_choices_123 en d r0 v1 v2 v3 z6 s9 else some (some (.int (0 : Int32)), s9)))))) else gd (p_inB ((40 : Int32) + v3) 236 = true) (if (0 : Int32) ≤ (s.1 (r0 + 1) ((40 : Int32) + v3).toNatClampNeg) then some (some (.int (0 : Int32)), s) else if ¬ vs0 = (0 : Int32) then some (some (.int (0 : Int32)), s) else some (some (.int (1 : Int32)), s))))) (L_X3_choices_56 en d r0 v1 v2 v3 vs0 s) := by
  show qle _ (qE (qev en d) en (some .int) tb_X3_choices (56, [(0, .ref r0), (1, .int v1), (2, .int v2), (3, .int v3)], [.int vs0]) s)
  refine qle_gd fun h_r0 => ?_
  refine e_L 2 (f' := (59, [(4, .int vs0), (0, .ref r0), (1, .int v1), (2, .int v2), (3, .int v3)], [.ref r0])) rfl ?_
  refine e_gR (q := (r0 + 1)) 3 0 rfl rfl h_r0 (fo_3_0 h_r0) ?_
  refine e_L 3 (f' := (65, [(4, .int vs0), (0, .ref r0), (1, .int v1), (2, .int v2), (3, .int v3)], [.int ((0 : Int32) + v1), .ref (r0 + 1)])) rfl ?_
  refine qle_gd fun h1 => ?_
  refine e_ial (n := 236) (k := ((0 : Int32) + v1).toNatClampNeg) rfl (fc_3_0 h_r0) (fl_3_0 h_r0) h1 rfl ?_
  refine e_L 1 (f' := (67, [(4, .int vs0), (0, .ref r0), (1, .int v1), (2, .int v2), (3, .int v3)], [.int (3 : Int32), .int (s.1 (r0 + 1) ((0 : Int32) + v1).toNatClampNeg)])) rfl ?_
  refine e_icmp 93 rfl rfl rfl (fun c2 => ?_) (fun c2 => ?_)
  · refine e_L 1 (f' := (94, [(4, .int vs0), (0, .ref r0), (1, .int v1), (2, .int v2), (3, .int v3)], [.ref r0])) rfl ?_
    refine qle_gd fun h3 => ?_
    refine e_gM 3 7 rfl rfl h_r0 h3.1 ?_
    refine e_nR (ci := 5) h3.2 fun q4 h_q4 => ?_
    refine e_gR (q := (q4 + 6)) 5 6 rfl rfl h_q4 (fo_5_6 h_q4) ?_
    refine e_L 1 (f' := (101, [(4, .int vs0), (0, .ref r0), (1, .int v1), (2, .int v2), (3, .int v3)], [.int (0 : Int32), .ref (q4 + 6)])) rfl ?_
    refine e_aal (n := 18) (q := (q4 + 7)) rfl (fc_5_6 h_q4) (fl_5_6 h_q4) (by decide +kernel) (pe_0 h_q4) ?_
    refine e_L 1 (f' := (103, [(4, .int vs0), (0, .ref r0), (1, .int v1), (2, .int v2), (3, .int v3)], [.int v2, .ref (q4 + 7)])) rfl ?_
    refine qle_gd fun h5 => ?_
    refine e_ial (n := 100) (k := v2.toNatClampNeg) rfl (pe_c_0 h_q4) (pe_l_0 h_q4) h5 rfl ?_
    refine e_nI fun z6 => ?_
    refine e_L 2 (f' := (108, [(5, .int z6), (4, .int vs0), (0, .ref r0), (1, .int v1), (2, .int v2), (3, .int v3)], [.int vs0])) rfl ?_
    refine e_ifz 123 rfl rfl rfl (fun c7 => ?_) (fun c7 => ?_)
    · exact qE_sub (qsubL [2, 3, 4, 5, 0] rfl (ks := [5, 4, 0, 1, 2, 3]) rfl (by decide))
    · refine e_L 3 (f' := (115, [(5, .int z6), (4, .int vs0), (0, .ref r0), (1, .int v1), (2, .int v2), (3, .int v3)], [.int v3, .int z6, .ref r0])) rfl ?_
      refine e_vI 45 rfl rfl ix_X3_needsEmptyQueue rfl (q_recvOf h_r0 rfl) (Nat.le_of_ble_eq_true rfl) (fun w8 s9 e10 => ?_)
      refine e_ifz 123 rfl rfl rfl (fun c11 => ?_) (fun c11 => ?_)
      · exact qE_sub (qsubL [2, 3, 4, 5, 0] rfl (ks := [5, 4, 0, 1, 2, 3]) rfl (by decide))
      · refine e_L 1 (f' := (122, [(5, .int z6), (4, .int vs0), (0, .ref r0), (1, .int v1), (2, .int v2), (3, .int v3)], [.int (0 : Int32)])) rfl ?_
        exact e_rI rfl rfl
  · refine e_L 1 (f' := (71, [(4, .int vs0), (0, .ref r0), (1, .int v1), (2, .int v2), (3, .int v3)], [.ref r0])) rfl ?_
    refine e_gR (q := (r0 + 1)) 3 0 rfl rfl h_r0 (fo_3_0 h_r0) ?_
    refine e_L 3 (f' := (78, [(4, .int vs0), (0, .ref r0), (1, .int v1), (2, .int v2), (3, .int v3)], [.int ((40 : Int32) + v3), .ref (r0 + 1)])) rfl ?_
    refine qle_gd fun h12 => ?_
    refine e_ial (n := 236) (k := ((40 : Int32) + v3).toNatClampNeg) rfl (fc_3_0 h_r0) (fl_3_0 h_r0) h12 rfl ?_
    refine e_ifz 91 rfl rfl rfl (fun c13 => ?_) (fun c13 => ?_)
    · refine e_L 1 (f' := (92, [(4, .int vs0), (0, .ref r0), (1, .int v1), (2, .int v2), (3, .int v3)], [.int (0 : Int32)])) rfl ?_
      exact e_rI rfl rfl
    · refine e_L 1 (f' := (84, [(4, .int vs0), (0, .ref r0), (1, .int v1), (2, .int v2), (3, .int v3)], [.int vs0])) rfl ?_
      refine e_ifz 91 rfl rfl rfl (fun c14 => ?_) (fun c14 => ?_)
      · refine e_L 1 (f' := (92, [(4, .int vs0), (0, .ref r0), (1, .int v1), (2, .int v2), (3, .int v3)], [.int (0 : Int32)])) rfl ?_
        exact e_rI rfl rfl
      · refine e_L 2 (f' := (92, [(4, .int vs0), (0, .ref r0), (1, .int v1), (2, .int v2), (3, .int v3)], [.int (1 : Int32)])) rfl ?_
        exact e_rI rfl rfl
set_option maxRecDepth 100000 in
set_option maxHeartbeats 4000000 in
theorem le_X3_choices_123 (en : pN) (d : Nat) (r0 : Nat) (v1 : Int32) (v2 : Int32) (v3 : Int32) (v5 : Int32) (s : qS) : qle (gd (lc r0 = 3) (swI v5.toInt 1 [if ¬ (s.1 r0 8) = (2 : Int32) then some (some (.int (1 : Int32)), s) else gd (s.2.2 r0 7 ≠ 0 ∧ lc (s.2.2 r0 7 - 1) = 5) (nm (s.2.2 r0 7 - 1) (fun q3 => bI (qev en d 94 [.ref q3, .int v3] s) (fun w4 s5 => if ¬ w4 = (0 : Int32) then some (some (.int (1 : Int32)), s5) else gd (p_inB ((72 : Int32) + v3) 236 = true) (bI (qev en d 70 [.ref r0, .int v1, .int v3] s5) (fun w9 s10 => some (some (.int ((s5.1 (r0 + 1) ((72 : Int32) + v3).toNatClampNeg) - w9)), s10)))))), L_X3_choices_224 en d r0 v1 v2 v5 s, L_X3_choices_224 en d r0 v1 v2 v5 s, L_X3_choices_224 en d r0 v1 v2 v5 s, gd (p_inB ((40 : Int32) + v3) 236 = true) (if (s.1 (r0 + 1) ((40 : Int32) + v3).toNatClampNeg) < (0 : Int32) then some (some (.int (1 : Int32)), s) else if ¬ (s.1 (r0 + 1) ((40 : Int32) + v3).toNatClampNeg) = v1 then some (some (.int (0 : Int32)), s) else some (some (.int (1 : Int32)), s)), some (some (.int (1 : Int32)), s), some (some (.int (1 : Int32)), s), gd (p_inB ((40 : Int32) + v3) 236 = true) (if ¬ (s.1 (r0 + 1) ((40 : Int32) + v3).toNatClampNeg) = v1 then some (some (.int (1 : Int32)), s) else bI (qev en d 48 [.ref r0, .int v3] s) (fun w17 s18 => bI (qev en d 411 [.int (1 : Int32), .int w17] s18) (fun w20 s21 => some (some (.int w20), s21)))), some (some (.int (1 : Int32)), s), some (some (.int (1 : Int32)), s), gd (p_inB ((0 : Int32) + v3) 236 = true) (if ¬ (s.1 (r0 + 1) ((0 : Int32) + v3).toNatClampNeg) = (4 : Int32) then some (some (.int (0 : Int32)), s) else gd (p_inB ((56 : Int32) + v3) 236 = true) (if ¬ (s.1 (r0 + 1) ((56 : Int32) + v3).toNatClampNeg) = (0 : Int32) then some (some (.int (0 : Int32)), s) else some (some (.int (1 : Int32)), s)))] (some (some (.int (1 : Int32)), s)))) (L_X3_choices_123 en d r0 v1 v2 v3 v5 s) := by
  show qle _ (qE (qev en d) en (some .int) tb_X3_choices (123, [(0, .ref r0), (1, .int v1), (2, .int v2), (3, .int v3), (5, .int v5)], []) s)
  refine qle_gd fun h_r0 => ?_
  refine e_L 1 (f' := (125, [(0, .ref r0), (1, .int v1), (2, .int v2), (3, .int v3), (5, .int v5)], [.int v5])) rfl ?_
  refine e_tsw rfl (by decide) ⟨?_, ?_, ?_, ?_, ?_, ?_, ?_, ?_, ?_, ?_, ?_, trivial⟩ ?_
  · refine e_L 1 (f' := (185, [(0, .ref r0), (1, .int v1), (2, .int v2), (3, .int v3), (5, .int v5)], [.ref r0])) rfl ?_
    refine e_gI 3 8 rfl rfl h_r0 ?_
    refine e_L 1 (f' := (189, [(0, .ref r0), (1, .int v1), (2, .int v2), (3, .int v3), (5, .int v5)], [.int (2 : Int32), .int (s.1 r0 8)])) rfl ?_
    refine e_icmp 222 rfl rfl rfl (fun c1 => ?_) (fun c1 => ?_)
    · refine e_L 1 (f' := (223, [(0, .ref r0), (1, .int v1), (2, .int v2), (3, .int v3), (5, .int v5)], [.int (1 : Int32)])) rfl ?_
      exact e_rI rfl rfl
    · refine e_L 1 (f' := (193, [(0, .ref r0), (1, .int v1), (2, .int v2), (3, .int v3), (5, .int v5)], [.ref r0])) rfl ?_
      refine qle_gd fun h2 => ?_
      refine e_gM 3 7 rfl rfl h_r0 h2.1 ?_
      refine e_nR (ci := 5) h2.2 fun q3 h_q3 => ?_
      refine e_L 1 (f' := (197, [(0, .ref r0), (1, .int v1), (2, .int v2), (3, .int v3), (5, .int v5)], [.int v3, .ref q3])) rfl ?_
      refine e_vI 94 rfl rfl ix_X5_isVolatile rfl (q_recvOf h_q3 rfl) (Nat.le_of_ble_eq_true rfl) (fun w4 s5 e6 => ?_)
      refine e_ifz 222 rfl rfl rfl (fun c7 => ?_) (fun c7 => ?_)
      · refine e_L 1 (f' := (223, [(0, .ref r0), (1, .int v1), (2, .int v2), (3, .int v3), (5, .int v5)], [.int (1 : Int32)])) rfl ?_
        exact e_rI rfl rfl
      · refine e_L 1 (f' := (204, [(0, .ref r0), (1, .int v1), (2, .int v2), (3, .int v3), (5, .int v5)], [.ref r0])) rfl ?_
        refine e_gR (q := (r0 + 1)) 3 0 rfl rfl h_r0 (fo_3_0 h_r0) ?_
        refine e_L 3 (f' := (211, [(0, .ref r0), (1, .int v1), (2, .int v2), (3, .int v3), (5, .int v5)], [.int ((72 : Int32) + v3), .ref (r0 + 1)])) rfl ?_
        refine qle_gd fun h8 => ?_
        refine e_ial (n := 236) (k := ((72 : Int32) + v3).toNatClampNeg) rfl (fc_3_0 h_r0) (fl_3_0 h_r0) h8 rfl ?_
        refine e_L 3 (f' := (215, [(0, .ref r0), (1, .int v1), (2, .int v2), (3, .int v3), (5, .int v5)], [.int v3, .int v1, .ref r0, .int (s5.1 (r0 + 1) ((72 : Int32) + v3).toNatClampNeg)])) rfl ?_
        refine e_vI 70 rfl rfl ix_X3_viewed rfl (q_recvOf h_r0 rfl) (Nat.le_of_ble_eq_true rfl) (fun w9 s10 e11 => ?_)
        refine e_L 2 (f' := (223, [(0, .ref r0), (1, .int v1), (2, .int v2), (3, .int v3), (5, .int v5)], [.int ((s5.1 (r0 + 1) ((72 : Int32) + v3).toNatClampNeg) - w9)])) rfl ?_
        exact e_rI rfl rfl
  · exact qE_sub (qsubL [0, 1, 2, 4] rfl (ks := [0, 1, 2, 3, 5]) rfl (by decide))
  · exact qE_sub (qsubL [0, 1, 2, 4] rfl (ks := [0, 1, 2, 3, 5]) rfl (by decide))
  · exact qE_sub (qsubL [0, 1, 2, 4] rfl (ks := [0, 1, 2, 3, 5]) rfl (by decide))
  · refine e_L 1 (f' := (242, [(0, .ref r0), (1, .int v1), (2, .int v2), (3, .int v3), (5, .int v5)], [.ref r0])) rfl ?_
    refine e_gR (q := (r0 + 1)) 3 0 rfl rfl h_r0 (fo_3_0 h_r0) ?_
    refine e_L 3 (f' := (249, [(0, .ref r0), (1, .int v1), (2, .int v2), (3, .int v3), (5, .int v5)], [.int ((40 : Int32) + v3), .ref (r0 + 1)])) rfl ?_
    refine qle_gd fun h12 => ?_
    refine e_ial (n := 236) (k := ((40 : Int32) + v3).toNatClampNeg) rfl (fc_3_0 h_r0) (fl_3_0 h_r0) h12 rfl ?_
    refine e_ifz 266 rfl rfl rfl (fun c13 => ?_) (fun c13 => ?_)
    · refine e_L 2 (f' := (271, [(0, .ref r0), (1, .int v1), (2, .int v2), (3, .int v3), (5, .int v5)], [.int (1 : Int32)])) rfl ?_
      exact e_rI rfl rfl
    · refine e_L 1 (f' := (254, [(0, .ref r0), (1, .int v1), (2, .int v2), (3, .int v3), (5, .int v5)], [.ref r0])) rfl ?_
      refine e_gR (q := (r0 + 1)) 3 0 rfl rfl h_r0 (fo_3_0 h_r0) ?_
      refine e_L 3 (f' := (261, [(0, .ref r0), (1, .int v1), (2, .int v2), (3, .int v3), (5, .int v5)], [.int ((40 : Int32) + v3), .ref (r0 + 1)])) rfl ?_
      refine e_ial (n := 236) (k := ((40 : Int32) + v3).toNatClampNeg) rfl (fc_3_0 h_r0) (fl_3_0 h_r0) h12 rfl ?_
      refine e_L 1 (f' := (263, [(0, .ref r0), (1, .int v1), (2, .int v2), (3, .int v3), (5, .int v5)], [.int v1, .int (s.1 (r0 + 1) ((40 : Int32) + v3).toNatClampNeg)])) rfl ?_
      refine e_icmp 270 rfl rfl rfl (fun c14 => ?_) (fun c14 => ?_)
      · refine e_L 1 (f' := (271, [(0, .ref r0), (1, .int v1), (2, .int v2), (3, .int v3), (5, .int v5)], [.int (0 : Int32)])) rfl ?_
        exact e_rI rfl rfl
      · refine e_L 2 (f' := (271, [(0, .ref r0), (1, .int v1), (2, .int v2), (3, .int v3), (5, .int v5)], [.int (1 : Int32)])) rfl ?_
        exact e_rI rfl rfl
  · refine e_L 1 (f' := (330, [(0, .ref r0), (1, .int v1), (2, .int v2), (3, .int v3), (5, .int v5)], [.int (1 : Int32)])) rfl ?_
    exact e_rI rfl rfl
  · refine e_L 1 (f' := (330, [(0, .ref r0), (1, .int v1), (2, .int v2), (3, .int v3), (5, .int v5)], [.int (1 : Int32)])) rfl ?_
    exact e_rI rfl rfl
  · refine e_L 1 (f' := (273, [(0, .ref r0), (1, .int v1), (2, .int v2), (3, .int v3), (5, .int v5)], [.ref r0])) rfl ?_
    refine e_gR (q := (r0 + 1)) 3 0 rfl rfl h_r0 (fo_3_0 h_r0) ?_
    refine e_L 3 (f' := (280, [(0, .ref r0), (1, .int v1), (2, .int v2), (3, .int v3), (5, .int v5)], [.int ((40 : Int32) + v3), .ref (r0 + 1)])) rfl ?_
    refine qle_gd fun h15 => ?_
    refine e_ial (n := 236) (k := ((40 : Int32) + v3).toNatClampNeg) rfl (fc_3_0 h_r0) (fl_3_0 h_r0) h15 rfl ?_
    refine e_L 1 (f' := (282, [(0, .ref r0), (1, .int v1), (2, .int v2), (3, .int v3), (5, .int v5)], [.int v1, .int (s.1 (r0 + 1) ((40 : Int32) + v3).toNatClampNeg)])) rfl ?_
    refine e_icmp 297 rfl rfl rfl (fun c16 => ?_) (fun c16 => ?_)
    · refine e_L 1 (f' := (298, [(0, .ref r0), (1, .int v1), (2, .int v2), (3, .int v3), (5, .int v5)], [.int (1 : Int32)])) rfl ?_
      exact e_rI rfl rfl
    · refine e_L 3 (f' := (288, [(0, .ref r0), (1, .int v1), (2, .int v2), (3, .int v3), (5, .int v5)], [.int v3, .ref r0, .int (1 : Int32)])) rfl ?_
      refine e_vI 48 rfl rfl ix_X3_waiters rfl (q_recvOf h_r0 rfl) (Nat.le_of_ble_eq_true rfl) (fun w17 s18 e19 => ?_)
      refine e_sI 411 rfl rfl rfl ix_J9_max_7cf53 rfl (Nat.le_of_ble_eq_true rfl) (fun w20 s21 e22 => ?_)
      refine e_L 1 (f' := (298, [(0, .ref r0), (1, .int v1), (2, .int v2), (3, .int v3), (5, .int v5)], [.int w20])) rfl ?_
      exact e_rI rfl rfl
  · refine e_L 1 (f' := (330, [(0, .ref r0), (1, .int v1), (2, .int v2), (3, .int v3), (5, .int v5)], [.int (1 : Int32)])) rfl ?_
    exact e_rI rfl rfl
  · refine e_L 1 (f' := (330, [(0, .ref r0), (1, .int v1), (2, .int v2), (3, .int v3), (5, .int v5)], [.int (1 : Int32)])) rfl ?_
    exact e_rI rfl rfl
  · refine e_L 1 (f' := (300, [(0, .ref r0), (1, .int v1), (2, .int v2), (3, .int v3), (5, .int v5)], [.ref r0])) rfl ?_
    refine e_gR (q := (r0 + 1)) 3 0 rfl rfl h_r0 (fo_3_0 h_r0) ?_
    refine e_L 3 (f' := (306, [(0, .ref r0), (1, .int v1), (2, .int v2), (3, .int v3), (5, .int v5)], [.int ((0 : Int32) + v3), .ref (r0 + 1)])) rfl ?_
    refine qle_gd fun h23 => ?_
    refine e_ial (n := 236) (k := ((0 : Int32) + v3).toNatClampNeg) rfl (fc_3_0 h_r0) (fl_3_0 h_r0) h23 rfl ?_
    refine e_L 1 (f' := (308, [(0, .ref r0), (1, .int v1), (2, .int v2), (3, .int v3), (5, .int v5)], [.int (4 : Int32), .int (s.1 (r0 + 1) ((0 : Int32) + v3).toNatClampNeg)])) rfl ?_
    refine e_icmp 327 rfl rfl rfl (fun c24 => ?_) (fun c24 => ?_)
    · refine e_L 1 (f' := (328, [(0, .ref r0), (1, .int v1), (2, .int v2), (3, .int v3), (5, .int v5)], [.int (0 : Int32)])) rfl ?_
      exact e_rI rfl rfl
    · refine e_L 1 (f' := (312, [(0, .ref r0), (1, .int v1), (2, .int v2), (3, .int v3), (5, .int v5)], [.ref r0])) rfl ?_
      refine e_gR (q := (r0 + 1)) 3 0 rfl rfl h_r0 (fo_3_0 h_r0) ?_
      refine e_L 3 (f' := (319, [(0, .ref r0), (1, .int v1), (2, .int v2), (3, .int v3), (5, .int v5)], [.int ((56 : Int32) + v3), .ref (r0 + 1)])) rfl ?_
      refine qle_gd fun h25 => ?_
      refine e_ial (n := 236) (k := ((56 : Int32) + v3).toNatClampNeg) rfl (fc_3_0 h_r0) (fl_3_0 h_r0) h25 rfl ?_
      refine e_ifz 327 rfl rfl rfl (fun c26 => ?_) (fun c26 => ?_)
      · refine e_L 1 (f' := (328, [(0, .ref r0), (1, .int v1), (2, .int v2), (3, .int v3), (5, .int v5)], [.int (0 : Int32)])) rfl ?_
        exact e_rI rfl rfl
      · refine e_L 2 (f' := (328, [(0, .ref r0), (1, .int v1), (2, .int v2), (3, .int v3), (5, .int v5)], [.int (1 : Int32)])) rfl ?_
        exact e_rI rfl rfl
  · refine e_L 1 (f' := (330, [(0, .ref r0), (1, .int v1), (2, .int v2), (3, .int v3), (5, .int v5)], [.int (1 : Int32)])) rfl ?_
    exact e_rI rfl rfl
set_option maxRecDepth 100000 in
set_option maxHeartbeats 4000000 in
theorem le_X3_choices_224 (en : pN) (d : Nat) (r0 : Nat) (v1 : Int32) (v2 : Int32) (v5 : Int32) (s : qS) : qle (gd (lc r0 = 3) (bI (qev en d 46 [.ref r0, .int v1, .int v2, .int v5] s) (fun w1 s2 => if w1 = (0 : Int32) then some (some (.int (0 : Int32)), s2) else some (some (.int (1 : Int32)), s2)))) (L_X3_choices_224 en d r0 v1 v2 v5 s) := by
  show qle _ (qE (qev en d) en (some .int) tb_X3_choices (224, [(0, .ref r0), (1, .int v1), (2, .int v2), (5, .int v5)], []) s)
  refine qle_gd fun h_r0 => ?_
  refine e_L 4 (f' := (229, [(0, .ref r0), (1, .int v1), (2, .int v2), (5, .int v5)], [.int v5, .int v2, .int v1, .ref r0])) rfl ?_
  refine e_vI 46 rfl rfl ix_X3_hasRoom rfl (q_recvOf h_r0 rfl) (Nat.le_of_ble_eq_true rfl) (fun w1 s2 e3 => ?_)
  refine e_ifz 239 rfl rfl rfl (fun c4 => ?_) (fun c4 => ?_)
  · refine e_L 1 (f' := (240, [(0, .ref r0), (1, .int v1), (2, .int v2), (5, .int v5)], [.int (0 : Int32)])) rfl ?_
    exact e_rI rfl rfl
  · refine e_L 2 (f' := (240, [(0, .ref r0), (1, .int v1), (2, .int v2), (5, .int v5)], [.int (1 : Int32)])) rfl ?_
    exact e_rI rfl rfl
set_option maxRecDepth 100000 in
set_option maxHeartbeats 4000000 in
theorem le_X3_choices (en : pN) (d : Nat) (t : Nat) (a1 : Int32) (s : qS) : qle (gd (lc t = 3) (gd (p_inB ((4 : Int32) + a1) 236 = true) (nm (s.1 (t + 1) ((4 : Int32) + a1).toNatClampNeg) (fun z2 => if z2 < (0 : Int32) then some (some (.int (0 : Int32)), s) else gd (p_inB ((0 : Int32) + a1) 236 = true) (if ¬ (s.1 (t + 1) ((0 : Int32) + a1).toNatClampNeg) = (2 : Int32) then gd (s.2.2 t 7 ≠ 0 ∧ lc (s.2.2 t 7 - 1) = 5) (nm (s.2.2 t 7 - 1) (fun q7 => gd (p_inB z2 100 = true) (nm (s.1 (q7 + 9) z2.toNatClampNeg) (fun z9 => gd (p_inB ((56 : Int32) + a1) 236 = true) (if (s.1 (t + 1) ((56 : Int32) + a1).toNatClampNeg) ≤ (0 : Int32) then L_X3_choices_56 en d t a1 z2 z9 (0 : Int32) s else L_X3_choices_56 en d t a1 z2 z9 (1 : Int32) s))))) else some (some (.int (0 : Int32)), s)))))) (qev en (d + 1) 44 [.ref t, .int a1] s) := by
  refine e_enter ix_X3_choices (Nat.le_of_ble_eq_true rfl) ?_
  show qle _ (qE (qev en d) en (some .int) tb_X3_choices (0, [(0, .ref t), (1, .int a1)], []) s)
  refine qle_gd fun ht => ?_
  refine e_L 1 (f' := (1, [(0, .ref t), (1, .int a1)], [.ref t])) rfl ?_
  refine e_gR (q := (t + 1)) 3 0 rfl rfl ht (fo_3_0 ht) ?_
  refine e_L 3 (f' := (7, [(0, .ref t), (1, .int a1)], [.int ((4 : Int32) + a1), .ref (t + 1)])) rfl ?_
  refine qle_gd fun h1 => ?_
  refine e_ial (n := 236) (k := ((4 : Int32) + a1).toNatClampNeg) rfl (fc_3_0 ht) (fl_3_0 ht) h1 rfl ?_
  refine e_nI fun z2 => ?_
  refine e_L 2 (f' := (10, [(2, .int z2), (0, .ref t), (1, .int a1)], [.int z2])) rfl ?_
  refine e_ifz 25 rfl rfl rfl (fun c3 => ?_) (fun c3 => ?_)
  · refine e_L 1 (f' := (26, [(2, .int z2), (0, .ref t), (1, .int a1)], [.int (0 : Int32)])) rfl ?_
    exact e_rI rfl rfl
  · refine e_L 1 (f' := (14, [(2, .int z2), (0, .ref t), (1, .int a1)], [.ref t])) rfl ?_
    refine e_gR (q := (t + 1)) 3 0 rfl rfl ht (fo_3_0 ht) ?_
    refine e_L 3 (f' := (20, [(2, .int z2), (0, .ref t), (1, .int a1)], [.int ((0 : Int32) + a1), .ref (t + 1)])) rfl ?_
    refine qle_gd fun h4 => ?_
    refine e_ial (n := 236) (k := ((0 : Int32) + a1).toNatClampNeg) rfl (fc_3_0 ht) (fl_3_0 ht) h4 rfl ?_
    refine e_L 1 (f' := (22, [(2, .int z2), (0, .ref t), (1, .int a1)], [.int (2 : Int32), .int (s.1 (t + 1) ((0 : Int32) + a1).toNatClampNeg)])) rfl ?_
    refine e_icmp 27 rfl rfl rfl (fun c5 => ?_) (fun c5 => ?_)
    · refine e_L 1 (f' := (28, [(2, .int z2), (0, .ref t), (1, .int a1)], [.ref t])) rfl ?_
      refine qle_gd fun h6 => ?_
      refine e_gM 3 7 rfl rfl ht h6.1 ?_
      refine e_nR (ci := 5) h6.2 fun q7 h_q7 => ?_
      refine e_gR (q := (q7 + 6)) 5 6 rfl rfl h_q7 (fo_5_6 h_q7) ?_
      refine e_L 1 (f' := (35, [(2, .int z2), (0, .ref t), (1, .int a1)], [.int (2 : Int32), .ref (q7 + 6)])) rfl ?_
      refine e_aal (n := 18) (q := (q7 + 9)) rfl (fc_5_6 h_q7) (fl_5_6 h_q7) (by decide +kernel) (pe_2 h_q7) ?_
      refine e_L 1 (f' := (37, [(2, .int z2), (0, .ref t), (1, .int a1)], [.int z2, .ref (q7 + 9)])) rfl ?_
      refine qle_gd fun h8 => ?_
      refine e_ial (n := 100) (k := z2.toNatClampNeg) rfl (pe_c_2 h_q7) (pe_l_2 h_q7) h8 rfl ?_
      refine e_nI fun z9 => ?_
      refine e_L 2 (f' := (40, [(3, .int z9), (2, .int z2), (0, .ref t), (1, .int a1)], [.ref t])) rfl ?_
      refine e_gR (q := (t + 1)) 3 0 rfl rfl ht (fo_3_0 ht) ?_
      refine e_L 3 (f' := (47, [(3, .int z9), (2, .int z2), (0, .ref t), (1, .int a1)], [.int ((56 : Int32) + a1), .ref (t + 1)])) rfl ?_
      refine qle_gd fun h10 => ?_
      refine e_ial (n := 236) (k := ((56 : Int32) + a1).toNatClampNeg) rfl (fc_3_0 ht) (fl_3_0 ht) h10 rfl ?_
      refine e_ifz 55 rfl rfl rfl (fun c11 => ?_) (fun c11 => ?_)
      · refine e_L 1 (f' := (56, [(3, .int z9), (2, .int z2), (0, .ref t), (1, .int a1)], [.int (0 : Int32)])) rfl ?_
        exact qE_sub (qsubL [2, 3, 1, 0] rfl (ks := [3, 2, 0, 1]) rfl (by decide))
      · refine e_L 2 (f' := (56, [(3, .int z9), (2, .int z2), (0, .ref t), (1, .int a1)], [.int (1 : Int32)])) rfl ?_
        exact qE_sub (qsubL [2, 3, 1, 0] rfl (ks := [3, 2, 0, 1]) rfl (by decide))
    · refine e_L 1 (f' := (26, [(2, .int z2), (0, .ref t), (1, .int a1)], [.int (0 : Int32)])) rfl ?_
      exact e_rI rfl rfl
noncomputable def L_X3_needsEmptyQueue_11 (en : pN) (d : Nat) (r0 : Nat) (v1 : Int32) (v2 : Int32) (s : qS) : Option qR := qE (qev en d) en (some .boolean) tb_X3_needsEmptyQueue (11, [(0, .ref r0), (1, .int v1), (2, .int v2)], []) s
set_option maxRecDepth 100000 in
set_option maxHeartbeats 4000000 in
theorem le_X3_needsEmptyQueue_11 (en : pN) (d : Nat) (r0 : Nat) (v1 : Int32) (v2 : Int32) (s : qS) : qle (gd (lc r0 = 3) (if ¬ v1 = (2 : Int32) then some (some (.int (0 : Int32)), s) else gd (s.2.2 r0 7 ≠ 0 ∧ lc (s.2.2 r0 7 - 1) = 5) (nm (s.2.2 r0 7 - 1) (fun q3 => bI (qev en d 94 [.ref q3, .int v2] s) (fun w4 s5 => if w4 = (0 : Int32) then some (some (.int (0 : Int32)), s5) else some (some (.int (1 : Int32)), s5)))))) (L_X3_needsEmptyQueue_11 en d r0 v1 v2 s) := by
  show qle _ (qE (qev en d) en (some .boolean) tb_X3_needsEmptyQueue (11, [(0, .ref r0), (1, .int v1), (2, .int v2)], []) s)
  refine qle_gd fun h_r0 => ?_
  refine e_L 2 (f' := (13, [(0, .ref r0), (1, .int v1), (2, .int v2)], [.int (2 : Int32), .int v1])) rfl ?_
  refine e_icmp 31 rfl rfl rfl (fun c1 => ?_) (fun c1 => ?_)
  · refine e_L 1 (f' := (32, [(0, .ref r0), (1, .int v1), (2, .int v2)], [.int (0 : Int32)])) rfl ?_
    exact e_rZ rfl rfl (by decide)
  · refine e_L 1 (f' := (17, [(0, .ref r0), (1, .int v1), (2, .int v2)], [.ref r0])) rfl ?_
    refine qle_gd fun h2 => ?_
    refine e_gM 3 7 rfl rfl h_r0 h2.1 ?_
    refine e_nR (ci := 5) h2.2 fun q3 h_q3 => ?_
    refine e_L 1 (f' := (21, [(0, .ref r0), (1, .int v1), (2, .int v2)], [.int v2, .ref q3])) rfl ?_
    refine e_vI 94 rfl rfl ix_X5_isVolatile rfl (q_recvOf h_q3 rfl) (Nat.le_of_ble_eq_true rfl) (fun w4 s5 e6 => ?_)
    refine e_ifz 31 rfl rfl rfl (fun c7 => ?_) (fun c7 => ?_)
    · refine e_L 1 (f' := (32, [(0, .ref r0), (1, .int v1), (2, .int v2)], [.int (0 : Int32)])) rfl ?_
      exact e_rZ rfl rfl (by decide)
    · refine e_L 2 (f' := (32, [(0, .ref r0), (1, .int v1), (2, .int v2)], [.int (1 : Int32)])) rfl ?_
      exact e_rZ rfl rfl (by decide)
set_option maxRecDepth 100000 in
set_option maxHeartbeats 4000000 in
theorem le_X3_needsEmptyQueue (en : pN) (d : Nat) (t : Nat) (a1 : Int32) (a2 : Int32) (s : qS) : qle (gd (lc t = 3) (if a1 < (3 : Int32) then L_X3_needsEmptyQueue_11 en d t a1 a2 s else if a1 ≤ (12 : Int32) then some (some (.int (1 : Int32)), s) else L_X3_needsEmptyQueue_11 en d t a1 a2 s)) (qev en (d + 1) 45 [.ref t, .int a1, .int a2] s) := by
  refine e_enter ix_X3_needsEmptyQueue (Nat.le_of_ble_eq_true rfl) ?_
  show qle _ (qE (qev en d) en (some .boolean) tb_X3_needsEmptyQueue (0, [(0, .ref t), (1, .int a1), (2, .int a2)], []) s)
  refine qle_gd fun ht => ?_
  refine e_L 2 (f' := (2, [(0, .ref t), (1, .int a1), (2, .int a2)], [.int (3 : Int32), .int a1])) rfl ?_
  refine e_icmp 11 rfl rfl rfl (fun c1 => ?_) (fun c1 => ?_)
  · exact qE_sub (qsubL [0, 1, 2] rfl (ks := [0, 1, 2]) rfl (by decide))
  · refine e_L 2 (f' := (8, [(0, .ref t), (1, .int a1), (2, .int a2)], [.int (12 : Int32), .int a1])) rfl ?_
    refine e_icmp 27 rfl rfl rfl (fun c2 => ?_) (fun c2 => ?_)
    · refine e_L 2 (f' := (32, [(0, .ref t), (1, .int a1), (2, .int a2)], [.int (1 : Int32)])) rfl ?_
      exact e_rZ rfl rfl (by decide)
    · exact qE_sub (qsubL [0, 1, 2] rfl (ks := [0, 1, 2]) rfl (by decide))
set_option maxRecDepth 100000 in
set_option maxHeartbeats 4000000 in
theorem le_X3_hasRoom (en : pN) (d : Nat) (t : Nat) (a1 : Int32) (a2 : Int32) (a3 : Int32) (s : qS) : qle (gd (lc t = 3) (if ¬ (s.1 t 8) = (1 : Int32) then gd (s.2.2 t 7 ≠ 0 ∧ lc (s.2.2 t 7 - 1) = 5) (nm (s.2.2 t 7 - 1) (fun q3 => gd (p_inB a2 100 = true) (nm (s.1 (q3 + 9) a2.toNatClampNeg) (fun z5 => if (s.1 t 8) = (0 : Int32) then some (some (.int (1 : Int32)), s) else gd (p_inB ((72 : Int32) + z5) 236 = true) (if (9 : Int32) ≤ (s.1 (t + 1) ((72 : Int32) + z5).toNatClampNeg) then if a3 = (3 : Int32) then gd (s.2.2 t 7 ≠ 0 ∧ lc (s.2.2 t 7 - 1) = 5) (nm (s.2.2 t 7 - 1) (fun q11 => bI (qev en d 78 [.ref 7, .int (s.1 (q3 + 12) a2.toNatClampNeg), .int (s.1 (q3 + 13) a2.toNatClampNeg), .ref (t + 1)] s) (fun w12 s13 => gd (s13.2.2 t 7 ≠ 0 ∧ lc (s13.2.2 t 7 - 1) = 5) (nm (s13.2.2 t 7 - 1) (fun q16 => gd (s13.2.2 t 7 ≠ 0 ∧ lc (s13.2.2 t 7 - 1) = 5) (nm (s13.2.2 t 7 - 1) (fun q18 => bI (qev en d 78 [.ref 7, .int (s13.1 (q3 + 14) a2.toNatClampNeg), .int (s13.1 (q3 + 15) a2.toNatClampNeg), .ref (t + 1)] s13) (fun w19 s20 => if ¬ (s13.1 7 4) = (0 : Int32) then some (some (.int (1 : Int32)), s20) else gd (s20.2.2 t 7 ≠ 0 ∧ lc (s20.2.2 t 7 - 1) = 5) (nm (s20.2.2 t 7 - 1) (fun q24 => if ¬ (s20.1 7 4) = (0 : Int32) then some (some (.int (1 : Int32)), s20) else gd (p_inB ((48 : Int32) + z5) 236 = true) (if (s20.1 (t + 1) ((48 : Int32) + z5).toNatClampNeg) = w12 then some (some (.int (0 : Int32)), s20) else some (some (.int (1 : Int32)), s20)))))))))))) else some (some (.int (0 : Int32)), s) else some (some (.int (1 : Int32)), s)))))) else gd (p_inB ((56 : Int32) + a1) 236 = true) (if (3 : Int32) ≤ (s.1 (t + 1) ((56 : Int32) + a1).toNatClampNeg) then some (some (.int (0 : Int32)), s) else some (some (.int (1 : Int32)), s)))) (qev en (d + 1) 46 [.ref t, .int a1, .int a2, .int a3] s) := by
  refine e_enter ix_X3_hasRoom (Nat.le_of_ble_eq_true rfl) ?_
  show qle _ (qE (qev en d) en (some .boolean) tb_X3_hasRoom (0, [(0, .ref t), (1, .int a1), (2, .int a2), (3, .int a3)], []) s)
  refine qle_gd fun ht => ?_
  refine e_L 1 (f' := (1, [(0, .ref t), (1, .int a1), (2, .int a2), (3, .int a3)], [.ref t])) rfl ?_
  refine e_gI 3 8 rfl rfl ht ?_
  refine e_L 1 (f' := (5, [(0, .ref t), (1, .int a1), (2, .int a2), (3, .int a3)], [.int (1 : Int32), .int (s.1 t 8)])) rfl ?_
  refine e_icmp 27 rfl rfl rfl (fun c1 => ?_) (fun c1 => ?_)
  · refine e_L 1 (f' := (28, [(0, .ref t), (1, .int a1), (2, .int a2), (3, .int a3)], [.ref t])) rfl ?_
    refine qle_gd fun h2 => ?_
    refine e_gM 3 7 rfl rfl ht h2.1 ?_
    refine e_nR (ci := 5) h2.2 fun q3 h_q3 => ?_
    refine e_gR (q := (q3 + 6)) 5 6 rfl rfl h_q3 (fo_5_6 h_q3) ?_
    refine e_L 3 (f' := (39, [(4, .ref (q3 + 6)), (0, .ref t), (1, .int a1), (2, .int a2), (3, .int a3)], [.int (2 : Int32), .ref (q3 + 6)])) rfl ?_
    refine e_aal (n := 18) (q := (q3 + 9)) rfl (fc_5_6 h_q3) (fl_5_6 h_q3) (by decide +kernel) (pe_2 h_q3) ?_
    refine e_L 1 (f' := (41, [(4, .ref (q3 + 6)), (0, .ref t), (1, .int a1), (2, .int a2), (3, .int a3)], [.int a2, .ref (q3 + 9)])) rfl ?_
    refine qle_gd fun h4 => ?_
    refine e_ial (n := 100) (k := a2.toNatClampNeg) rfl (pe_c_2 h_q3) (pe_l_2 h_q3) h4 rfl ?_
    refine e_nI fun z5 => ?_
    refine e_L 2 (f' := (45, [(5, .int z5), (4, .ref (q3 + 6)), (0, .ref t), (1, .int a1), (2, .int a2), (3, .int a3)], [.ref t])) rfl ?_
    refine e_gI 3 8 rfl rfl ht ?_
    refine e_ifz 66 rfl rfl rfl (fun c6 => ?_) (fun c6 => ?_)
    · refine e_L 1 (f' := (67, [(5, .int z5), (4, .ref (q3 + 6)), (0, .ref t), (1, .int a1), (2, .int a2), (3, .int a3)], [.int (1 : Int32)])) rfl ?_
      exact e_rZ rfl rfl (by decide)
    · refine e_L 1 (f' := (52, [(5, .int z5), (4, .ref (q3 + 6)), (0, .ref t), (1, .int a1), (2, .int a2), (3, .int a3)], [.ref t])) rfl ?_
      refine e_gR (q := (t + 1)) 3 0 rfl rfl ht (fo_3_0 ht) ?_
      refine e_L 3 (f' := (60, [(5, .int z5), (4, .ref (q3 + 6)), (0, .ref t), (1, .int a1), (2, .int a2), (3, .int a3)], [.int ((72 : Int32) + z5), .ref (t + 1)])) rfl ?_
      refine qle_gd fun h7 => ?_
      refine e_ial (n := 236) (k := ((72 : Int32) + z5).toNatClampNeg) rfl (fc_3_0 ht) (fl_3_0 ht) h7 rfl ?_
      refine e_L 1 (f' := (63, [(5, .int z5), (4, .ref (q3 + 6)), (0, .ref t), (1, .int a1), (2, .int a2), (3, .int a3)], [.int (9 : Int32), .int (s.1 (t + 1) ((72 : Int32) + z5).toNatClampNeg)])) rfl ?_
      refine e_icmp 68 rfl rfl rfl (fun c8 => ?_) (fun c8 => ?_)
      · refine e_L 2 (f' := (70, [(5, .int z5), (4, .ref (q3 + 6)), (0, .ref t), (1, .int a1), (2, .int a2), (3, .int a3)], [.int (3 : Int32), .int a3])) rfl ?_
        refine e_icmp 75 rfl rfl rfl (fun c9 => ?_) (fun c9 => ?_)
        · refine e_L 1 (f' := (76, [(5, .int z5), (4, .ref (q3 + 6)), (0, .ref t), (1, .int a1), (2, .int a2), (3, .int a3)], [.ref t])) rfl ?_
          refine qle_gd fun h10 => ?_
          refine e_gM 3 7 rfl rfl ht h10.1 ?_
          refine e_nR (ci := 5) h10.2 fun q11 h_q11 => ?_
          refine e_gR (q := 7) 5 0 rfl rfl h_q11 (fo_5_0 h_q11) ?_
          refine e_L 2 (f' := (85, [(5, .int z5), (4, .ref (q3 + 6)), (0, .ref t), (1, .int a1), (2, .int a2), (3, .int a3)], [.int (5 : Int32), .ref (q3 + 6), .ref 7])) rfl ?_
          refine e_aal (n := 18) (q := (q3 + 12)) rfl (fc_5_6 h_q3) (fl_5_6 h_q3) (by decide +kernel) (pe_5 h_q3) ?_
          refine e_L 1 (f' := (87, [(5, .int z5), (4, .ref (q3 + 6)), (0, .ref t), (1, .int a1), (2, .int a2), (3, .int a3)], [.int a2, .ref (q3 + 12), .ref 7])) rfl ?_
          refine e_ial (n := 100) (k := a2.toNatClampNeg) rfl (pe_c_5 h_q3) (pe_l_5 h_q3) h4 rfl ?_
          refine e_L 2 (f' := (92, [(5, .int z5), (4, .ref (q3 + 6)), (0, .ref t), (1, .int a1), (2, .int a2), (3, .int a3)], [.int (6 : Int32), .ref (q3 + 6), .int (s.1 (q3 + 12) a2.toNatClampNeg), .ref 7])) rfl ?_
          refine e_aal (n := 18) (q := (q3 + 13)) rfl (fc_5_6 h_q3) (fl_5_6 h_q3) (by decide +kernel) (pe_6 h_q3) ?_
          refine e_L 1 (f' := (94, [(5, .int z5), (4, .ref (q3 + 6)), (0, .ref t), (1, .int a1), (2, .int a2), (3, .int a3)], [.int a2, .ref (q3 + 13), .int (s.1 (q3 + 12) a2.toNatClampNeg), .ref 7])) rfl ?_
          refine e_ial (n := 100) (k := a2.toNatClampNeg) rfl (pe_c_6 h_q3) (pe_l_6 h_q3) h4 rfl ?_
          refine e_L 1 (f' := (96, [(5, .int z5), (4, .ref (q3 + 6)), (0, .ref t), (1, .int a1), (2, .int a2), (3, .int a3)], [.ref t, .int (s.1 (q3 + 13) a2.toNatClampNeg), .int (s.1 (q3 + 12) a2.toNatClampNeg), .ref 7])) rfl ?_
          refine e_gR (q := (t + 1)) 3 0 rfl rfl ht (fo_3_0 ht) ?_
          refine e_vI 78 rfl rfl ix_X4_workOut rfl (q_recvOf lc_7 rfl) (Nat.le_of_ble_eq_true rfl) (fun w12 s13 e14 => ?_)
          refine e_L 2 (f' := (105, [(6, .int w12), (5, .int z5), (4, .ref (q3 + 6)), (0, .ref t), (1, .int a1), (2, .int a2), (3, .int a3)], [.ref t])) rfl ?_
          refine qle_gd fun h15 => ?_
          refine e_gM 3 7 rfl rfl ht h15.1 ?_
          refine e_nR (ci := 5) h15.2 fun q16 h_q16 => ?_
          refine e_gR (q := 7) 5 0 rfl rfl h_q16 (fo_5_0 h_q16) ?_
          refine e_gI 4 4 rfl rfl lc_7 ?_
          refine e_L 2 (f' := (117, [(7, .int (s13.1 7 4)), (6, .int w12), (5, .int z5), (4, .ref (q3 + 6)), (0, .ref t), (1, .int a1), (2, .int a2), (3, .int a3)], [.ref t])) rfl ?_
          refine qle_gd fun h17 => ?_
          refine e_gM 3 7 rfl rfl ht h17.1 ?_
          refine e_nR (ci := 5) h17.2 fun q18 h_q18 => ?_
          refine e_gR (q := 7) 5 0 rfl rfl h_q18 (fo_5_0 h_q18) ?_
          refine e_L 2 (f' := (127, [(7, .int (s13.1 7 4)), (6, .int w12), (5, .int z5), (4, .ref (q3 + 6)), (0, .ref t), (1, .int a1), (2, .int a2), (3, .int a3)], [.int (7 : Int32), .ref (q3 + 6), .ref 7])) rfl ?_
          refine e_aal (n := 18) (q := (q3 + 14)) rfl (fc_5_6 h_q3) (fl_5_6 h_q3) (by decide +kernel) (pe_7 h_q3) ?_
          refine e_L 1 (f' := (129, [(7, .int (s13.1 7 4)), (6, .int w12), (5, .int z5), (4, .ref (q3 + 6)), (0, .ref t), (1, .int a1), (2, .int a2), (3, .int a3)], [.int a2, .ref (q3 + 14), .ref 7])) rfl ?_
          refine e_ial (n := 100) (k := a2.toNatClampNeg) rfl (pe_c_7 h_q3) (pe_l_7 h_q3) h4 rfl ?_
          refine e_L 2 (f' := (134, [(7, .int (s13.1 7 4)), (6, .int w12), (5, .int z5), (4, .ref (q3 + 6)), (0, .ref t), (1, .int a1), (2, .int a2), (3, .int a3)], [.int (8 : Int32), .ref (q3 + 6), .int (s13.1 (q3 + 14) a2.toNatClampNeg), .ref 7])) rfl ?_
          refine e_aal (n := 18) (q := (q3 + 15)) rfl (fc_5_6 h_q3) (fl_5_6 h_q3) (by decide +kernel) (pe_8 h_q3) ?_
          refine e_L 1 (f' := (136, [(7, .int (s13.1 7 4)), (6, .int w12), (5, .int z5), (4, .ref (q3 + 6)), (0, .ref t), (1, .int a1), (2, .int a2), (3, .int a3)], [.int a2, .ref (q3 + 15), .int (s13.1 (q3 + 14) a2.toNatClampNeg), .ref 7])) rfl ?_
          refine e_ial (n := 100) (k := a2.toNatClampNeg) rfl (pe_c_8 h_q3) (pe_l_8 h_q3) h4 rfl ?_
          refine e_L 1 (f' := (138, [(7, .int (s13.1 7 4)), (6, .int w12), (5, .int z5), (4, .ref (q3 + 6)), (0, .ref t), (1, .int a1), (2, .int a2), (3, .int a3)], [.ref t, .int (s13.1 (q3 + 15) a2.toNatClampNeg), .int (s13.1 (q3 + 14) a2.toNatClampNeg), .ref 7])) rfl ?_
          refine e_gR (q := (t + 1)) 3 0 rfl rfl ht (fo_3_0 ht) ?_
          refine e_vI 78 rfl rfl ix_X4_workOut rfl (q_recvOf lc_7 rfl) (Nat.le_of_ble_eq_true rfl) (fun w19 s20 e21 => ?_)
          refine e_L 2 (f' := (147, [(7, .int (s13.1 7 4)), (6, .int w12), (5, .int z5), (4, .ref (q3 + 6)), (0, .ref t), (1, .int a1), (2, .int a2), (3, .int a3)], [.int (s13.1 7 4)])) rfl ?_
          refine e_ifz 178 rfl rfl rfl (fun c22 => ?_) (fun c22 => ?_)
          · refine e_L 2 (f' := (183, [(7, .int (s13.1 7 4)), (6, .int w12), (5, .int z5), (4, .ref (q3 + 6)), (0, .ref t), (1, .int a1), (2, .int a2), (3, .int a3)], [.int (1 : Int32)])) rfl ?_
            exact e_rZ rfl rfl (by decide)
          · refine e_L 1 (f' := (151, [(7, .int (s13.1 7 4)), (6, .int w12), (5, .int z5), (4, .ref (q3 + 6)), (0, .ref t), (1, .int a1), (2, .int a2), (3, .int a3)], [.ref t])) rfl ?_
            refine qle_gd fun h23 => ?_
            refine e_gM 3 7 rfl rfl ht h23.1 ?_
            refine e_nR (ci := 5) h23.2 fun q24 h_q24 => ?_
            refine e_gR (q := 7) 5 0 rfl rfl h_q24 (fo_5_0 h_q24) ?_
            refine e_gI 4 4 rfl rfl lc_7 ?_
            refine e_ifz 178 rfl rfl rfl (fun c25 => ?_) (fun c25 => ?_)
            · refine e_L 2 (f' := (183, [(7, .int (s13.1 7 4)), (6, .int w12), (5, .int z5), (4, .ref (q3 + 6)), (0, .ref t), (1, .int a1), (2, .int a2), (3, .int a3)], [.int (1 : Int32)])) rfl ?_
              exact e_rZ rfl rfl (by decide)
            · refine e_L 1 (f' := (164, [(7, .int (s13.1 7 4)), (6, .int w12), (5, .int z5), (4, .ref (q3 + 6)), (0, .ref t), (1, .int a1), (2, .int a2), (3, .int a3)], [.ref t])) rfl ?_
              refine e_gR (q := (t + 1)) 3 0 rfl rfl ht (fo_3_0 ht) ?_
              refine e_L 3 (f' := (172, [(7, .int (s13.1 7 4)), (6, .int w12), (5, .int z5), (4, .ref (q3 + 6)), (0, .ref t), (1, .int a1), (2, .int a2), (3, .int a3)], [.int ((48 : Int32) + z5), .ref (t + 1)])) rfl ?_
              refine qle_gd fun h26 => ?_
              refine e_ial (n := 236) (k := ((48 : Int32) + z5).toNatClampNeg) rfl (fc_3_0 ht) (fl_3_0 ht) h26 rfl ?_
              refine e_L 1 (f' := (175, [(7, .int (s13.1 7 4)), (6, .int w12), (5, .int z5), (4, .ref (q3 + 6)), (0, .ref t), (1, .int a1), (2, .int a2), (3, .int a3)], [.int w12, .int (s20.1 (t + 1) ((48 : Int32) + z5).toNatClampNeg)])) rfl ?_
              refine e_icmp 182 rfl rfl rfl (fun c27 => ?_) (fun c27 => ?_)
              · refine e_L 1 (f' := (183, [(7, .int (s13.1 7 4)), (6, .int w12), (5, .int z5), (4, .ref (q3 + 6)), (0, .ref t), (1, .int a1), (2, .int a2), (3, .int a3)], [.int (0 : Int32)])) rfl ?_
                exact e_rZ rfl rfl (by decide)
              · refine e_L 2 (f' := (183, [(7, .int (s13.1 7 4)), (6, .int w12), (5, .int z5), (4, .ref (q3 + 6)), (0, .ref t), (1, .int a1), (2, .int a2), (3, .int a3)], [.int (1 : Int32)])) rfl ?_
                exact e_rZ rfl rfl (by decide)
        · refine e_L 1 (f' := (74, [(5, .int z5), (4, .ref (q3 + 6)), (0, .ref t), (1, .int a1), (2, .int a2), (3, .int a3)], [.int (0 : Int32)])) rfl ?_
          exact e_rZ rfl rfl (by decide)
      · refine e_L 1 (f' := (67, [(5, .int z5), (4, .ref (q3 + 6)), (0, .ref t), (1, .int a1), (2, .int a2), (3, .int a3)], [.int (1 : Int32)])) rfl ?_
        exact e_rZ rfl rfl (by decide)
  · refine e_L 1 (f' := (9, [(0, .ref t), (1, .int a1), (2, .int a2), (3, .int a3)], [.ref t])) rfl ?_
    refine e_gR (q := (t + 1)) 3 0 rfl rfl ht (fo_3_0 ht) ?_
    refine e_L 3 (f' := (16, [(0, .ref t), (1, .int a1), (2, .int a2), (3, .int a3)], [.int ((56 : Int32) + a1), .ref (t + 1)])) rfl ?_
    refine qle_gd fun h28 => ?_
    refine e_ial (n := 236) (k := ((56 : Int32) + a1).toNatClampNeg) rfl (fc_3_0 ht) (fl_3_0 ht) h28 rfl ?_
    refine e_L 1 (f' := (18, [(0, .ref t), (1, .int a1), (2, .int a2), (3, .int a3)], [.int (3 : Int32), .int (s.1 (t + 1) ((56 : Int32) + a1).toNatClampNeg)])) rfl ?_
    refine e_icmp 25 rfl rfl rfl (fun c29 => ?_) (fun c29 => ?_)
    · refine e_L 1 (f' := (26, [(0, .ref t), (1, .int a1), (2, .int a2), (3, .int a3)], [.int (0 : Int32)])) rfl ?_
      exact e_rZ rfl rfl (by decide)
    · refine e_L 2 (f' := (26, [(0, .ref t), (1, .int a1), (2, .int a2), (3, .int a3)], [.int (1 : Int32)])) rfl ?_
      exact e_rZ rfl rfl (by decide)
set_option maxRecDepth 100000 in
set_option maxHeartbeats 4000000 in
theorem le_X3_waitsFor (en : pN) (d : Nat) (t : Nat) (a1 : Int32) (a2 : Int32) (s : qS) : qle (gd (lc t = 3) (gd (p_inB ((0 : Int32) + a1) 236 = true) (if ¬ (s.1 (t + 1) ((0 : Int32) + a1).toNatClampNeg) = (2 : Int32) then some (some (.int (0 : Int32)), s) else gd (s.2.2 t 7 ≠ 0 ∧ lc (s.2.2 t 7 - 1) = 5) (nm (s.2.2 t 7 - 1) (fun q4 => gd (p_inB ((4 : Int32) + a1) 236 = true) (gd (p_inB (s.1 (t + 1) ((4 : Int32) + a1).toNatClampNeg) 100 = true) (if ¬ (s.1 (q4 + 9) (s.1 (t + 1) ((4 : Int32) + a1).toNatClampNeg).toNatClampNeg) = a2 then some (some (.int (0 : Int32)), s) else some (some (.int (1 : Int32)), s)))))))) (qev en (d + 1) 47 [.ref t, .int a1, .int a2] s) := by
  refine e_enter ix_X3_waitsFor (Nat.le_of_ble_eq_true rfl) ?_
  show qle _ (qE (qev en d) en (some .boolean) tb_X3_waitsFor (0, [(0, .ref t), (1, .int a1), (2, .int a2)], []) s)
  refine qle_gd fun ht => ?_
  refine e_L 1 (f' := (1, [(0, .ref t), (1, .int a1), (2, .int a2)], [.ref t])) rfl ?_
  refine e_gR (q := (t + 1)) 3 0 rfl rfl ht (fo_3_0 ht) ?_
  refine e_L 3 (f' := (7, [(0, .ref t), (1, .int a1), (2, .int a2)], [.int ((0 : Int32) + a1), .ref (t + 1)])) rfl ?_
  refine qle_gd fun h1 => ?_
  refine e_ial (n := 236) (k := ((0 : Int32) + a1).toNatClampNeg) rfl (fc_3_0 ht) (fl_3_0 ht) h1 rfl ?_
  refine e_L 1 (f' := (9, [(0, .ref t), (1, .int a1), (2, .int a2)], [.int (2 : Int32), .int (s.1 (t + 1) ((0 : Int32) + a1).toNatClampNeg)])) rfl ?_
  refine e_icmp 38 rfl rfl rfl (fun c2 => ?_) (fun c2 => ?_)
  · refine e_L 1 (f' := (39, [(0, .ref t), (1, .int a1), (2, .int a2)], [.int (0 : Int32)])) rfl ?_
    exact e_rZ rfl rfl (by decide)
  · refine e_L 1 (f' := (13, [(0, .ref t), (1, .int a1), (2, .int a2)], [.ref t])) rfl ?_
    refine qle_gd fun h3 => ?_
    refine e_gM 3 7 rfl rfl ht h3.1 ?_
    refine e_nR (ci := 5) h3.2 fun q4 h_q4 => ?_
    refine e_gR (q := (q4 + 6)) 5 6 rfl rfl h_q4 (fo_5_6 h_q4) ?_
    refine e_L 1 (f' := (20, [(0, .ref t), (1, .int a1), (2, .int a2)], [.int (2 : Int32), .ref (q4 + 6)])) rfl ?_
    refine e_aal (n := 18) (q := (q4 + 9)) rfl (fc_5_6 h_q4) (fl_5_6 h_q4) (by decide +kernel) (pe_2 h_q4) ?_
    refine e_L 1 (f' := (22, [(0, .ref t), (1, .int a1), (2, .int a2)], [.ref t, .ref (q4 + 9)])) rfl ?_
    refine e_gR (q := (t + 1)) 3 0 rfl rfl ht (fo_3_0 ht) ?_
    refine e_L 3 (f' := (28, [(0, .ref t), (1, .int a1), (2, .int a2)], [.int ((4 : Int32) + a1), .ref (t + 1), .ref (q4 + 9)])) rfl ?_
    refine qle_gd fun h5 => ?_
    refine e_ial (n := 236) (k := ((4 : Int32) + a1).toNatClampNeg) rfl (fc_3_0 ht) (fl_3_0 ht) h5 rfl ?_
    refine qle_gd fun h6 => ?_
    refine e_ial (n := 100) (k := (s.1 (t + 1) ((4 : Int32) + a1).toNatClampNeg).toNatClampNeg) rfl (pe_c_2 h_q4) (pe_l_2 h_q4) h6 rfl ?_
    refine e_L 1 (f' := (31, [(0, .ref t), (1, .int a1), (2, .int a2)], [.int a2, .int (s.1 (q4 + 9) (s.1 (t + 1) ((4 : Int32) + a1).toNatClampNeg).toNatClampNeg)])) rfl ?_
    refine e_icmp 38 rfl rfl rfl (fun c7 => ?_) (fun c7 => ?_)
    · refine e_L 1 (f' := (39, [(0, .ref t), (1, .int a1), (2, .int a2)], [.int (0 : Int32)])) rfl ?_
      exact e_rZ rfl rfl (by decide)
    · refine e_L 2 (f' := (39, [(0, .ref t), (1, .int a1), (2, .int a2)], [.int (1 : Int32)])) rfl ?_
      exact e_rZ rfl rfl (by decide)
noncomputable def L_X3_waiters_4 (en : pN) (d : Nat) (r0 : Nat) (v1 : Int32) (v2 : Int32) (v3 : Int32) (s : qS) : Option qR := qE (qev en d) en (some .int) tb_X3_waiters (4, [(0, .ref r0), (1, .int v1), (2, .int v2), (3, .int v3)], []) s
set_option maxRecDepth 100000 in
set_option maxHeartbeats 4000000 in
theorem le_X3_waiters_4 (en : pN) (d : Nat) (r0 : Nat) (v1 : Int32) (v2 : Int32) (v3 : Int32) (s : qS) : qle (gd (lc r0 = 3) (gd (s.2.2 r0 7 ≠ 0 ∧ lc (s.2.2 r0 7 - 1) = 5) (nm (s.2.2 r0 7 - 1) (fun q2 => if (s.1 q2 11) ≤ v3 then some (some (.int v2), s) else bI (qev en d 47 [.ref r0, .int v3, .int v1] s) (fun w4 s5 => if w4 = (0 : Int32) then L_X3_waiters_4 en d r0 v1 v2 (v3 + (1 : Int32)) s5 else L_X3_waiters_4 en d r0 v1 (v2 + (1 : Int32)) (v3 + (1 : Int32)) s5))))) (L_X3_waiters_4 en d r0 v1 v2 v3 s) := by
  show qle _ (qE (qev en d) en (some .int) tb_X3_waiters (4, [(0, .ref r0), (1, .int v1), (2, .int v2), (3, .int v3)], []) s)
  refine qle_gd fun h_r0 => ?_
  refine e_L 2 (f' := (6, [(0, .ref r0), (1, .int v1), (2, .int v2), (3, .int v3)], [.ref r0, .int v3])) rfl ?_
  refine qle_gd fun h1 => ?_
  refine e_gM 3 7 rfl rfl h_r0 h1.1 ?_
  refine e_nR (ci := 5) h1.2 fun q2 h_q2 => ?_
  refine e_gI 5 11 rfl rfl h_q2 ?_
  refine e_icmp 33 rfl rfl rfl (fun c3 => ?_) (fun c3 => ?_)
  · refine e_L 1 (f' := (34, [(0, .ref r0), (1, .int v1), (2, .int v2), (3, .int v3)], [.int v2])) rfl ?_
    exact e_rI rfl rfl
  · refine e_L 3 (f' := (18, [(0, .ref r0), (1, .int v1), (2, .int v2), (3, .int v3)], [.int v1, .int v3, .ref r0])) rfl ?_
    refine e_vI 47 rfl rfl ix_X3_waitsFor rfl (q_recvOf h_r0 rfl) (Nat.le_of_ble_eq_true rfl) (fun w4 s5 e6 => ?_)
    refine e_ifz 27 rfl rfl rfl (fun c7 => ?_) (fun c7 => ?_)
    · refine e_L 2 (f' := (4, [(3, .int (v3 + (1 : Int32))), (0, .ref r0), (1, .int v1), (2, .int v2)], [])) rfl ?_
      exact qE_sub (qsubL [1, 2, 3, 0] rfl (ks := [3, 0, 1, 2]) rfl (by decide))
    · refine e_L 3 (f' := (4, [(3, .int (v3 + (1 : Int32))), (2, .int (v2 + (1 : Int32))), (0, .ref r0), (1, .int v1)], [])) rfl ?_
      exact qE_sub (qsubL [2, 3, 1, 0] rfl (ks := [3, 2, 0, 1]) rfl (by decide))
set_option maxRecDepth 100000 in
set_option maxHeartbeats 4000000 in
theorem le_X3_waiters (en : pN) (d : Nat) (t : Nat) (a1 : Int32) (s : qS) : qle (gd (lc t = 3) (L_X3_waiters_4 en d t a1 (0 : Int32) (0 : Int32) s)) (qev en (d + 1) 48 [.ref t, .int a1] s) := by
  refine e_enter ix_X3_waiters (Nat.le_of_ble_eq_true rfl) ?_
  show qle _ (qE (qev en d) en (some .int) tb_X3_waiters (0, [(0, .ref t), (1, .int a1)], []) s)
  refine qle_gd fun ht => ?_
  refine e_L 4 (f' := (4, [(3, .int (0 : Int32)), (2, .int (0 : Int32)), (0, .ref t), (1, .int a1)], [])) rfl ?_
  exact qE_sub (qsubL [2, 3, 1, 0] rfl (ks := [3, 2, 0, 1]) rfl (by decide))
noncomputable def L_X3_sort_4 (en : pN) (d : Nat) (r0 : Nat) (v1 : Int32) (v2 : Int32) (s : qS) : Option qR := qE (qev en d) en (some .int) tb_X3_sort (4, [(0, .ref r0), (1, .int v1), (2, .int v2)], []) s
set_option maxRecDepth 100000 in
set_option maxHeartbeats 4000000 in
theorem le_X3_sort_4 (en : pN) (d : Nat) (r0 : Nat) (v1 : Int32) (v2 : Int32) (s : qS) : qle (gd (lc r0 = 3) (gd (s.2.2 r0 7 ≠ 0 ∧ lc (s.2.2 r0 7 - 1) = 5) (nm (s.2.2 r0 7 - 1) (fun q2 => if (s.1 q2 11) ≤ v2 then if v1 = (0 : Int32) then some (some (.int (1 : Int32)), s) else some (some (.int (0 : Int32)), s) else gd (p_inB ((0 : Int32) + v2) 236 = true) (nm (s.1 (r0 + 1) ((0 : Int32) + v2).toNatClampNeg) (fun z6 => if ¬ z6 = (5 : Int32) then if v1 = (0 : Int32) then L_X3_sort_4 en d r0 (0 : Int32) (v2 + (1 : Int32)) s else if z6 = (0 : Int32) then L_X3_sort_4 en d r0 (1 : Int32) (v2 + (1 : Int32)) s else if ¬ z6 = (4 : Int32) then L_X3_sort_4 en d r0 (0 : Int32) (v2 + (1 : Int32)) s else L_X3_sort_4 en d r0 (1 : Int32) (v2 + (1 : Int32)) s else some (some (.int (2 : Int32)), s))))))) (L_X3_sort_4 en d r0 v1 v2 s) := by
  show qle _ (qE (qev en d) en (some .int) tb_X3_sort (4, [(0, .ref r0), (1, .int v1), (2, .int v2)], []) s)
  refine qle_gd fun h_r0 => ?_
  refine e_L 2 (f' := (6, [(0, .ref r0), (1, .int v1), (2, .int v2)], [.ref r0, .int v2])) rfl ?_
  refine qle_gd fun h1 => ?_
  refine e_gM 3 7 rfl rfl h_r0 h1.1 ?_
  refine e_nR (ci := 5) h1.2 fun q2 h_q2 => ?_
  refine e_gI 5 11 rfl rfl h_q2 ?_
  refine e_icmp 56 rfl rfl rfl (fun c3 => ?_) (fun c3 => ?_)
  · refine e_L 1 (f' := (57, [(0, .ref r0), (1, .int v1), (2, .int v2)], [.int v1])) rfl ?_
    refine e_ifz 64 rfl rfl rfl (fun c4 => ?_) (fun c4 => ?_)
    · refine e_L 1 (f' := (65, [(0, .ref r0), (1, .int v1), (2, .int v2)], [.int (1 : Int32)])) rfl ?_
      exact e_rI rfl rfl
    · refine e_L 2 (f' := (65, [(0, .ref r0), (1, .int v1), (2, .int v2)], [.int (0 : Int32)])) rfl ?_
      exact e_rI rfl rfl
  · refine e_L 1 (f' := (16, [(0, .ref r0), (1, .int v1), (2, .int v2)], [.ref r0])) rfl ?_
    refine e_gR (q := (r0 + 1)) 3 0 rfl rfl h_r0 (fo_3_0 h_r0) ?_
    refine e_L 3 (f' := (22, [(0, .ref r0), (1, .int v1), (2, .int v2)], [.int ((0 : Int32) + v2), .ref (r0 + 1)])) rfl ?_
    refine qle_gd fun h5 => ?_
    refine e_ial (n := 236) (k := ((0 : Int32) + v2).toNatClampNeg) rfl (fc_3_0 h_r0) (fl_3_0 h_r0) h5 rfl ?_
    refine e_nI fun z6 => ?_
    refine e_L 3 (f' := (26, [(3, .int z6), (0, .ref r0), (1, .int v1), (2, .int v2)], [.int (5 : Int32), .int z6])) rfl ?_
    refine e_icmp 31 rfl rfl rfl (fun c7 => ?_) (fun c7 => ?_)
    · refine e_L 1 (f' := (32, [(3, .int z6), (0, .ref r0), (1, .int v1), (2, .int v2)], [.int v1])) rfl ?_
      refine e_ifz 48 rfl rfl rfl (fun c8 => ?_) (fun c8 => ?_)
      · refine e_L 4 (f' := (4, [(2, .int (v2 + (1 : Int32))), (1, .int (0 : Int32)), (3, .int z6), (0, .ref r0)], [])) rfl ?_
        exact qE_sub (qsubL [3, 1, 0] rfl (ks := [2, 1, 3, 0]) rfl (by decide))
      · refine e_L 1 (f' := (36, [(3, .int z6), (0, .ref r0), (1, .int v1), (2, .int v2)], [.int z6])) rfl ?_
        refine e_ifz 44 rfl rfl rfl (fun c9 => ?_) (fun c9 => ?_)
        · refine e_L 5 (f' := (4, [(2, .int (v2 + (1 : Int32))), (1, .int (1 : Int32)), (3, .int z6), (0, .ref r0)], [])) rfl ?_
          exact qE_sub (qsubL [3, 1, 0] rfl (ks := [2, 1, 3, 0]) rfl (by decide))
        · refine e_L 2 (f' := (41, [(3, .int z6), (0, .ref r0), (1, .int v1), (2, .int v2)], [.int (4 : Int32), .int z6])) rfl ?_
          refine e_icmp 48 rfl rfl rfl (fun c10 => ?_) (fun c10 => ?_)
          · refine e_L 4 (f' := (4, [(2, .int (v2 + (1 : Int32))), (1, .int (0 : Int32)), (3, .int z6), (0, .ref r0)], [])) rfl ?_
            exact qE_sub (qsubL [3, 1, 0] rfl (ks := [2, 1, 3, 0]) rfl (by decide))
          · refine e_L 5 (f' := (4, [(2, .int (v2 + (1 : Int32))), (1, .int (1 : Int32)), (3, .int z6), (0, .ref r0)], [])) rfl ?_
            exact qE_sub (qsubL [3, 1, 0] rfl (ks := [2, 1, 3, 0]) rfl (by decide))
    · refine e_L 1 (f' := (30, [(3, .int z6), (0, .ref r0), (1, .int v1), (2, .int v2)], [.int (2 : Int32)])) rfl ?_
      exact e_rI rfl rfl
set_option maxRecDepth 100000 in
set_option maxHeartbeats 4000000 in
theorem le_X3_sort (en : pN) (d : Nat) (t : Nat) (s : qS) : qle (gd (lc t = 3) (L_X3_sort_4 en d t (1 : Int32) (0 : Int32) s)) (qev en (d + 1) 49 [.ref t] s) := by
  refine e_enter ix_X3_sort (Nat.le_of_ble_eq_true rfl) ?_
  show qle _ (qE (qev en d) en (some .int) tb_X3_sort (0, [(0, .ref t)], []) s)
  refine qle_gd fun ht => ?_
  refine e_L 4 (f' := (4, [(2, .int (0 : Int32)), (1, .int (1 : Int32)), (0, .ref t)], [])) rfl ?_
  exact qE_sub (qsubL [2, 1, 0] rfl (ks := [2, 1, 0]) rfl (by decide))
noncomputable def L_X3_locksOf_4 (en : pN) (d : Nat) (r0 : Nat) (v1 : Int32) (v2 : Int32) (v3 : Int32) (s : qS) : Option qR := qE (qev en d) en (some .int) tb_X3_locksOf (4, [(0, .ref r0), (1, .int v1), (2, .int v2), (3, .int v3)], []) s
set_option maxRecDepth 100000 in
set_option maxHeartbeats 4000000 in
theorem le_X3_locksOf_4 (en : pN) (d : Nat) (r0 : Nat) (v1 : Int32) (v2 : Int32) (v3 : Int32) (s : qS) : qle (gd (lc r0 = 3) (gd (s.2.2 r0 7 ≠ 0 ∧ lc (s.2.2 r0 7 - 1) = 5) (nm (s.2.2 r0 7 - 1) (fun q2 => if (s.1 q2 10) ≤ v3 then some (some (.int v2), s) else gd (p_inB ((40 : Int32) + v3) 236 = true) (if ¬ (s.1 (r0 + 1) ((40 : Int32) + v3).toNatClampNeg) = v1 then L_X3_locksOf_4 en d r0 v1 v2 (v3 + (1 : Int32)) s else nm (v2 ||| ((1 : Int32) <<< (v3 &&& 31))) (fun z6 => L_X3_locksOf_4 en d r0 v1 z6 (v3 + (1 : Int32)) s)))))) (L_X3_locksOf_4 en d r0 v1 v2 v3 s) := by
  show qle _ (qE (qev en d) en (some .int) tb_X3_locksOf (4, [(0, .ref r0), (1, .int v1), (2, .int v2), (3, .int v3)], []) s)
  refine qle_gd fun h_r0 => ?_
  refine e_L 2 (f' := (6, [(0, .ref r0), (1, .int v1), (2, .int v2), (3, .int v3)], [.ref r0, .int v3])) rfl ?_
  refine qle_gd fun h1 => ?_
  refine e_gM 3 7 rfl rfl h_r0 h1.1 ?_
  refine e_nR (ci := 5) h1.2 fun q2 h_q2 => ?_
  refine e_gI 5 10 rfl rfl h_q2 ?_
  refine e_icmp 40 rfl rfl rfl (fun c3 => ?_) (fun c3 => ?_)
  · refine e_L 1 (f' := (41, [(0, .ref r0), (1, .int v1), (2, .int v2), (3, .int v3)], [.int v2])) rfl ?_
    exact e_rI rfl rfl
  · refine e_L 1 (f' := (16, [(0, .ref r0), (1, .int v1), (2, .int v2), (3, .int v3)], [.ref r0])) rfl ?_
    refine e_gR (q := (r0 + 1)) 3 0 rfl rfl h_r0 (fo_3_0 h_r0) ?_
    refine e_L 3 (f' := (23, [(0, .ref r0), (1, .int v1), (2, .int v2), (3, .int v3)], [.int ((40 : Int32) + v3), .ref (r0 + 1)])) rfl ?_
    refine qle_gd fun h4 => ?_
    refine e_ial (n := 236) (k := ((40 : Int32) + v3).toNatClampNeg) rfl (fc_3_0 h_r0) (fl_3_0 h_r0) h4 rfl ?_
    refine e_L 1 (f' := (25, [(0, .ref r0), (1, .int v1), (2, .int v2), (3, .int v3)], [.int v1, .int (s.1 (r0 + 1) ((40 : Int32) + v3).toNatClampNeg)])) rfl ?_
    refine e_icmp 34 rfl rfl rfl (fun c5 => ?_) (fun c5 => ?_)
    · refine e_L 2 (f' := (4, [(3, .int (v3 + (1 : Int32))), (0, .ref r0), (1, .int v1), (2, .int v2)], [])) rfl ?_
      exact qE_sub (qsubL [1, 2, 3, 0] rfl (ks := [3, 0, 1, 2]) rfl (by decide))
    · refine e_L 5 (f' := (33, [(0, .ref r0), (1, .int v1), (2, .int v2), (3, .int v3)], [.int (v2 ||| ((1 : Int32) <<< (v3 &&& 31)))])) rfl ?_
      refine e_nI fun z6 => ?_
      refine e_L 3 (f' := (4, [(3, .int (v3 + (1 : Int32))), (2, .int z6), (0, .ref r0), (1, .int v1)], [])) rfl ?_
      exact qE_sub (qsubL [2, 3, 1, 0] rfl (ks := [3, 2, 0, 1]) rfl (by decide))
set_option maxRecDepth 100000 in
set_option maxHeartbeats 4000000 in
theorem le_X3_locksOf (en : pN) (d : Nat) (t : Nat) (a1 : Int32) (s : qS) : qle (gd (lc t = 3) (L_X3_locksOf_4 en d t a1 (0 : Int32) (0 : Int32) s)) (qev en (d + 1) 50 [.ref t, .int a1] s) := by
  refine e_enter ix_X3_locksOf (Nat.le_of_ble_eq_true rfl) ?_
  show qle _ (qE (qev en d) en (some .int) tb_X3_locksOf (0, [(0, .ref t), (1, .int a1)], []) s)
  refine qle_gd fun ht => ?_
  refine e_L 4 (f' := (4, [(3, .int (0 : Int32)), (2, .int (0 : Int32)), (0, .ref t), (1, .int a1)], [])) rfl ?_
  exact qE_sub (qsubL [2, 3, 1, 0] rfl (ks := [3, 2, 0, 1]) rfl (by decide))
noncomputable def L_X3_lockAhead_57 (en : pN) (d : Nat) (r0 : Nat) (v2 : Int32) (vs0 : Int32) (s : qS) : Option qR := qE (qev en d) en (some .int) tb_X3_lockAhead (57, [(0, .ref r0), (2, .int v2)], [.int vs0]) s
set_option maxRecDepth 100000 in
set_option maxHeartbeats 4000000 in
theorem le_X3_lockAhead_57 (en : pN) (d : Nat) (r0 : Nat) (v2 : Int32) (vs0 : Int32) (s : qS) : qle (gd (lc r0 = 3) (if vs0 = (0 : Int32) then some (some (.int (-1 : Int32)), s) else gd (s.2.2 r0 7 ≠ 0 ∧ lc (s.2.2 r0 7 - 1) = 5) (nm (s.2.2 r0 7 - 1) (fun q3 => gd (p_inB v2 100 = true) (some (some (.int (s.1 (q3 + 9) v2.toNatClampNeg)), s)))))) (L_X3_lockAhead_57 en d r0 v2 vs0 s) := by
  show qle _ (qE (qev en d) en (some .int) tb_X3_lockAhead (57, [(0, .ref r0), (2, .int v2)], [.int vs0]) s)
  refine qle_gd fun h_r0 => ?_
  refine e_L 2 (f' := (59, [(3, .int vs0), (0, .ref r0), (2, .int v2)], [.int vs0])) rfl ?_
  refine e_ifz 76 rfl rfl rfl (fun c1 => ?_) (fun c1 => ?_)
  · refine e_L 1 (f' := (77, [(3, .int vs0), (0, .ref r0), (2, .int v2)], [.int (-1 : Int32)])) rfl ?_
    exact e_rI rfl rfl
  · refine e_L 1 (f' := (63, [(3, .int vs0), (0, .ref r0), (2, .int v2)], [.ref r0])) rfl ?_
    refine qle_gd fun h2 => ?_
    refine e_gM 3 7 rfl rfl h_r0 h2.1 ?_
    refine e_nR (ci := 5) h2.2 fun q3 h_q3 => ?_
    refine e_gR (q := (q3 + 6)) 5 6 rfl rfl h_q3 (fo_5_6 h_q3) ?_
    refine e_L 1 (f' := (70, [(3, .int vs0), (0, .ref r0), (2, .int v2)], [.int (2 : Int32), .ref (q3 + 6)])) rfl ?_
    refine e_aal (n := 18) (q := (q3 + 9)) rfl (fc_5_6 h_q3) (fl_5_6 h_q3) (by decide +kernel) (pe_2 h_q3) ?_
    refine e_L 1 (f' := (72, [(3, .int vs0), (0, .ref r0), (2, .int v2)], [.int v2, .ref (q3 + 9)])) rfl ?_
    refine qle_gd fun h4 => ?_
    refine e_ial (n := 100) (k := v2.toNatClampNeg) rfl (pe_c_2 h_q3) (pe_l_2 h_q3) h4 rfl ?_
    refine e_L 1 (f' := (77, [(3, .int vs0), (0, .ref r0), (2, .int v2)], [.int (s.1 (q3 + 9) v2.toNatClampNeg)])) rfl ?_
    exact e_rI rfl rfl
set_option maxRecDepth 100000 in
set_option maxHeartbeats 4000000 in
theorem le_X3_lockAhead (en : pN) (d : Nat) (t : Nat) (a1 : Int32) (s : qS) : qle (gd (lc t = 3) (gd (p_inB ((4 : Int32) + a1) 236 = true) (nm (s.1 (t + 1) ((4 : Int32) + a1).toNatClampNeg) (fun z2 => if z2 < (0 : Int32) then L_X3_lockAhead_57 en d t z2 (0 : Int32) s else gd (p_inB ((0 : Int32) + a1) 236 = true) (if (s.1 (t + 1) ((0 : Int32) + a1).toNatClampNeg) = (3 : Int32) then L_X3_lockAhead_57 en d t z2 (1 : Int32) s else if ¬ (s.1 (t + 1) ((0 : Int32) + a1).toNatClampNeg) = (1 : Int32) then L_X3_lockAhead_57 en d t z2 (0 : Int32) s else gd (s.2.2 t 7 ≠ 0 ∧ lc (s.2.2 t 7 - 1) = 5) (nm (s.2.2 t 7 - 1) (fun q8 => gd (p_inB z2 100 = true) (if ¬ (s.1 (q8 + 7) z2.toNatClampNeg) = (5 : Int32) then L_X3_lockAhead_57 en d t z2 (0 : Int32) s else L_X3_lockAhead_57 en d t z2 (1 : Int32) s)))))))) (qev en (d + 1) 51 [.ref t, .int a1] s) := by
  refine e_enter ix_X3_lockAhead (Nat.le_of_ble_eq_true rfl) ?_
  show qle _ (qE (qev en d) en (some .int) tb_X3_lockAhead (0, [(0, .ref t), (1, .int a1)], []) s)
  refine qle_gd fun ht => ?_
  refine e_L 1 (f' := (1, [(0, .ref t), (1, .int a1)], [.ref t])) rfl ?_
  refine e_gR (q := (t + 1)) 3 0 rfl rfl ht (fo_3_0 ht) ?_
  refine e_L 3 (f' := (7, [(0, .ref t), (1, .int a1)], [.int ((4 : Int32) + a1), .ref (t + 1)])) rfl ?_
  refine qle_gd fun h1 => ?_
  refine e_ial (n := 236) (k := ((4 : Int32) + a1).toNatClampNeg) rfl (fc_3_0 ht) (fl_3_0 ht) h1 rfl ?_
  refine e_nI fun z2 => ?_
  refine e_L 2 (f' := (10, [(2, .int z2), (0, .ref t), (1, .int a1)], [.int z2])) rfl ?_
  refine e_ifz 56 rfl rfl rfl (fun c3 => ?_) (fun c3 => ?_)
  · refine e_L 1 (f' := (57, [(2, .int z2), (0, .ref t), (1, .int a1)], [.int (0 : Int32)])) rfl ?_
    exact qE_sub (qsubL [1, 0] rfl (ks := [2, 0, 1]) rfl (by decide))
  · refine e_L 1 (f' := (14, [(2, .int z2), (0, .ref t), (1, .int a1)], [.ref t])) rfl ?_
    refine e_gR (q := (t + 1)) 3 0 rfl rfl ht (fo_3_0 ht) ?_
    refine e_L 3 (f' := (20, [(2, .int z2), (0, .ref t), (1, .int a1)], [.int ((0 : Int32) + a1), .ref (t + 1)])) rfl ?_
    refine qle_gd fun h4 => ?_
    refine e_ial (n := 236) (k := ((0 : Int32) + a1).toNatClampNeg) rfl (fc_3_0 ht) (fl_3_0 ht) h4 rfl ?_
    refine e_L 1 (f' := (22, [(2, .int z2), (0, .ref t), (1, .int a1)], [.int (3 : Int32), .int (s.1 (t + 1) ((0 : Int32) + a1).toNatClampNeg)])) rfl ?_
    refine e_icmp 52 rfl rfl rfl (fun c5 => ?_) (fun c5 => ?_)
    · refine e_L 2 (f' := (57, [(2, .int z2), (0, .ref t), (1, .int a1)], [.int (1 : Int32)])) rfl ?_
      exact qE_sub (qsubL [1, 0] rfl (ks := [2, 0, 1]) rfl (by decide))
    · refine e_L 1 (f' := (26, [(2, .int z2), (0, .ref t), (1, .int a1)], [.ref t])) rfl ?_
      refine e_gR (q := (t + 1)) 3 0 rfl rfl ht (fo_3_0 ht) ?_
      refine e_L 3 (f' := (32, [(2, .int z2), (0, .ref t), (1, .int a1)], [.int ((0 : Int32) + a1), .ref (t + 1)])) rfl ?_
      refine e_ial (n := 236) (k := ((0 : Int32) + a1).toNatClampNeg) rfl (fc_3_0 ht) (fl_3_0 ht) h4 rfl ?_
      refine e_L 1 (f' := (34, [(2, .int z2), (0, .ref t), (1, .int a1)], [.int (1 : Int32), .int (s.1 (t + 1) ((0 : Int32) + a1).toNatClampNeg)])) rfl ?_
      refine e_icmp 56 rfl rfl rfl (fun c6 => ?_) (fun c6 => ?_)
      · refine e_L 1 (f' := (57, [(2, .int z2), (0, .ref t), (1, .int a1)], [.int (0 : Int32)])) rfl ?_
        exact qE_sub (qsubL [1, 0] rfl (ks := [2, 0, 1]) rfl (by decide))
      · refine e_L 1 (f' := (38, [(2, .int z2), (0, .ref t), (1, .int a1)], [.ref t])) rfl ?_
        refine qle_gd fun h7 => ?_
        refine e_gM 3 7 rfl rfl ht h7.1 ?_
        refine e_nR (ci := 5) h7.2 fun q8 h_q8 => ?_
        refine e_gR (q := (q8 + 6)) 5 6 rfl rfl h_q8 (fo_5_6 h_q8) ?_
        refine e_L 1 (f' := (45, [(2, .int z2), (0, .ref t), (1, .int a1)], [.int (0 : Int32), .ref (q8 + 6)])) rfl ?_
        refine e_aal (n := 18) (q := (q8 + 7)) rfl (fc_5_6 h_q8) (fl_5_6 h_q8) (by decide +kernel) (pe_0 h_q8) ?_
        refine e_L 1 (f' := (47, [(2, .int z2), (0, .ref t), (1, .int a1)], [.int z2, .ref (q8 + 7)])) rfl ?_
        refine qle_gd fun h9 => ?_
        refine e_ial (n := 100) (k := z2.toNatClampNeg) rfl (pe_c_0 h_q8) (pe_l_0 h_q8) h9 rfl ?_
        refine e_L 1 (f' := (49, [(2, .int z2), (0, .ref t), (1, .int a1)], [.int (5 : Int32), .int (s.1 (q8 + 7) z2.toNatClampNeg)])) rfl ?_
        refine e_icmp 56 rfl rfl rfl (fun c10 => ?_) (fun c10 => ?_)
        · refine e_L 1 (f' := (57, [(2, .int z2), (0, .ref t), (1, .int a1)], [.int (0 : Int32)])) rfl ?_
          exact qE_sub (qsubL [1, 0] rfl (ks := [2, 0, 1]) rfl (by decide))
        · refine e_L 2 (f' := (57, [(2, .int z2), (0, .ref t), (1, .int a1)], [.int (1 : Int32)])) rfl ?_
          exact qE_sub (qsubL [1, 0] rfl (ks := [2, 0, 1]) rfl (by decide))
noncomputable def L_X3_take_183 (en : pN) (d : Nat) (r0 : Nat) (v1 : Int32) (v4 : Int32) (s : qS) : Option qR := qE (qev en d) en none tb_X3_take (183, [(0, .ref r0), (1, .int v1), (4, .int v4)], []) s
set_option maxRecDepth 100000 in
set_option maxHeartbeats 4000000 in
theorem le_X3_take_183 (en : pN) (d : Nat) (r0 : Nat) (v1 : Int32) (v4 : Int32) (s : qS) : qle (gd (lc r0 = 3) (if v4 = (0 : Int32) then gd (p_inB ((0 : Int32) + v1) 236 = true) (if ¬ (s.1 (r0 + 1) ((0 : Int32) + v1).toNatClampNeg) = (1 : Int32) then some (none, s) else bV (qev en d 34 [.ref r0, .int v1, .int (s.1 r0 12)] s) (fun s5 => some (none, s5))) else gd (p_inB ((0 : Int32) + v1) 236 = true) (nm (uI s (r0 + 1) (((0 : Int32) + v1).toNatClampNeg) (5 : Int32)) (fun s8 => gd (p_inB ((4 : Int32) + v1) 236 = true) (nm (uI s8 (r0 + 1) (((4 : Int32) + v1).toNatClampNeg) (-1 : Int32)) (fun s10 => gd (p_inB ((8 : Int32) + v1) 236 = true) (nm (uI s10 (r0 + 1) (((8 : Int32) + v1).toNatClampNeg) v4) (fun s12 => nm (uI s12 r0 10 (21 : Int32)) (fun s13 => some (none, s13)))))))))) (L_X3_take_183 en d r0 v1 v4 s) := by
  show qle _ (qE (qev en d) en none tb_X3_take (183, [(0, .ref r0), (1, .int v1), (4, .int v4)], []) s)
  refine qle_gd fun h_r0 => ?_
  refine e_L 1 (f' := (185, [(0, .ref r0), (1, .int v1), (4, .int v4)], [.int v4])) rfl ?_
  refine e_ifz 226 rfl rfl rfl (fun c1 => ?_) (fun c1 => ?_)
  · refine e_L 1 (f' := (227, [(0, .ref r0), (1, .int v1), (4, .int v4)], [.ref r0])) rfl ?_
    refine e_gR (q := (r0 + 1)) 3 0 rfl rfl h_r0 (fo_3_0 h_r0) ?_
    refine e_L 3 (f' := (233, [(0, .ref r0), (1, .int v1), (4, .int v4)], [.int ((0 : Int32) + v1), .ref (r0 + 1)])) rfl ?_
    refine qle_gd fun h2 => ?_
    refine e_ial (n := 236) (k := ((0 : Int32) + v1).toNatClampNeg) rfl (fc_3_0 h_r0) (fl_3_0 h_r0) h2 rfl ?_
    refine e_L 1 (f' := (235, [(0, .ref r0), (1, .int v1), (4, .int v4)], [.int (1 : Int32), .int (s.1 (r0 + 1) ((0 : Int32) + v1).toNatClampNeg)])) rfl ?_
    refine e_icmp 247 rfl rfl rfl (fun c3 => ?_) (fun c3 => ?_)
    · exact e_rV rfl rfl
    · refine e_L 3 (f' := (241, [(0, .ref r0), (1, .int v1), (4, .int v4)], [.ref r0, .int v1, .ref r0])) rfl ?_
      refine e_gI 3 12 rfl rfl h_r0 ?_
      refine e_vV 34 rfl rfl ix_X3_go rfl (q_recvOf h_r0 rfl) (Nat.le_of_ble_eq_true rfl) (fun s5 e6 => ?_)
      exact e_rV rfl rfl
  · refine e_L 1 (f' := (189, [(0, .ref r0), (1, .int v1), (4, .int v4)], [.ref r0])) rfl ?_
    refine e_gR (q := (r0 + 1)) 3 0 rfl rfl h_r0 (fo_3_0 h_r0) ?_
    refine e_L 4 (f' := (196, [(0, .ref r0), (1, .int v1), (4, .int v4)], [.int (5 : Int32), .int ((0 : Int32) + v1), .ref (r0 + 1)])) rfl ?_
    refine qle_gd fun h7 => ?_
    refine e_ias (n := 236) (k := ((0 : Int32) + v1).toNatClampNeg) rfl (fc_3_0 h_r0) (fl_3_0 h_r0) h7 rfl ?_
    refine e_nS fun s8 => ?_
    refine e_L 1 (f' := (198, [(0, .ref r0), (1, .int v1), (4, .int v4)], [.ref r0])) rfl ?_
    refine e_gR (q := (r0 + 1)) 3 0 rfl rfl h_r0 (fo_3_0 h_r0) ?_
    refine e_L 4 (f' := (205, [(0, .ref r0), (1, .int v1), (4, .int v4)], [.int (-1 : Int32), .int ((4 : Int32) + v1), .ref (r0 + 1)])) rfl ?_
    refine qle_gd fun h9 => ?_
    refine e_ias (n := 236) (k := ((4 : Int32) + v1).toNatClampNeg) rfl (fc_3_0 h_r0) (fl_3_0 h_r0) h9 rfl ?_
    refine e_nS fun s10 => ?_
    refine e_L 1 (f' := (207, [(0, .ref r0), (1, .int v1), (4, .int v4)], [.ref r0])) rfl ?_
    refine e_gR (q := (r0 + 1)) 3 0 rfl rfl h_r0 (fo_3_0 h_r0) ?_
    refine e_L 4 (f' := (216, [(0, .ref r0), (1, .int v1), (4, .int v4)], [.int v4, .int ((8 : Int32) + v1), .ref (r0 + 1)])) rfl ?_
    refine qle_gd fun h11 => ?_
    refine e_ias (n := 236) (k := ((8 : Int32) + v1).toNatClampNeg) rfl (fc_3_0 h_r0) (fl_3_0 h_r0) h11 rfl ?_
    refine e_nS fun s12 => ?_
    refine e_L 2 (f' := (220, [(0, .ref r0), (1, .int v1), (4, .int v4)], [.int (21 : Int32), .ref r0])) rfl ?_
    refine e_pI 3 10 rfl rfl h_r0 rfl ?_
    refine e_nS fun s13 => ?_
    refine e_L 1 (f' := (247, [(0, .ref r0), (1, .int v1), (4, .int v4)], [])) rfl ?_
    exact e_rV rfl rfl
set_option maxRecDepth 100000 in
set_option maxHeartbeats 4000000 in
theorem le_X3_take (en : pN) (d : Nat) (t : Nat) (a1 : Int32) (a2 : Int32) (s : qS) : qle (gd (lc t = 3) (nm (uI s t 11 (0 : Int32)) (fun s1 => if ¬ a2 = (9 : Int32) then gd (p_inB ((4 : Int32) + a1) 236 = true) (nm (uI s1 t 9 (s1.1 (t + 1) ((4 : Int32) + a1).toNatClampNeg)) (fun s4 => gd (s4.2.2 t 7 ≠ 0 ∧ lc (s4.2.2 t 7 - 1) = 5) (nm (s4.2.2 t 7 - 1) (fun q6 => gd (p_inB (s4.1 t 9) 100 = true) (nm (s4.1 (q6 + 9) (s4.1 t 9).toNatClampNeg) (fun z8 => gd (s4.2.2 t 7 ≠ 0 ∧ lc (s4.2.2 t 7 - 1) = 5) (nm (s4.2.2 t 7 - 1) (fun q10 => nm (uI s4 t 12 (s4.1 (q10 + 23) (s4.1 t 9).toNatClampNeg)) (fun s11 => gd (p_inB ((0 : Int32) + a1) 236 = true) (if ¬ (s11.1 (t + 1) ((0 : Int32) + a1).toNatClampNeg) = (3 : Int32) then gd (s11.2.2 t 7 ≠ 0 ∧ lc (s11.2.2 t 7 - 1) = 5) (nm (s11.2.2 t 7 - 1) (fun q15 => gd (p_inB (s11.1 t 9) 100 = true) (nm (uI s11 t 10 (s11.1 (q15 + 7) (s11.1 t 9).toNatClampNeg)) (fun s17 => if (4 : Int32) < (s17.1 t 10) then if (9 : Int32) < (s17.1 t 10) then if (13 : Int32) < (s17.1 t 10) then bI (qev en d 64 [.ref t] s17) (fun w21 s22 => L_X3_take_183 en d t a1 w21 s22) else bI (qev en d 62 [.ref t, .int a1, .int z8] s17) (fun w24 s25 => L_X3_take_183 en d t a1 w24 s25) else bI (qev en d 58 [.ref t, .int a1, .int z8, .int a2] s17) (fun w27 s28 => L_X3_take_183 en d t a1 w27 s28) else bI (qev en d 55 [.ref t, .int a1, .int z8, .int a2] s17) (fun w30 s31 => L_X3_take_183 en d t a1 w30 s31))))) else nm (uI s11 t 10 (19 : Int32)) (fun s33 => bV (qev en d 61 [.ref t, .int a1, .int z8] s33) (fun s35 => some (none, s35))))))))))))) else nm (uI s1 t 9 (-2 : Int32)) (fun s37 => nm (uI s37 t 10 (20 : Int32)) (fun s38 => bV (qev en d 68 [.ref t, .int a1] s38) (fun s40 => some (none, s40))))))) (qev en (d + 1) 52 [.ref t, .int a1, .int a2] s) := by
  refine e_enter ix_X3_take (Nat.le_of_ble_eq_true rfl) ?_
  show qle _ (qE (qev en d) en none tb_X3_take (0, [(0, .ref t), (1, .int a1), (2, .int a2)], []) s)
  refine qle_gd fun ht => ?_
  refine e_L 2 (f' := (2, [(0, .ref t), (1, .int a1), (2, .int a2)], [.int (0 : Int32), .ref t])) rfl ?_
  refine e_pI 3 11 rfl rfl ht rfl ?_
  refine e_nS fun s1 => ?_
  refine e_L 2 (f' := (8, [(0, .ref t), (1, .int a1), (2, .int a2)], [.int (9 : Int32), .int a2])) rfl ?_
  refine e_icmp 29 rfl rfl rfl (fun c2 => ?_) (fun c2 => ?_)
  · refine e_L 2 (f' := (31, [(0, .ref t), (1, .int a1), (2, .int a2)], [.ref t, .ref t])) rfl ?_
    refine e_gR (q := (t + 1)) 3 0 rfl rfl ht (fo_3_0 ht) ?_
    refine e_L 3 (f' := (37, [(0, .ref t), (1, .int a1), (2, .int a2)], [.int ((4 : Int32) + a1), .ref (t + 1), .ref t])) rfl ?_
    refine qle_gd fun h3 => ?_
    refine e_ial (n := 236) (k := ((4 : Int32) + a1).toNatClampNeg) rfl (fc_3_0 ht) (fl_3_0 ht) h3 rfl ?_
    refine e_pI 3 9 rfl rfl ht rfl ?_
    refine e_nS fun s4 => ?_
    refine e_L 1 (f' := (42, [(0, .ref t), (1, .int a1), (2, .int a2)], [.ref t])) rfl ?_
    refine qle_gd fun h5 => ?_
    refine e_gM 3 7 rfl rfl ht h5.1 ?_
    refine e_nR (ci := 5) h5.2 fun q6 h_q6 => ?_
    refine e_gR (q := (q6 + 6)) 5 6 rfl rfl h_q6 (fo_5_6 h_q6) ?_
    refine e_L 1 (f' := (49, [(0, .ref t), (1, .int a1), (2, .int a2)], [.int (2 : Int32), .ref (q6 + 6)])) rfl ?_
    refine e_aal (n := 18) (q := (q6 + 9)) rfl (fc_5_6 h_q6) (fl_5_6 h_q6) (by decide +kernel) (pe_2 h_q6) ?_
    refine e_L 1 (f' := (51, [(0, .ref t), (1, .int a1), (2, .int a2)], [.ref t, .ref (q6 + 9)])) rfl ?_
    refine e_gI 3 9 rfl rfl ht ?_
    refine qle_gd fun h7 => ?_
    refine e_ial (n := 100) (k := (s4.1 t 9).toNatClampNeg) rfl (pe_c_2 h_q6) (pe_l_2 h_q6) h7 rfl ?_
    refine e_nI fun z8 => ?_
    refine e_L 3 (f' := (58, [(3, .int z8), (0, .ref t), (1, .int a1), (2, .int a2)], [.ref t, .ref t])) rfl ?_
    refine qle_gd fun h9 => ?_
    refine e_gM 3 7 rfl rfl ht h9.1 ?_
    refine e_nR (ci := 5) h9.2 fun q10 h_q10 => ?_
    refine e_gR (q := (q10 + 6)) 5 6 rfl rfl h_q10 (fo_5_6 h_q10) ?_
    refine e_L 1 (f' := (66, [(3, .int z8), (0, .ref t), (1, .int a1), (2, .int a2)], [.int (16 : Int32), .ref (q10 + 6), .ref t])) rfl ?_
    refine e_aal (n := 18) (q := (q10 + 23)) rfl (fc_5_6 h_q10) (fl_5_6 h_q10) (by decide +kernel) (pe_16 h_q10) ?_
    refine e_L 1 (f' := (68, [(3, .int z8), (0, .ref t), (1, .int a1), (2, .int a2)], [.ref t, .ref (q10 + 23), .ref t])) rfl ?_
    refine e_gI 3 9 rfl rfl ht ?_
    refine e_ial (n := 100) (k := (s4.1 t 9).toNatClampNeg) rfl (pe_c_16 h_q10) (pe_l_16 h_q10) h7 rfl ?_
    refine e_pI 3 12 rfl rfl ht rfl ?_
    refine e_nS fun s11 => ?_
    refine e_L 1 (f' := (76, [(3, .int z8), (0, .ref t), (1, .int a1), (2, .int a2)], [.ref t])) rfl ?_
    refine e_gR (q := (t + 1)) 3 0 rfl rfl ht (fo_3_0 ht) ?_
    refine e_L 3 (f' := (82, [(3, .int z8), (0, .ref t), (1, .int a1), (2, .int a2)], [.int ((0 : Int32) + a1), .ref (t + 1)])) rfl ?_
    refine qle_gd fun h12 => ?_
    refine e_ial (n := 236) (k := ((0 : Int32) + a1).toNatClampNeg) rfl (fc_3_0 ht) (fl_3_0 ht) h12 rfl ?_
    refine e_L 1 (f' := (84, [(3, .int z8), (0, .ref t), (1, .int a1), (2, .int a2)], [.int (3 : Int32), .int (s11.1 (t + 1) ((0 : Int32) + a1).toNatClampNeg)])) rfl ?_
    refine e_icmp 100 rfl rfl rfl (fun c13 => ?_) (fun c13 => ?_)
    · refine e_L 2 (f' := (102, [(3, .int z8), (0, .ref t), (1, .int a1), (2, .int a2)], [.ref t, .ref t])) rfl ?_
      refine qle_gd fun h14 => ?_
      refine e_gM 3 7 rfl rfl ht h14.1 ?_
      refine e_nR (ci := 5) h14.2 fun q15 h_q15 => ?_
      refine e_gR (q := (q15 + 6)) 5 6 rfl rfl h_q15 (fo_5_6 h_q15) ?_
      refine e_L 1 (f' := (109, [(3, .int z8), (0, .ref t), (1, .int a1), (2, .int a2)], [.int (0 : Int32), .ref (q15 + 6), .ref t])) rfl ?_
      refine e_aal (n := 18) (q := (q15 + 7)) rfl (fc_5_6 h_q15) (fl_5_6 h_q15) (by decide +kernel) (pe_0 h_q15) ?_
      refine e_L 1 (f' := (111, [(3, .int z8), (0, .ref t), (1, .int a1), (2, .int a2)], [.ref t, .ref (q15 + 7), .ref t])) rfl ?_
      refine e_gI 3 9 rfl rfl ht ?_
      refine qle_gd fun h16 => ?_
      refine e_ial (n := 100) (k := (s11.1 t 9).toNatClampNeg) rfl (pe_c_0 h_q15) (pe_l_0 h_q15) h16 rfl ?_
      refine e_pI 3 10 rfl rfl ht rfl ?_
      refine e_nS fun s17 => ?_
      refine e_L 1 (f' := (119, [(3, .int z8), (0, .ref t), (1, .int a1), (2, .int a2)], [.ref t])) rfl ?_
      refine e_gI 3 10 rfl rfl ht ?_
      refine e_L 1 (f' := (123, [(3, .int z8), (0, .ref t), (1, .int a1), (2, .int a2)], [.int (4 : Int32), .int (s17.1 t 10)])) rfl ?_
      refine e_icmp 138 rfl rfl rfl (fun c18 => ?_) (fun c18 => ?_)
      · refine e_L 1 (f' := (139, [(3, .int z8), (0, .ref t), (1, .int a1), (2, .int a2)], [.ref t])) rfl ?_
        refine e_gI 3 10 rfl rfl ht ?_
        refine e_L 1 (f' := (144, [(3, .int z8), (0, .ref t), (1, .int a1), (2, .int a2)], [.int (9 : Int32), .int (s17.1 t 10)])) rfl ?_
        refine e_icmp 159 rfl rfl rfl (fun c19 => ?_) (fun c19 => ?_)
        · refine e_L 1 (f' := (160, [(3, .int z8), (0, .ref t), (1, .int a1), (2, .int a2)], [.ref t])) rfl ?_
          refine e_gI 3 10 rfl rfl ht ?_
          refine e_L 1 (f' := (165, [(3, .int z8), (0, .ref t), (1, .int a1), (2, .int a2)], [.int (13 : Int32), .int (s17.1 t 10)])) rfl ?_
          refine e_icmp 177 rfl rfl rfl (fun c20 => ?_) (fun c20 => ?_)
          · refine e_L 1 (f' := (178, [(3, .int z8), (0, .ref t), (1, .int a1), (2, .int a2)], [.ref t])) rfl ?_
            refine e_vI 64 rfl rfl ix_X3_tell rfl (q_recvOf ht rfl) (Nat.le_of_ble_eq_true rfl) (fun w21 s22 e23 => ?_)
            refine e_L 1 (f' := (183, [(4, .int w21), (3, .int z8), (0, .ref t), (1, .int a1), (2, .int a2)], [])) rfl ?_
            exact qE_sub (qsubL [2, 3, 0] rfl (ks := [4, 3, 0, 1, 2]) rfl (by decide))
          · refine e_L 3 (f' := (171, [(3, .int z8), (0, .ref t), (1, .int a1), (2, .int a2)], [.int z8, .int a1, .ref t])) rfl ?_
            refine e_vI 62 rfl rfl ix_X3_meet rfl (q_recvOf ht rfl) (Nat.le_of_ble_eq_true rfl) (fun w24 s25 e26 => ?_)
            refine e_L 2 (f' := (183, [(4, .int w24), (3, .int z8), (0, .ref t), (1, .int a1), (2, .int a2)], [])) rfl ?_
            exact qE_sub (qsubL [2, 3, 0] rfl (ks := [4, 3, 0, 1, 2]) rfl (by decide))
        · refine e_L 4 (f' := (151, [(3, .int z8), (0, .ref t), (1, .int a1), (2, .int a2)], [.int a2, .int z8, .int a1, .ref t])) rfl ?_
          refine e_vI 58 rfl rfl ix_X3_useLock rfl (q_recvOf ht rfl) (Nat.le_of_ble_eq_true rfl) (fun w27 s28 e29 => ?_)
          refine e_L 2 (f' := (183, [(4, .int w27), (3, .int z8), (0, .ref t), (1, .int a1), (2, .int a2)], [])) rfl ?_
          exact qE_sub (qsubL [2, 3, 0] rfl (ks := [4, 3, 0, 1, 2]) rfl (by decide))
      · refine e_L 4 (f' := (130, [(3, .int z8), (0, .ref t), (1, .int a1), (2, .int a2)], [.int a2, .int z8, .int a1, .ref t])) rfl ?_
        refine e_vI 55 rfl rfl ix_X3_touch rfl (q_recvOf ht rfl) (Nat.le_of_ble_eq_true rfl) (fun w30 s31 e32 => ?_)
        refine e_L 2 (f' := (183, [(4, .int w30), (3, .int z8), (0, .ref t), (1, .int a1), (2, .int a2)], [])) rfl ?_
        exact qE_sub (qsubL [2, 3, 0] rfl (ks := [4, 3, 0, 1, 2]) rfl (by decide))
    · refine e_L 2 (f' := (90, [(3, .int z8), (0, .ref t), (1, .int a1), (2, .int a2)], [.int (19 : Int32), .ref t])) rfl ?_
      refine e_pI 3 10 rfl rfl ht rfl ?_
      refine e_nS fun s33 => ?_
      refine e_L 3 (f' := (96, [(3, .int z8), (0, .ref t), (1, .int a1), (2, .int a2)], [.int z8, .int a1, .ref t])) rfl ?_
      refine e_vV 61 rfl rfl ix_X3_takeBack rfl (q_recvOf ht rfl) (Nat.le_of_ble_eq_true rfl) (fun s35 e36 => ?_)
      exact e_rV rfl rfl
  · refine e_L 2 (f' := (14, [(0, .ref t), (1, .int a1), (2, .int a2)], [.int (-2 : Int32), .ref t])) rfl ?_
    refine e_pI 3 9 rfl rfl ht rfl ?_
    refine e_nS fun s37 => ?_
    refine e_L 2 (f' := (20, [(0, .ref t), (1, .int a1), (2, .int a2)], [.int (20 : Int32), .ref t])) rfl ?_
    refine e_pI 3 10 rfl rfl ht rfl ?_
    refine e_nS fun s38 => ?_
    refine e_L 2 (f' := (25, [(0, .ref t), (1, .int a1), (2, .int a2)], [.int a1, .ref t])) rfl ?_
    refine e_vV 68 rfl rfl ix_X3_flush rfl (q_recvOf ht rfl) (Nat.le_of_ble_eq_true rfl) (fun s40 e41 => ?_)
    exact e_rV rfl rfl
set_option maxRecDepth 100000 in
set_option maxHeartbeats 4000000 in
theorem le_X3_workOut (en : pN) (d : Nat) (t : Nat) (a1 : Int32) (s : qS) : qle (gd (lc t = 3) (gd (s.2.2 t 7 ≠ 0 ∧ lc (s.2.2 t 7 - 1) = 5) (nm (s.2.2 t 7 - 1) (fun q2 => gd (s.2.2 t 7 ≠ 0 ∧ lc (s.2.2 t 7 - 1) = 5) (nm (s.2.2 t 7 - 1) (fun q4 => gd (p_inB a1 18 = true) (gd (p_inB (s.1 t 9) 100 = true) (gd (s.2.2 t 7 ≠ 0 ∧ lc (s.2.2 t 7 - 1) = 5) (nm (s.2.2 t 7 - 1) (fun q8 => gd (p_inB (a1 + (1 : Int32)) 18 = true) (bI (qev en d 78 [.ref 7, .int (s.1 (q4 + 7 + a1.toNatClampNeg) (s.1 t 9).toNatClampNeg), .int (s.1 (q8 + 7 + (a1 + (1 : Int32)).toNatClampNeg) (s.1 t 9).toNatClampNeg), .ref (t + 1)] s) (fun w10 s11 => some (some (.int w10), s11))))))))))))) (qev en (d + 1) 53 [.ref t, .int a1] s) := by
  refine e_enter ix_X3_workOut (Nat.le_of_ble_eq_true rfl) ?_
  show qle _ (qE (qev en d) en (some .int) tb_X3_workOut (0, [(0, .ref t), (1, .int a1)], []) s)
  refine qle_gd fun ht => ?_
  refine e_L 1 (f' := (1, [(0, .ref t), (1, .int a1)], [.ref t])) rfl ?_
  refine qle_gd fun h1 => ?_
  refine e_gM 3 7 rfl rfl ht h1.1 ?_
  refine e_nR (ci := 5) h1.2 fun q2 h_q2 => ?_
  refine e_gR (q := 7) 5 0 rfl rfl h_q2 (fo_5_0 h_q2) ?_
  refine e_L 1 (f' := (8, [(0, .ref t), (1, .int a1)], [.ref t, .ref 7])) rfl ?_
  refine qle_gd fun h3 => ?_
  refine e_gM 3 7 rfl rfl ht h3.1 ?_
  refine e_nR (ci := 5) h3.2 fun q4 h_q4 => ?_
  refine e_gR (q := (q4 + 6)) 5 6 rfl rfl h_q4 (fo_5_6 h_q4) ?_
  refine e_L 1 (f' := (15, [(0, .ref t), (1, .int a1)], [.int a1, .ref (q4 + 6), .ref 7])) rfl ?_
  refine qle_gd fun h5 => ?_
  refine e_aal (n := 18) (q := (q4 + 7 + a1.toNatClampNeg)) rfl (fc_5_6 h_q4) (fl_5_6 h_q4) h5 (pes h_q4 _) ?_
  refine e_L 1 (f' := (17, [(0, .ref t), (1, .int a1)], [.ref t, .ref (q4 + 7 + a1.toNatClampNeg), .ref 7])) rfl ?_
  refine e_gI 3 9 rfl rfl ht ?_
  refine qle_gd fun h6 => ?_
  refine e_ial (n := 100) (k := (s.1 t 9).toNatClampNeg) rfl (pes_c h_q4 h5) (pes_l h_q4 h5) h6 rfl ?_
  refine e_L 1 (f' := (22, [(0, .ref t), (1, .int a1)], [.ref t, .int (s.1 (q4 + 7 + a1.toNatClampNeg) (s.1 t 9).toNatClampNeg), .ref 7])) rfl ?_
  refine qle_gd fun h7 => ?_
  refine e_gM 3 7 rfl rfl ht h7.1 ?_
  refine e_nR (ci := 5) h7.2 fun q8 h_q8 => ?_
  refine e_gR (q := (q8 + 6)) 5 6 rfl rfl h_q8 (fo_5_6 h_q8) ?_
  refine e_L 3 (f' := (31, [(0, .ref t), (1, .int a1)], [.int (a1 + (1 : Int32)), .ref (q8 + 6), .int (s.1 (q4 + 7 + a1.toNatClampNeg) (s.1 t 9).toNatClampNeg), .ref 7])) rfl ?_
  refine qle_gd fun h9 => ?_
  refine e_aal (n := 18) (q := (q8 + 7 + (a1 + (1 : Int32)).toNatClampNeg)) rfl (fc_5_6 h_q8) (fl_5_6 h_q8) h9 (pes h_q8 _) ?_
  refine e_L 1 (f' := (33, [(0, .ref t), (1, .int a1)], [.ref t, .ref (q8 + 7 + (a1 + (1 : Int32)).toNatClampNeg), .int (s.1 (q4 + 7 + a1.toNatClampNeg) (s.1 t 9).toNatClampNeg), .ref 7])) rfl ?_
  refine e_gI 3 9 rfl rfl ht ?_
  refine e_ial (n := 100) (k := (s.1 t 9).toNatClampNeg) rfl (pes_c h_q8 h9) (pes_l h_q8 h9) h6 rfl ?_
  refine e_L 1 (f' := (38, [(0, .ref t), (1, .int a1)], [.ref t, .int (s.1 (q8 + 7 + (a1 + (1 : Int32)).toNatClampNeg) (s.1 t 9).toNatClampNeg), .int (s.1 (q4 + 7 + a1.toNatClampNeg) (s.1 t 9).toNatClampNeg), .ref 7])) rfl ?_
  refine e_gR (q := (t + 1)) 3 0 rfl rfl ht (fo_3_0 ht) ?_
  refine e_vI 78 rfl rfl ix_X4_workOut rfl (q_recvOf lc_7 rfl) (Nat.le_of_ble_eq_true rfl) (fun w10 s11 e12 => ?_)
  exact e_rI rfl rfl
set_option maxRecDepth 100000 in
set_option maxHeartbeats 4000000 in
theorem le_X3_setLocal (en : pN) (d : Nat) (t : Nat) (a1 : Int32) (a2 : Int32) (s : qS) : qle (gd (lc t = 3) (gd (s.2.2 t 7 ≠ 0 ∧ lc (s.2.2 t 7 - 1) = 5) (nm (s.2.2 t 7 - 1) (fun q2 => gd (p_inB (s.1 t 9) 100 = true) (nm (s.1 (q2 + 10) (s.1 t 9).toNatClampNeg) (fun z4 => if z4 < (0 : Int32) then some (none, s) else bI (qev en d 32 [.int a1, .int z4] s) (fun w6 s7 => gd (p_inB w6 236 = true) (nm (uI s7 (t + 1) (w6.toNatClampNeg) a2) (fun s10 => some (none, s10)))))))))) (qev en (d + 1) 54 [.ref t, .int a1, .int a2] s) := by
  refine e_enter ix_X3_setLocal (Nat.le_of_ble_eq_true rfl) ?_
  show qle _ (qE (qev en d) en none tb_X3_setLocal (0, [(0, .ref t), (1, .int a1), (2, .int a2)], []) s)
  refine qle_gd fun ht => ?_
  refine e_L 1 (f' := (1, [(0, .ref t), (1, .int a1), (2, .int a2)], [.ref t])) rfl ?_
  refine qle_gd fun h1 => ?_
  refine e_gM 3 7 rfl rfl ht h1.1 ?_
  refine e_nR (ci := 5) h1.2 fun q2 h_q2 => ?_
  refine e_gR (q := (q2 + 6)) 5 6 rfl rfl h_q2 (fo_5_6 h_q2) ?_
  refine e_L 1 (f' := (8, [(0, .ref t), (1, .int a1), (2, .int a2)], [.int (3 : Int32), .ref (q2 + 6)])) rfl ?_
  refine e_aal (n := 18) (q := (q2 + 10)) rfl (fc_5_6 h_q2) (fl_5_6 h_q2) (by decide +kernel) (pe_3 h_q2) ?_
  refine e_L 1 (f' := (10, [(0, .ref t), (1, .int a1), (2, .int a2)], [.ref t, .ref (q2 + 10)])) rfl ?_
  refine e_gI 3 9 rfl rfl ht ?_
  refine qle_gd fun h3 => ?_
  refine e_ial (n := 100) (k := (s.1 t 9).toNatClampNeg) rfl (pe_c_3 h_q2) (pe_l_3 h_q2) h3 rfl ?_
  refine e_nI fun z4 => ?_
  refine e_L 2 (f' := (16, [(3, .int z4), (0, .ref t), (1, .int a1), (2, .int a2)], [.int z4])) rfl ?_
  refine e_ifz 30 rfl rfl rfl (fun c5 => ?_) (fun c5 => ?_)
  · exact e_rV rfl rfl
  · refine e_L 1 (f' := (20, [(3, .int z4), (0, .ref t), (1, .int a1), (2, .int a2)], [.ref t])) rfl ?_
    refine e_gR (q := (t + 1)) 3 0 rfl rfl ht (fo_3_0 ht) ?_
    refine e_L 2 (f' := (25, [(3, .int z4), (0, .ref t), (1, .int a1), (2, .int a2)], [.int z4, .int a1, .ref (t + 1)])) rfl ?_
    refine e_sI 32 rfl rfl rfl ix_X3_localSlot rfl (Nat.le_of_ble_eq_true rfl) (fun w6 s7 e8 => ?_)
    refine e_L 1 (f' := (29, [(3, .int z4), (0, .ref t), (1, .int a1), (2, .int a2)], [.int a2, .int w6, .ref (t + 1)])) rfl ?_
    refine qle_gd fun h9 => ?_
    refine e_ias (n := 236) (k := w6.toNatClampNeg) rfl (fc_3_0 ht) (fl_3_0 ht) h9 rfl ?_
    refine e_nS fun s10 => ?_
    exact e_rV rfl rfl
noncomputable def L_X3_touch_65 (en : pN) (d : Nat) (r0 : Nat) (v1 : Int32) (v2 : Int32) (v4 : Int32) (v5 : Int32) (vs0 : Int32) (s : qS) : Option qR := qE (qev en d) en (some .int) tb_X3_touch (65, [(0, .ref r0), (1, .int v1), (2, .int v2), (4, .int v4), (5, .int v5)], [.int vs0]) s
noncomputable def L_X3_touch_151 (en : pN) (d : Nat) (r0 : Nat) (v1 : Int32) (v2 : Int32) (v4 : Int32) (s : qS) : Option qR := qE (qev en d) en (some .int) tb_X3_touch (151, [(0, .ref r0), (1, .int v1), (2, .int v2), (4, .int v4)], []) s
set_option maxRecDepth 100000 in
set_option maxHeartbeats 4000000 in
theorem le_X3_touch_65 (en : pN) (d : Nat) (r0 : Nat) (v1 : Int32) (v2 : Int32) (v4 : Int32) (v5 : Int32) (vs0 : Int32) (s : qS) : qle (gd (lc r0 = 3) (if ¬ v5 = (0 : Int32) then some (some (.int (1 : Int32)), s) else gd (s.2.2 r0 7 ≠ 0 ∧ lc (s.2.2 r0 7 - 1) = 5) (nm (s.2.2 r0 7 - 1) (fun q3 => if (s.1 7 4) = (0 : Int32) then swI (s.1 r0 10).toInt 0 [bV (qev en d 54 [.ref r0, .int v1, .int v4] s) (fun s6 => some (some (.int (0 : Int32)), s6)), L_X3_touch_151 en d r0 v1 v2 v4 s, bV (qev en d 67 [.ref r0, .int v1, .int v2, .int v4] s) (fun s9 => some (some (.int (0 : Int32)), s9)), bV (qev en d 56 [.ref r0, .int v1, .int v2, .int v4, .int vs0] s) (fun s12 => some (some (.int (0 : Int32)), s12))] (L_X3_touch_151 en d r0 v1 v2 v4 s) else some (some (.int (1 : Int32)), s))))) (L_X3_touch_65 en d r0 v1 v2 v4 v5 vs0 s) := by
  show qle _ (qE (qev en d) en (some .int) tb_X3_touch (65, [(0, .ref r0), (1, .int v1), (2, .int v2), (4, .int v4), (5, .int v5)], [.int vs0]) s)
  refine qle_gd fun h_r0 => ?_
  refine e_L 2 (f' := (69, [(6, .int vs0), (0, .ref r0), (1, .int v1), (2, .int v2), (4, .int v4), (5, .int v5)], [.int v5])) rfl ?_
  refine e_ifz 85 rfl rfl rfl (fun c1 => ?_) (fun c1 => ?_)
  · refine e_L 1 (f' := (86, [(6, .int vs0), (0, .ref r0), (1, .int v1), (2, .int v2), (4, .int v4), (5, .int v5)], [.int (1 : Int32)])) rfl ?_
    exact e_rI rfl rfl
  · refine e_L 1 (f' := (73, [(6, .int vs0), (0, .ref r0), (1, .int v1), (2, .int v2), (4, .int v4), (5, .int v5)], [.ref r0])) rfl ?_
    refine qle_gd fun h2 => ?_
    refine e_gM 3 7 rfl rfl h_r0 h2.1 ?_
    refine e_nR (ci := 5) h2.2 fun q3 h_q3 => ?_
    refine e_gR (q := 7) 5 0 rfl rfl h_q3 (fo_5_0 h_q3) ?_
    refine e_gI 4 4 rfl rfl lc_7 ?_
    refine e_ifz 87 rfl rfl rfl (fun c4 => ?_) (fun c4 => ?_)
    · refine e_L 1 (f' := (88, [(6, .int vs0), (0, .ref r0), (1, .int v1), (2, .int v2), (4, .int v4), (5, .int v5)], [.ref r0])) rfl ?_
      refine e_gI 3 10 rfl rfl h_r0 ?_
      refine e_tsw rfl (by decide) ⟨?_, ?_, ?_, ?_, trivial⟩ ?_
      · refine e_L 3 (f' := (124, [(6, .int vs0), (0, .ref r0), (1, .int v1), (2, .int v2), (4, .int v4), (5, .int v5)], [.int v4, .int v1, .ref r0])) rfl ?_
        refine e_vV 54 rfl rfl ix_X3_setLocal rfl (q_recvOf h_r0 rfl) (Nat.le_of_ble_eq_true rfl) (fun s6 e7 => ?_)
        refine e_L 1 (f' := (128, [(6, .int vs0), (0, .ref r0), (1, .int v1), (2, .int v2), (4, .int v4), (5, .int v5)], [.int (0 : Int32)])) rfl ?_
        exact e_rI rfl rfl
      · exact qE_sub (qsubL [1, 2, 3, 4] rfl (ks := [6, 0, 1, 2, 4, 5]) rfl (by decide))
      · refine e_L 4 (f' := (134, [(6, .int vs0), (0, .ref r0), (1, .int v1), (2, .int v2), (4, .int v4), (5, .int v5)], [.int v4, .int v2, .int v1, .ref r0])) rfl ?_
        refine e_vV 67 rfl rfl ix_X3_store rfl (q_recvOf h_r0 rfl) (Nat.le_of_ble_eq_true rfl) (fun s9 e10 => ?_)
        refine e_L 1 (f' := (138, [(6, .int vs0), (0, .ref r0), (1, .int v1), (2, .int v2), (4, .int v4), (5, .int v5)], [.int (0 : Int32)])) rfl ?_
        exact e_rI rfl rfl
      · refine e_L 5 (f' := (146, [(6, .int vs0), (0, .ref r0), (1, .int v1), (2, .int v2), (4, .int v4), (5, .int v5)], [.int vs0, .int v4, .int v2, .int v1, .ref r0])) rfl ?_
        refine e_vV 56 rfl rfl ix_X3_swapIf rfl (q_recvOf h_r0 rfl) (Nat.le_of_ble_eq_true rfl) (fun s12 e13 => ?_)
        refine e_L 1 (f' := (150, [(6, .int vs0), (0, .ref r0), (1, .int v1), (2, .int v2), (4, .int v4), (5, .int v5)], [.int (0 : Int32)])) rfl ?_
        exact e_rI rfl rfl
      · exact qE_sub (qsubL [1, 2, 3, 4] rfl (ks := [6, 0, 1, 2, 4, 5]) rfl (by decide))
    · refine e_L 1 (f' := (86, [(6, .int vs0), (0, .ref r0), (1, .int v1), (2, .int v2), (4, .int v4), (5, .int v5)], [.int (1 : Int32)])) rfl ?_
      exact e_rI rfl rfl
set_option maxRecDepth 100000 in
set_option maxHeartbeats 4000000 in
theorem le_X3_touch_151 (en : pN) (d : Nat) (r0 : Nat) (v1 : Int32) (v2 : Int32) (v4 : Int32) (s : qS) : qle (gd (lc r0 = 3) (bI (qev en d 57 [.ref r0, .int v1, .int v2, .int v4] s) (fun w1 s2 => some (some (.int w1), s2)))) (L_X3_touch_151 en d r0 v1 v2 v4 s) := by
  show qle _ (qE (qev en d) en (some .int) tb_X3_touch (151, [(0, .ref r0), (1, .int v1), (2, .int v2), (4, .int v4)], []) s)
  refine qle_gd fun h_r0 => ?_
  refine e_L 4 (f' := (156, [(0, .ref r0), (1, .int v1), (2, .int v2), (4, .int v4)], [.int v4, .int v2, .int v1, .ref r0])) rfl ?_
  refine e_vI 57 rfl rfl ix_X3_addTo rfl (q_recvOf h_r0 rfl) (Nat.le_of_ble_eq_true rfl) (fun w1 s2 e3 => ?_)
  exact e_rI rfl rfl
set_option maxRecDepth 100000 in
set_option maxHeartbeats 4000000 in
theorem le_X3_touch (en : pN) (d : Nat) (t : Nat) (a1 : Int32) (a2 : Int32) (a3 : Int32) (s : qS) : qle (gd (lc t = 3) (if ¬ (s.1 t 10) = (1 : Int32) then bI (qev en d 53 [.ref t, .int (5 : Int32)] s) (fun w2 s3 => gd (s3.2.2 t 7 ≠ 0 ∧ lc (s3.2.2 t 7 - 1) = 5) (nm (s3.2.2 t 7 - 1) (fun q6 => if ¬ (s3.1 t 10) = (3 : Int32) then L_X3_touch_65 en d t a1 a2 w2 (s3.1 7 4) (0 : Int32) s3 else bI (qev en d 53 [.ref t, .int (7 : Int32)] s3) (fun w8 s9 => L_X3_touch_65 en d t a1 a2 w2 (s3.1 7 4) w8 s9)))) else bI (qev en d 66 [.ref t, .int a1, .int a3] s) (fun w11 s12 => bV (qev en d 54 [.ref t, .int a1, .int w11] s12) (fun s15 => bV (qev en d 72 [.ref t, .int a1, .int a2, .int a3] s15) (fun s18 => some (some (.int (0 : Int32)), s18)))))) (qev en (d + 1) 55 [.ref t, .int a1, .int a2, .int a3] s) := by
  refine e_enter ix_X3_touch (Nat.le_of_ble_eq_true rfl) ?_
  show qle _ (qE (qev en d) en (some .int) tb_X3_touch (0, [(0, .ref t), (1, .int a1), (2, .int a2), (3, .int a3)], []) s)
  refine qle_gd fun ht => ?_
  refine e_L 1 (f' := (1, [(0, .ref t), (1, .int a1), (2, .int a2), (3, .int a3)], [.ref t])) rfl ?_
  refine e_gI 3 10 rfl rfl ht ?_
  refine e_L 1 (f' := (5, [(0, .ref t), (1, .int a1), (2, .int a2), (3, .int a3)], [.int (1 : Int32), .int (s.1 t 10)])) rfl ?_
  refine e_icmp 28 rfl rfl rfl (fun c1 => ?_) (fun c1 => ?_)
  · refine e_L 2 (f' := (30, [(0, .ref t), (1, .int a1), (2, .int a2), (3, .int a3)], [.int (5 : Int32), .ref t])) rfl ?_
    refine e_vI 53 rfl rfl ix_X3_workOut rfl (q_recvOf ht rfl) (Nat.le_of_ble_eq_true rfl) (fun w2 s3 e4 => ?_)
    refine e_L 2 (f' := (36, [(4, .int w2), (0, .ref t), (1, .int a1), (2, .int a2), (3, .int a3)], [.ref t])) rfl ?_
    refine qle_gd fun h5 => ?_
    refine e_gM 3 7 rfl rfl ht h5.1 ?_
    refine e_nR (ci := 5) h5.2 fun q6 h_q6 => ?_
    refine e_gR (q := 7) 5 0 rfl rfl h_q6 (fo_5_0 h_q6) ?_
    refine e_gI 4 4 rfl rfl lc_7 ?_
    refine e_L 2 (f' := (48, [(5, .int (s3.1 7 4)), (4, .int w2), (0, .ref t), (1, .int a1), (2, .int a2), (3, .int a3)], [.ref t])) rfl ?_
    refine e_gI 3 10 rfl rfl ht ?_
    refine e_L 1 (f' := (52, [(5, .int (s3.1 7 4)), (4, .int w2), (0, .ref t), (1, .int a1), (2, .int a2), (3, .int a3)], [.int (3 : Int32), .int (s3.1 t 10)])) rfl ?_
    refine e_icmp 64 rfl rfl rfl (fun c7 => ?_) (fun c7 => ?_)
    · refine e_L 1 (f' := (65, [(5, .int (s3.1 7 4)), (4, .int w2), (0, .ref t), (1, .int a1), (2, .int a2), (3, .int a3)], [.int (0 : Int32)])) rfl ?_
      exact qE_sub (qsubL [2, 3, 4, 1, 0] rfl (ks := [5, 4, 0, 1, 2, 3]) rfl (by decide))
    · refine e_L 2 (f' := (58, [(5, .int (s3.1 7 4)), (4, .int w2), (0, .ref t), (1, .int a1), (2, .int a2), (3, .int a3)], [.int (7 : Int32), .ref t])) rfl ?_
      refine e_vI 53 rfl rfl ix_X3_workOut rfl (q_recvOf ht rfl) (Nat.le_of_ble_eq_true rfl) (fun w8 s9 e10 => ?_)
      refine e_L 1 (f' := (65, [(5, .int (s3.1 7 4)), (4, .int w2), (0, .ref t), (1, .int a1), (2, .int a2), (3, .int a3)], [.int w8])) rfl ?_
      exact qE_sub (qsubL [2, 3, 4, 1, 0] rfl (ks := [5, 4, 0, 1, 2, 3]) rfl (by decide))
  · refine e_L 5 (f' := (13, [(0, .ref t), (1, .int a1), (2, .int a2), (3, .int a3)], [.int a3, .int a1, .ref t, .int a1, .ref t])) rfl ?_
    refine e_vI 66 rfl rfl ix_X3_loadable rfl (q_recvOf ht rfl) (Nat.le_of_ble_eq_true rfl) (fun w11 s12 e13 => ?_)
    refine e_vV 54 rfl rfl ix_X3_setLocal rfl (q_recvOf ht rfl) (Nat.le_of_ble_eq_true rfl) (fun s15 e16 => ?_)
    refine e_L 4 (f' := (23, [(0, .ref t), (1, .int a1), (2, .int a2), (3, .int a3)], [.int a3, .int a2, .int a1, .ref t])) rfl ?_
    refine e_vV 72 rfl rfl ix_X3_look rfl (q_recvOf ht rfl) (Nat.le_of_ble_eq_true rfl) (fun s18 e19 => ?_)
    refine e_L 1 (f' := (27, [(0, .ref t), (1, .int a1), (2, .int a2), (3, .int a3)], [.int (0 : Int32)])) rfl ?_
    exact e_rI rfl rfl
noncomputable def L_X3_swapIf_18 (en : pN) (d : Nat) (r0 : Nat) (v1 : Int32) (v2 : Int32) (v4 : Int32) (vs0 : Int32) (s : qS) : Option qR := qE (qev en d) en none tb_X3_swapIf (18, [(0, .ref r0), (1, .int v1), (2, .int v2), (4, .int v4)], [.int vs0]) s
noncomputable def L_X3_swapIf_40 (en : pN) (d : Nat) (r0 : Nat) (v1 : Int32) (v5 : Int32) (s : qS) : Option qR := qE (qev en d) en none tb_X3_swapIf (40, [(0, .ref r0), (1, .int v1), (5, .int v5)], []) s
noncomputable def L_X3_swapIf_52 (en : pN) (d : Nat) (rs0 : Nat) (vs1 : Int32) (vs2 : Int32) (s : qS) : Option qR := qE (qev en d) en none tb_X3_swapIf (52, [], [.int vs2, .int vs1, .ref rs0]) s
set_option maxRecDepth 100000 in
set_option maxHeartbeats 4000000 in
theorem le_X3_swapIf_18 (en : pN) (d : Nat) (r0 : Nat) (v1 : Int32) (v2 : Int32) (v4 : Int32) (vs0 : Int32) (s : qS) : qle (gd (lc r0 = 3) (bV (qev en d 73 [.ref r0, .int v1, .int v2] s) (fun s2 => if vs0 = (0 : Int32) then L_X3_swapIf_40 en d r0 v1 vs0 s2 else bV (qev en d 69 [.ref r0, .int v1, .int v2, .int v4, .int (1 : Int32)] s2) (fun s6 => L_X3_swapIf_40 en d r0 v1 vs0 s6)))) (L_X3_swapIf_18 en d r0 v1 v2 v4 vs0 s) := by
  show qle _ (qE (qev en d) en none tb_X3_swapIf (18, [(0, .ref r0), (1, .int v1), (2, .int v2), (4, .int v4)], [.int vs0]) s)
  refine qle_gd fun h_r0 => ?_
  refine e_L 4 (f' := (23, [(5, .int vs0), (0, .ref r0), (1, .int v1), (2, .int v2), (4, .int v4)], [.int v2, .int v1, .ref r0])) rfl ?_
  refine e_vV 73 rfl rfl ix_X3_lookAtLast rfl (q_recvOf h_r0 rfl) (Nat.le_of_ble_eq_true rfl) (fun s2 e3 => ?_)
  refine e_L 1 (f' := (28, [(5, .int vs0), (0, .ref r0), (1, .int v1), (2, .int v2), (4, .int v4)], [.int vs0])) rfl ?_
  refine e_ifz 40 rfl rfl rfl (fun c4 => ?_) (fun c4 => ?_)
  · exact qE_sub (qsubL [1, 2, 0] rfl (ks := [5, 0, 1, 2, 4]) rfl (by decide))
  · refine e_L 5 (f' := (37, [(5, .int vs0), (0, .ref r0), (1, .int v1), (2, .int v2), (4, .int v4)], [.int (1 : Int32), .int v4, .int v2, .int v1, .ref r0])) rfl ?_
    refine e_vV 69 rfl rfl ix_X3_write rfl (q_recvOf h_r0 rfl) (Nat.le_of_ble_eq_true rfl) (fun s6 e7 => ?_)
    exact qE_sub (qsubL [1, 2, 0] rfl (ks := [5, 0, 1, 2, 4]) rfl (by decide))
set_option maxRecDepth 100000 in
set_option maxHeartbeats 4000000 in
theorem le_X3_swapIf_40 (en : pN) (d : Nat) (r0 : Nat) (v1 : Int32) (v5 : Int32) (s : qS) : qle (gd (lc r0 = 3) (if v5 = (0 : Int32) then L_X3_swapIf_52 en d r0 v1 (0 : Int32) s else L_X3_swapIf_52 en d r0 v1 (1 : Int32) s)) (L_X3_swapIf_40 en d r0 v1 v5 s) := by
  show qle _ (qE (qev en d) en none tb_X3_swapIf (40, [(0, .ref r0), (1, .int v1), (5, .int v5)], []) s)
  refine qle_gd fun h_r0 => ?_
  refine e_L 3 (f' := (44, [(0, .ref r0), (1, .int v1), (5, .int v5)], [.int v5, .int v1, .ref r0])) rfl ?_
  refine e_ifz 51 rfl rfl rfl (fun c1 => ?_) (fun c1 => ?_)
  · refine e_L 1 (f' := (52, [(0, .ref r0), (1, .int v1), (5, .int v5)], [.int (0 : Int32), .int v1, .ref r0])) rfl ?_
    exact qE_sub (qsubL [] rfl (ks := [0, 1, 5]) rfl (by decide))
  · refine e_L 2 (f' := (52, [(0, .ref r0), (1, .int v1), (5, .int v5)], [.int (1 : Int32), .int v1, .ref r0])) rfl ?_
    exact qE_sub (qsubL [] rfl (ks := [0, 1, 5]) rfl (by decide))
set_option maxRecDepth 100000 in
set_option maxHeartbeats 4000000 in
theorem le_X3_swapIf_52 (en : pN) (d : Nat) (rs0 : Nat) (vs1 : Int32) (vs2 : Int32) (s : qS) : qle (gd (lc rs0 = 3) (bV (qev en d 54 [.ref rs0, .int vs1, .int vs2] s) (fun s2 => some (none, s2)))) (L_X3_swapIf_52 en d rs0 vs1 vs2 s) := by
  show qle _ (qE (qev en d) en none tb_X3_swapIf (52, [], [.int vs2, .int vs1, .ref rs0]) s)
  refine qle_gd fun h_rs0 => ?_
  refine e_vV 54 rfl rfl ix_X3_setLocal rfl (q_recvOf h_rs0 rfl) (Nat.le_of_ble_eq_true rfl) (fun s2 e3 => ?_)
  exact e_rV rfl rfl
set_option maxRecDepth 100000 in
set_option maxHeartbeats 4000000 in
theorem le_X3_swapIf (en : pN) (d : Nat) (t : Nat) (a1 : Int32) (a2 : Int32) (a3 : Int32) (a4 : Int32) (s : qS) : qle (gd (lc t = 3) (gd (p_inB ((48 : Int32) + a2) 236 = true) (if ¬ (s.1 (t + 1) ((48 : Int32) + a2).toNatClampNeg) = a3 then L_X3_swapIf_18 en d t a1 a2 a4 (0 : Int32) s else L_X3_swapIf_18 en d t a1 a2 a4 (1 : Int32) s))) (qev en (d + 1) 56 [.ref t, .int a1, .int a2, .int a3, .int a4] s) := by
  refine e_enter ix_X3_swapIf (Nat.le_of_ble_eq_true rfl) ?_
  show qle _ (qE (qev en d) en none tb_X3_swapIf (0, [(0, .ref t), (1, .int a1), (2, .int a2), (3, .int a3), (4, .int a4)], []) s)
  refine qle_gd fun ht => ?_
  refine e_L 1 (f' := (1, [(0, .ref t), (1, .int a1), (2, .int a2), (3, .int a3), (4, .int a4)], [.ref t])) rfl ?_
  refine e_gR (q := (t + 1)) 3 0 rfl rfl ht (fo_3_0 ht) ?_
  refine e_L 3 (f' := (8, [(0, .ref t), (1, .int a1), (2, .int a2), (3, .int a3), (4, .int a4)], [.int ((48 : Int32) + a2), .ref (t + 1)])) rfl ?_
  refine qle_gd fun h1 => ?_
  refine e_ial (n := 236) (k := ((48 : Int32) + a2).toNatClampNeg) rfl (fc_3_0 ht) (fl_3_0 ht) h1 rfl ?_
  refine e_L 1 (f' := (10, [(0, .ref t), (1, .int a1), (2, .int a2), (3, .int a3), (4, .int a4)], [.int a3, .int (s.1 (t + 1) ((48 : Int32) + a2).toNatClampNeg)])) rfl ?_
  refine e_icmp 17 rfl rfl rfl (fun c2 => ?_) (fun c2 => ?_)
  · refine e_L 1 (f' := (18, [(0, .ref t), (1, .int a1), (2, .int a2), (3, .int a3), (4, .int a4)], [.int (0 : Int32)])) rfl ?_
    exact qE_sub (qsubL [0, 1, 2, 4] rfl (ks := [0, 1, 2, 3, 4]) rfl (by decide))
  · refine e_L 2 (f' := (18, [(0, .ref t), (1, .int a1), (2, .int a2), (3, .int a3), (4, .int a4)], [.int (1 : Int32)])) rfl ?_
    exact qE_sub (qsubL [0, 1, 2, 4] rfl (ks := [0, 1, 2, 3, 4]) rfl (by decide))
set_option maxRecDepth 100000 in
set_option maxHeartbeats 4000000 in
theorem le_X3_addTo (en : pN) (d : Nat) (t : Nat) (a1 : Int32) (a2 : Int32) (a3 : Int32) (s : qS) : qle (gd (lc t = 3) (gd (p_inB ((48 : Int32) + a2) 236 = true) (nm (s.1 (t + 1) ((48 : Int32) + a2).toNatClampNeg) (fun z2 => if (999 : Int32) < (z2 + a3) then some (some (.int (1 : Int32)), s) else if (-999 : Int32) ≤ (z2 + a3) then bV (qev en d 73 [.ref t, .int a1, .int a2] s) (fun s6 => bV (qev en d 69 [.ref t, .int a1, .int a2, .int (z2 + a3), .int (1 : Int32)] s6) (fun s9 => bV (qev en d 54 [.ref t, .int a1, .int z2] s9) (fun s12 => some (some (.int (0 : Int32)), s12)))) else some (some (.int (1 : Int32)), s))))) (qev en (d + 1) 57 [.ref t, .int a1, .int a2, .int a3] s) := by
  refine e_enter ix_X3_addTo (Nat.le_of_ble_eq_true rfl) ?_
  show qle _ (qE (qev en d) en (some .int) tb_X3_addTo (0, [(0, .ref t), (1, .int a1), (2, .int a2), (3, .int a3)], []) s)
  refine qle_gd fun ht => ?_
  refine e_L 1 (f' := (1, [(0, .ref t), (1, .int a1), (2, .int a2), (3, .int a3)], [.ref t])) rfl ?_
  refine e_gR (q := (t + 1)) 3 0 rfl rfl ht (fo_3_0 ht) ?_
  refine e_L 3 (f' := (8, [(0, .ref t), (1, .int a1), (2, .int a2), (3, .int a3)], [.int ((48 : Int32) + a2), .ref (t + 1)])) rfl ?_
  refine qle_gd fun h1 => ?_
  refine e_ial (n := 236) (k := ((48 : Int32) + a2).toNatClampNeg) rfl (fc_3_0 ht) (fl_3_0 ht) h1 rfl ?_
  refine e_nI fun z2 => ?_
  refine e_L 5 (f' := (18, [(4, .int z2), (0, .ref t), (1, .int a1), (2, .int a2), (3, .int a3)], [.int (999 : Int32), .int (z2 + a3)])) rfl ?_
  refine e_icmp 31 rfl rfl rfl (fun c3 => ?_) (fun c3 => ?_)
  · refine e_L 1 (f' := (32, [(4, .int z2), (0, .ref t), (1, .int a1), (2, .int a2), (3, .int a3)], [.int (1 : Int32)])) rfl ?_
    exact e_rI rfl rfl
  · refine e_L 4 (f' := (28, [(4, .int z2), (0, .ref t), (1, .int a1), (2, .int a2), (3, .int a3)], [.int (-999 : Int32), .int (z2 + a3)])) rfl ?_
    refine e_icmp 33 rfl rfl rfl (fun c4 => ?_) (fun c4 => ?_)
    · refine e_L 3 (f' := (36, [(4, .int z2), (0, .ref t), (1, .int a1), (2, .int a2), (3, .int a3)], [.int a2, .int a1, .ref t])) rfl ?_
      refine e_vV 73 rfl rfl ix_X3_lookAtLast rfl (q_recvOf ht rfl) (Nat.le_of_ble_eq_true rfl) (fun s6 e7 => ?_)
      refine e_L 7 (f' := (47, [(4, .int z2), (0, .ref t), (1, .int a1), (2, .int a2), (3, .int a3)], [.int (1 : Int32), .int (z2 + a3), .int a2, .int a1, .ref t])) rfl ?_
      refine e_vV 69 rfl rfl ix_X3_write rfl (q_recvOf ht rfl) (Nat.le_of_ble_eq_true rfl) (fun s9 e10 => ?_)
      refine e_L 3 (f' := (54, [(4, .int z2), (0, .ref t), (1, .int a1), (2, .int a2), (3, .int a3)], [.int z2, .int a1, .ref t])) rfl ?_
      refine e_vV 54 rfl rfl ix_X3_setLocal rfl (q_recvOf ht rfl) (Nat.le_of_ble_eq_true rfl) (fun s12 e13 => ?_)
      refine e_L 1 (f' := (58, [(4, .int z2), (0, .ref t), (1, .int a1), (2, .int a2), (3, .int a3)], [.int (0 : Int32)])) rfl ?_
      exact e_rI rfl rfl
    · refine e_L 1 (f' := (32, [(4, .int z2), (0, .ref t), (1, .int a1), (2, .int a2), (3, .int a3)], [.int (1 : Int32)])) rfl ?_
      exact e_rI rfl rfl
noncomputable def L_X3_useLock_181 (en : pN) (d : Nat) (rs0 : Nat) (vs1 : Int32) (vs2 : Int32) (s : qS) : Option qR := qE (qev en d) en (some .int) tb_X3_useLock (181, [], [.int vs2, .int vs1, .ref rs0]) s
set_option maxRecDepth 100000 in
set_option maxHeartbeats 4000000 in
theorem le_X3_useLock_181 (en : pN) (d : Nat) (rs0 : Nat) (vs1 : Int32) (vs2 : Int32) (s : qS) : qle (gd (lc rs0 = 3) (bV (qev en d 60 [.ref rs0, .int vs1, .int vs2] s) (fun s2 => some (some (.int (0 : Int32)), s2)))) (L_X3_useLock_181 en d rs0 vs1 vs2 s) := by
  show qle _ (qE (qev en d) en (some .int) tb_X3_useLock (181, [], [.int vs2, .int vs1, .ref rs0]) s)
  refine qle_gd fun h_rs0 => ?_
  refine e_vV 60 rfl rfl ix_X3_wake rfl (q_recvOf h_rs0 rfl) (Nat.le_of_ble_eq_true rfl) (fun s2 e3 => ?_)
  refine e_L 1 (f' := (185, [], [.int (0 : Int32)])) rfl ?_
  exact e_rI rfl rfl
set_option maxRecDepth 100000 in
set_option maxHeartbeats 4000000 in
theorem le_X3_useLock (en : pN) (d : Nat) (t : Nat) (a1 : Int32) (a2 : Int32) (a3 : Int32) (s : qS) : qle (gd (lc t = 3) (if ¬ (s.1 t 10) = (5 : Int32) then gd (p_inB ((40 : Int32) + a2) 236 = true) (if (s.1 (t + 1) ((40 : Int32) + a2).toNatClampNeg) = a1 then if ¬ (s.1 t 10) = (6 : Int32) then if ¬ (s.1 t 10) = (7 : Int32) then if ¬ (s.1 t 10) = (8 : Int32) then L_X3_useLock_181 en d t a2 (-1 : Int32) s else L_X3_useLock_181 en d t a2 a3 s else gd (p_inB ((44 : Int32) + a2) 236 = true) (gd (p_inB ((12 : Int32) + a1) 236 = true) (nm (uI s (t + 1) (((12 : Int32) + a1).toNatClampNeg) (s.1 (t + 1) ((44 : Int32) + a2).toNatClampNeg)) (fun s9 => nm (uI s9 (t + 1) (((44 : Int32) + a2).toNatClampNeg) (0 : Int32)) (fun s10 => gd (p_inB ((0 : Int32) + a1) 236 = true) (nm (uI s10 (t + 1) (((0 : Int32) + a1).toNatClampNeg) (2 : Int32)) (fun s12 => bV (qev en d 59 [.ref t, .int a1, .int a2] s12) (fun s14 => some (some (.int (0 : Int32)), s14)))))))) else gd (p_inB ((44 : Int32) + a2) 236 = true) (nm (uI s (t + 1) (((44 : Int32) + a2).toNatClampNeg) ((s.1 (t + 1) ((44 : Int32) + a2).toNatClampNeg) - (1 : Int32))) (fun s17 => bV (qev en d 59 [.ref t, .int a1, .int a2] s17) (fun s19 => some (some (.int (0 : Int32)), s19)))) else some (some (.int (2 : Int32)), s)) else gd (p_inB ((44 : Int32) + a2) 236 = true) (if (s.1 (t + 1) ((44 : Int32) + a2).toNatClampNeg) < (9 : Int32) then gd (p_inB ((40 : Int32) + a2) 236 = true) (nm (uI s (t + 1) (((40 : Int32) + a2).toNatClampNeg) a1) (fun s24 => nm (uI s24 (t + 1) (((44 : Int32) + a2).toNatClampNeg) ((s24.1 (t + 1) ((44 : Int32) + a2).toNatClampNeg) + (1 : Int32))) (fun s25 => gd (p_inB ((228 : Int32) + a2) 236 = true) (bV (qev en d 74 [.ref t, .int a1, .int (s25.1 (t + 1) ((228 : Int32) + a2).toNatClampNeg)] s25) (fun s28 => some (some (.int (0 : Int32)), s28)))))) else some (some (.int (5 : Int32)), s)))) (qev en (d + 1) 58 [.ref t, .int a1, .int a2, .int a3] s) := by
  refine e_enter ix_X3_useLock (Nat.le_of_ble_eq_true rfl) ?_
  show qle _ (qE (qev en d) en (some .int) tb_X3_useLock (0, [(0, .ref t), (1, .int a1), (2, .int a2), (3, .int a3)], []) s)
  refine qle_gd fun ht => ?_
  refine e_L 1 (f' := (1, [(0, .ref t), (1, .int a1), (2, .int a2), (3, .int a3)], [.ref t])) rfl ?_
  refine e_gI 3 10 rfl rfl ht ?_
  refine e_L 1 (f' := (5, [(0, .ref t), (1, .int a1), (2, .int a2), (3, .int a3)], [.int (5 : Int32), .int (s.1 t 10)])) rfl ?_
  refine e_icmp 64 rfl rfl rfl (fun c1 => ?_) (fun c1 => ?_)
  · refine e_L 1 (f' := (65, [(0, .ref t), (1, .int a1), (2, .int a2), (3, .int a3)], [.ref t])) rfl ?_
    refine e_gR (q := (t + 1)) 3 0 rfl rfl ht (fo_3_0 ht) ?_
    refine e_L 3 (f' := (72, [(0, .ref t), (1, .int a1), (2, .int a2), (3, .int a3)], [.int ((40 : Int32) + a2), .ref (t + 1)])) rfl ?_
    refine qle_gd fun h2 => ?_
    refine e_ial (n := 236) (k := ((40 : Int32) + a2).toNatClampNeg) rfl (fc_3_0 ht) (fl_3_0 ht) h2 rfl ?_
    refine e_L 1 (f' := (74, [(0, .ref t), (1, .int a1), (2, .int a2), (3, .int a3)], [.int a1, .int (s.1 (t + 1) ((40 : Int32) + a2).toNatClampNeg)])) rfl ?_
    refine e_icmp 79 rfl rfl rfl (fun c3 => ?_) (fun c3 => ?_)
    · refine e_L 1 (f' := (80, [(0, .ref t), (1, .int a1), (2, .int a2), (3, .int a3)], [.ref t])) rfl ?_
      refine e_gI 3 10 rfl rfl ht ?_
      refine e_L 1 (f' := (85, [(0, .ref t), (1, .int a1), (2, .int a2), (3, .int a3)], [.int (6 : Int32), .int (s.1 t 10)])) rfl ?_
      refine e_icmp 110 rfl rfl rfl (fun c4 => ?_) (fun c4 => ?_)
      · refine e_L 1 (f' := (111, [(0, .ref t), (1, .int a1), (2, .int a2), (3, .int a3)], [.ref t])) rfl ?_
        refine e_gI 3 10 rfl rfl ht ?_
        refine e_L 1 (f' := (116, [(0, .ref t), (1, .int a1), (2, .int a2), (3, .int a3)], [.int (7 : Int32), .int (s.1 t 10)])) rfl ?_
        refine e_icmp 165 rfl rfl rfl (fun c5 => ?_) (fun c5 => ?_)
        · refine e_L 3 (f' := (168, [(0, .ref t), (1, .int a1), (2, .int a2), (3, .int a3)], [.ref t, .int a2, .ref t])) rfl ?_
          refine e_gI 3 10 rfl rfl ht ?_
          refine e_L 1 (f' := (173, [(0, .ref t), (1, .int a1), (2, .int a2), (3, .int a3)], [.int (8 : Int32), .int (s.1 t 10), .int a2, .ref t])) rfl ?_
          refine e_icmp 180 rfl rfl rfl (fun c6 => ?_) (fun c6 => ?_)
          · refine e_L 1 (f' := (181, [(0, .ref t), (1, .int a1), (2, .int a2), (3, .int a3)], [.int (-1 : Int32), .int a2, .ref t])) rfl ?_
            exact qE_sub (qsubL [] rfl (ks := [0, 1, 2, 3]) rfl (by decide))
          · refine e_L 2 (f' := (181, [(0, .ref t), (1, .int a1), (2, .int a2), (3, .int a3)], [.int a3, .int a2, .ref t])) rfl ?_
            exact qE_sub (qsubL [] rfl (ks := [0, 1, 2, 3]) rfl (by decide))
        · refine e_L 1 (f' := (120, [(0, .ref t), (1, .int a1), (2, .int a2), (3, .int a3)], [.ref t])) rfl ?_
          refine e_gR (q := (t + 1)) 3 0 rfl rfl ht (fo_3_0 ht) ?_
          refine e_L 4 (f' := (128, [(0, .ref t), (1, .int a1), (2, .int a2), (3, .int a3)], [.ref t, .int ((12 : Int32) + a1), .ref (t + 1)])) rfl ?_
          refine e_gR (q := (t + 1)) 3 0 rfl rfl ht (fo_3_0 ht) ?_
          refine e_L 3 (f' := (135, [(0, .ref t), (1, .int a1), (2, .int a2), (3, .int a3)], [.int ((44 : Int32) + a2), .ref (t + 1), .int ((12 : Int32) + a1), .ref (t + 1)])) rfl ?_
          refine qle_gd fun h7 => ?_
          refine e_ial (n := 236) (k := ((44 : Int32) + a2).toNatClampNeg) rfl (fc_3_0 ht) (fl_3_0 ht) h7 rfl ?_
          refine qle_gd fun h8 => ?_
          refine e_ias (n := 236) (k := ((12 : Int32) + a1).toNatClampNeg) rfl (fc_3_0 ht) (fl_3_0 ht) h8 rfl ?_
          refine e_nS fun s9 => ?_
          refine e_L 1 (f' := (138, [(0, .ref t), (1, .int a1), (2, .int a2), (3, .int a3)], [.ref t])) rfl ?_
          refine e_gR (q := (t + 1)) 3 0 rfl rfl ht (fo_3_0 ht) ?_
          refine e_L 4 (f' := (146, [(0, .ref t), (1, .int a1), (2, .int a2), (3, .int a3)], [.int (0 : Int32), .int ((44 : Int32) + a2), .ref (t + 1)])) rfl ?_
          refine e_ias (n := 236) (k := ((44 : Int32) + a2).toNatClampNeg) rfl (fc_3_0 ht) (fl_3_0 ht) h7 rfl ?_
          refine e_nS fun s10 => ?_
          refine e_L 1 (f' := (148, [(0, .ref t), (1, .int a1), (2, .int a2), (3, .int a3)], [.ref t])) rfl ?_
          refine e_gR (q := (t + 1)) 3 0 rfl rfl ht (fo_3_0 ht) ?_
          refine e_L 4 (f' := (155, [(0, .ref t), (1, .int a1), (2, .int a2), (3, .int a3)], [.int (2 : Int32), .int ((0 : Int32) + a1), .ref (t + 1)])) rfl ?_
          refine qle_gd fun h11 => ?_
          refine e_ias (n := 236) (k := ((0 : Int32) + a1).toNatClampNeg) rfl (fc_3_0 ht) (fl_3_0 ht) h11 rfl ?_
          refine e_nS fun s12 => ?_
          refine e_L 3 (f' := (159, [(0, .ref t), (1, .int a1), (2, .int a2), (3, .int a3)], [.int a2, .int a1, .ref t])) rfl ?_
          refine e_vV 59 rfl rfl ix_X3_leave rfl (q_recvOf ht rfl) (Nat.le_of_ble_eq_true rfl) (fun s14 e15 => ?_)
          refine e_L 2 (f' := (185, [(0, .ref t), (1, .int a1), (2, .int a2), (3, .int a3)], [.int (0 : Int32)])) rfl ?_
          exact e_rI rfl rfl
      · refine e_L 1 (f' := (89, [(0, .ref t), (1, .int a1), (2, .int a2), (3, .int a3)], [.ref t])) rfl ?_
        refine e_gR (q := (t + 1)) 3 0 rfl rfl ht (fo_3_0 ht) ?_
        refine e_L 4 (f' := (97, [(0, .ref t), (1, .int a1), (2, .int a2), (3, .int a3)], [.int ((44 : Int32) + a2), .ref (t + 1), .int ((44 : Int32) + a2), .ref (t + 1)])) rfl ?_
        refine qle_gd fun h16 => ?_
        refine e_ial (n := 236) (k := ((44 : Int32) + a2).toNatClampNeg) rfl (fc_3_0 ht) (fl_3_0 ht) h16 rfl ?_
        refine e_L 2 (f' := (100, [(0, .ref t), (1, .int a1), (2, .int a2), (3, .int a3)], [.int ((s.1 (t + 1) ((44 : Int32) + a2).toNatClampNeg) - (1 : Int32)), .int ((44 : Int32) + a2), .ref (t + 1)])) rfl ?_
        refine e_ias (n := 236) (k := ((44 : Int32) + a2).toNatClampNeg) rfl (fc_3_0 ht) (fl_3_0 ht) h16 rfl ?_
        refine e_nS fun s17 => ?_
        refine e_L 3 (f' := (104, [(0, .ref t), (1, .int a1), (2, .int a2), (3, .int a3)], [.int a2, .int a1, .ref t])) rfl ?_
        refine e_vV 59 rfl rfl ix_X3_leave rfl (q_recvOf ht rfl) (Nat.le_of_ble_eq_true rfl) (fun s19 e20 => ?_)
        refine e_L 2 (f' := (185, [(0, .ref t), (1, .int a1), (2, .int a2), (3, .int a3)], [.int (0 : Int32)])) rfl ?_
        exact e_rI rfl rfl
    · refine e_L 1 (f' := (78, [(0, .ref t), (1, .int a1), (2, .int a2), (3, .int a3)], [.int (2 : Int32)])) rfl ?_
      exact e_rI rfl rfl
  · refine e_L 1 (f' := (9, [(0, .ref t), (1, .int a1), (2, .int a2), (3, .int a3)], [.ref t])) rfl ?_
    refine e_gR (q := (t + 1)) 3 0 rfl rfl ht (fo_3_0 ht) ?_
    refine e_L 3 (f' := (16, [(0, .ref t), (1, .int a1), (2, .int a2), (3, .int a3)], [.int ((44 : Int32) + a2), .ref (t + 1)])) rfl ?_
    refine qle_gd fun h21 => ?_
    refine e_ial (n := 236) (k := ((44 : Int32) + a2).toNatClampNeg) rfl (fc_3_0 ht) (fl_3_0 ht) h21 rfl ?_
    refine e_L 1 (f' := (19, [(0, .ref t), (1, .int a1), (2, .int a2), (3, .int a3)], [.int (9 : Int32), .int (s.1 (t + 1) ((44 : Int32) + a2).toNatClampNeg)])) rfl ?_
    refine e_icmp 24 rfl rfl rfl (fun c22 => ?_) (fun c22 => ?_)
    · refine e_L 1 (f' := (25, [(0, .ref t), (1, .int a1), (2, .int a2), (3, .int a3)], [.ref t])) rfl ?_
      refine e_gR (q := (t + 1)) 3 0 rfl rfl ht (fo_3_0 ht) ?_
      refine e_L 4 (f' := (33, [(0, .ref t), (1, .int a1), (2, .int a2), (3, .int a3)], [.int a1, .int ((40 : Int32) + a2), .ref (t + 1)])) rfl ?_
      refine qle_gd fun h23 => ?_
      refine e_ias (n := 236) (k := ((40 : Int32) + a2).toNatClampNeg) rfl (fc_3_0 ht) (fl_3_0 ht) h23 rfl ?_
      refine e_nS fun s24 => ?_
      refine e_L 1 (f' := (35, [(0, .ref t), (1, .int a1), (2, .int a2), (3, .int a3)], [.ref t])) rfl ?_
      refine e_gR (q := (t + 1)) 3 0 rfl rfl ht (fo_3_0 ht) ?_
      refine e_L 4 (f' := (43, [(0, .ref t), (1, .int a1), (2, .int a2), (3, .int a3)], [.int ((44 : Int32) + a2), .ref (t + 1), .int ((44 : Int32) + a2), .ref (t + 1)])) rfl ?_
      refine e_ial (n := 236) (k := ((44 : Int32) + a2).toNatClampNeg) rfl (fc_3_0 ht) (fl_3_0 ht) h21 rfl ?_
      refine e_L 2 (f' := (46, [(0, .ref t), (1, .int a1), (2, .int a2), (3, .int a3)], [.int ((s24.1 (t + 1) ((44 : Int32) + a2).toNatClampNeg) + (1 : Int32)), .int ((44 : Int32) + a2), .ref (t + 1)])) rfl ?_
      refine e_ias (n := 236) (k := ((44 : Int32) + a2).toNatClampNeg) rfl (fc_3_0 ht) (fl_3_0 ht) h21 rfl ?_
      refine e_nS fun s25 => ?_
      refine e_L 3 (f' := (50, [(0, .ref t), (1, .int a1), (2, .int a2), (3, .int a3)], [.ref t, .int a1, .ref t])) rfl ?_
      refine e_gR (q := (t + 1)) 3 0 rfl rfl ht (fo_3_0 ht) ?_
      refine e_L 3 (f' := (58, [(0, .ref t), (1, .int a1), (2, .int a2), (3, .int a3)], [.int ((228 : Int32) + a2), .ref (t + 1), .int a1, .ref t])) rfl ?_
      refine qle_gd fun h26 => ?_
      refine e_ial (n := 236) (k := ((228 : Int32) + a2).toNatClampNeg) rfl (fc_3_0 ht) (fl_3_0 ht) h26 rfl ?_
      refine e_vV 74 rfl rfl ix_X3_learn rfl (q_recvOf ht rfl) (Nat.le_of_ble_eq_true rfl) (fun s28 e29 => ?_)
      refine e_L 1 (f' := (63, [(0, .ref t), (1, .int a1), (2, .int a2), (3, .int a3)], [.int (0 : Int32)])) rfl ?_
      exact e_rI rfl rfl
    · refine e_L 1 (f' := (23, [(0, .ref t), (1, .int a1), (2, .int a2), (3, .int a3)], [.int (5 : Int32)])) rfl ?_
      exact e_rI rfl rfl
set_option maxRecDepth 100000 in
set_option maxHeartbeats 4000000 in
theorem le_X3_leave (en : pN) (d : Nat) (t : Nat) (a1 : Int32) (a2 : Int32) (s : qS) : qle (gd (lc t = 3) (gd (p_inB ((224 : Int32) + a1) 236 = true) (gd (p_inB ((228 : Int32) + a2) 236 = true) (nm (uI s (t + 1) (((228 : Int32) + a2).toNatClampNeg) (s.1 (t + 1) ((224 : Int32) + a1).toNatClampNeg)) (fun s3 => gd (p_inB ((44 : Int32) + a2) 236 = true) (if ¬ (s3.1 (t + 1) ((44 : Int32) + a2).toNatClampNeg) = (0 : Int32) then some (none, s3) else gd (p_inB ((40 : Int32) + a2) 236 = true) (nm (uI s3 (t + 1) (((40 : Int32) + a2).toNatClampNeg) (-1 : Int32)) (fun s7 => some (none, s7))))))))) (qev en (d + 1) 59 [.ref t, .int a1, .int a2] s) := by
  refine e_enter ix_X3_leave (Nat.le_of_ble_eq_true rfl) ?_
  show qle _ (qE (qev en d) en none tb_X3_leave (0, [(0, .ref t), (1, .int a1), (2, .int a2)], []) s)
  refine qle_gd fun ht => ?_
  refine e_L 1 (f' := (1, [(0, .ref t), (1, .int a1), (2, .int a2)], [.ref t])) rfl ?_
  refine e_gR (q := (t + 1)) 3 0 rfl rfl ht (fo_3_0 ht) ?_
  refine e_L 4 (f' := (10, [(0, .ref t), (1, .int a1), (2, .int a2)], [.ref t, .int ((228 : Int32) + a2), .ref (t + 1)])) rfl ?_
  refine e_gR (q := (t + 1)) 3 0 rfl rfl ht (fo_3_0 ht) ?_
  refine e_L 3 (f' := (18, [(0, .ref t), (1, .int a1), (2, .int a2)], [.int ((224 : Int32) + a1), .ref (t + 1), .int ((228 : Int32) + a2), .ref (t + 1)])) rfl ?_
  refine qle_gd fun h1 => ?_
  refine e_ial (n := 236) (k := ((224 : Int32) + a1).toNatClampNeg) rfl (fc_3_0 ht) (fl_3_0 ht) h1 rfl ?_
  refine qle_gd fun h2 => ?_
  refine e_ias (n := 236) (k := ((228 : Int32) + a2).toNatClampNeg) rfl (fc_3_0 ht) (fl_3_0 ht) h2 rfl ?_
  refine e_nS fun s3 => ?_
  refine e_L 1 (f' := (21, [(0, .ref t), (1, .int a1), (2, .int a2)], [.ref t])) rfl ?_
  refine e_gR (q := (t + 1)) 3 0 rfl rfl ht (fo_3_0 ht) ?_
  refine e_L 3 (f' := (28, [(0, .ref t), (1, .int a1), (2, .int a2)], [.int ((44 : Int32) + a2), .ref (t + 1)])) rfl ?_
  refine qle_gd fun h4 => ?_
  refine e_ial (n := 236) (k := ((44 : Int32) + a2).toNatClampNeg) rfl (fc_3_0 ht) (fl_3_0 ht) h4 rfl ?_
  refine e_ifz 42 rfl rfl rfl (fun c5 => ?_) (fun c5 => ?_)
  · exact e_rV rfl rfl
  · refine e_L 1 (f' := (33, [(0, .ref t), (1, .int a1), (2, .int a2)], [.ref t])) rfl ?_
    refine e_gR (q := (t + 1)) 3 0 rfl rfl ht (fo_3_0 ht) ?_
    refine e_L 4 (f' := (41, [(0, .ref t), (1, .int a1), (2, .int a2)], [.int (-1 : Int32), .int ((40 : Int32) + a2), .ref (t + 1)])) rfl ?_
    refine qle_gd fun h6 => ?_
    refine e_ias (n := 236) (k := ((40 : Int32) + a2).toNatClampNeg) rfl (fc_3_0 ht) (fl_3_0 ht) h6 rfl ?_
    refine e_nS fun s7 => ?_
    exact e_rV rfl rfl
noncomputable def L_X3_wake_5 (en : pN) (d : Nat) (r0 : Nat) (v1 : Int32) (v2 : Int32) (v3 : Int32) (v4 : Int32) (s : qS) : Option qR := qE (qev en d) en none tb_X3_wake (5, [(0, .ref r0), (1, .int v1), (2, .int v2), (3, .int v3), (4, .int v4)], []) s
noncomputable def L_X3_wake_36 (en : pN) (d : Nat) (r0 : Nat) (v1 : Int32) (v2 : Int32) (v3 : Int32) (v4 : Int32) (s : qS) : Option qR := qE (qev en d) en none tb_X3_wake (36, [(0, .ref r0), (1, .int v1), (2, .int v2), (3, .int v3), (4, .int v4)], []) s
set_option maxRecDepth 100000 in
set_option maxHeartbeats 4000000 in
theorem le_X3_wake_5 (en : pN) (d : Nat) (r0 : Nat) (v1 : Int32) (v2 : Int32) (v3 : Int32) (v4 : Int32) (s : qS) : qle (gd (lc r0 = 3) (gd (s.2.2 r0 7 ≠ 0 ∧ lc (s.2.2 r0 7 - 1) = 5) (nm (s.2.2 r0 7 - 1) (fun q2 => if (s.1 q2 11) ≤ v4 then some (none, s) else bI (qev en d 47 [.ref r0, .int v4, .int v1] s) (fun w4 s5 => if w4 = (0 : Int32) then L_X3_wake_5 en d r0 v1 v2 v3 (v4 + (1 : Int32)) s5 else if v2 < (0 : Int32) then L_X3_wake_36 en d r0 v1 v2 v3 v4 s5 else if ¬ v2 = v3 then L_X3_wake_5 en d r0 v1 v2 (v3 + (1 : Int32)) (v4 + (1 : Int32)) s5 else L_X3_wake_36 en d r0 v1 v2 v3 v4 s5))))) (L_X3_wake_5 en d r0 v1 v2 v3 v4 s) := by
  show qle _ (qE (qev en d) en none tb_X3_wake (5, [(0, .ref r0), (1, .int v1), (2, .int v2), (3, .int v3), (4, .int v4)], []) s)
  refine qle_gd fun h_r0 => ?_
  refine e_L 2 (f' := (8, [(0, .ref r0), (1, .int v1), (2, .int v2), (3, .int v3), (4, .int v4)], [.ref r0, .int v4])) rfl ?_
  refine qle_gd fun h1 => ?_
  refine e_gM 3 7 rfl rfl h_r0 h1.1 ?_
  refine e_nR (ci := 5) h1.2 fun q2 h_q2 => ?_
  refine e_gI 5 11 rfl rfl h_q2 ?_
  refine e_icmp 55 rfl rfl rfl (fun c3 => ?_) (fun c3 => ?_)
  · exact e_rV rfl rfl
  · refine e_L 3 (f' := (21, [(0, .ref r0), (1, .int v1), (2, .int v2), (3, .int v3), (4, .int v4)], [.int v1, .int v4, .ref r0])) rfl ?_
    refine e_vI 47 rfl rfl ix_X3_waitsFor rfl (q_recvOf h_r0 rfl) (Nat.le_of_ble_eq_true rfl) (fun w4 s5 e6 => ?_)
    refine e_ifz 49 rfl rfl rfl (fun c7 => ?_) (fun c7 => ?_)
    · refine e_L 2 (f' := (5, [(4, .int (v4 + (1 : Int32))), (0, .ref r0), (1, .int v1), (2, .int v2), (3, .int v3)], [])) rfl ?_
      exact qE_sub (qsubL [1, 2, 3, 4, 0] rfl (ks := [4, 0, 1, 2, 3]) rfl (by decide))
    · refine e_L 1 (f' := (28, [(0, .ref r0), (1, .int v1), (2, .int v2), (3, .int v3), (4, .int v4)], [.int v2])) rfl ?_
      refine e_ifz 36 rfl rfl rfl (fun c8 => ?_) (fun c8 => ?_)
      · exact qE_sub (qsubL [0, 1, 2, 3, 4] rfl (ks := [0, 1, 2, 3, 4]) rfl (by decide))
      · refine e_L 2 (f' := (33, [(0, .ref r0), (1, .int v1), (2, .int v2), (3, .int v3), (4, .int v4)], [.int v3, .int v2])) rfl ?_
        refine e_icmp 46 rfl rfl rfl (fun c9 => ?_) (fun c9 => ?_)
        · refine e_L 3 (f' := (5, [(4, .int (v4 + (1 : Int32))), (3, .int (v3 + (1 : Int32))), (0, .ref r0), (1, .int v1), (2, .int v2)], [])) rfl ?_
          exact qE_sub (qsubL [2, 3, 4, 1, 0] rfl (ks := [4, 3, 0, 1, 2]) rfl (by decide))
        · exact qE_sub (qsubL [0, 1, 2, 3, 4] rfl (ks := [0, 1, 2, 3, 4]) rfl (by decide))
set_option maxRecDepth 100000 in
set_option maxHeartbeats 4000000 in
theorem le_X3_wake_36 (en : pN) (d : Nat) (r0 : Nat) (v1 : Int32) (v2 : Int32) (v3 : Int32) (v4 : Int32) (s : qS) : qle (gd (lc r0 = 3) (gd (p_inB ((0 : Int32) + v4) 236 = true) (nm (uI s (r0 + 1) (((0 : Int32) + v4).toNatClampNeg) (3 : Int32)) (fun s2 => L_X3_wake_5 en d r0 v1 v2 (v3 + (1 : Int32)) (v4 + (1 : Int32)) s2)))) (L_X3_wake_36 en d r0 v1 v2 v3 v4 s) := by
  show qle _ (qE (qev en d) en none tb_X3_wake (36, [(0, .ref r0), (1, .int v1), (2, .int v2), (3, .int v3), (4, .int v4)], []) s)
  refine qle_gd fun h_r0 => ?_
  refine e_L 1 (f' := (37, [(0, .ref r0), (1, .int v1), (2, .int v2), (3, .int v3), (4, .int v4)], [.ref r0])) rfl ?_
  refine e_gR (q := (r0 + 1)) 3 0 rfl rfl h_r0 (fo_3_0 h_r0) ?_
  refine e_L 4 (f' := (45, [(0, .ref r0), (1, .int v1), (2, .int v2), (3, .int v3), (4, .int v4)], [.int (3 : Int32), .int ((0 : Int32) + v4), .ref (r0 + 1)])) rfl ?_
  refine qle_gd fun h1 => ?_
  refine e_ias (n := 236) (k := ((0 : Int32) + v4).toNatClampNeg) rfl (fc_3_0 h_r0) (fl_3_0 h_r0) h1 rfl ?_
  refine e_nS fun s2 => ?_
  refine e_L 3 (f' := (5, [(4, .int (v4 + (1 : Int32))), (3, .int (v3 + (1 : Int32))), (0, .ref r0), (1, .int v1), (2, .int v2)], [])) rfl ?_
  exact qE_sub (qsubL [2, 3, 4, 1, 0] rfl (ks := [4, 3, 0, 1, 2]) rfl (by decide))
set_option maxRecDepth 100000 in
set_option maxHeartbeats 4000000 in
theorem le_X3_wake (en : pN) (d : Nat) (t : Nat) (a1 : Int32) (a2 : Int32) (s : qS) : qle (gd (lc t = 3) (L_X3_wake_5 en d t a1 a2 (0 : Int32) (0 : Int32) s)) (qev en (d + 1) 60 [.ref t, .int a1, .int a2] s) := by
  refine e_enter ix_X3_wake (Nat.le_of_ble_eq_true rfl) ?_
  show qle _ (qE (qev en d) en none tb_X3_wake (0, [(0, .ref t), (1, .int a1), (2, .int a2)], []) s)
  refine qle_gd fun ht => ?_
  refine e_L 4 (f' := (5, [(4, .int (0 : Int32)), (3, .int (0 : Int32)), (0, .ref t), (1, .int a1), (2, .int a2)], [])) rfl ?_
  exact qE_sub (qsubL [2, 3, 4, 1, 0] rfl (ks := [4, 3, 0, 1, 2]) rfl (by decide))
set_option maxRecDepth 100000 in
set_option maxHeartbeats 4000000 in
theorem le_X3_takeBack (en : pN) (d : Nat) (t : Nat) (a1 : Int32) (a2 : Int32) (s : qS) : qle (gd (lc t = 3) (gd (p_inB ((40 : Int32) + a2) 236 = true) (nm (uI s (t + 1) (((40 : Int32) + a2).toNatClampNeg) a1) (fun s2 => gd (p_inB ((12 : Int32) + a1) 236 = true) (gd (p_inB ((44 : Int32) + a2) 236 = true) (nm (uI s2 (t + 1) (((44 : Int32) + a2).toNatClampNeg) (s2.1 (t + 1) ((12 : Int32) + a1).toNatClampNeg)) (fun s5 => nm (uI s5 (t + 1) (((12 : Int32) + a1).toNatClampNeg) (0 : Int32)) (fun s6 => gd (p_inB ((228 : Int32) + a2) 236 = true) (bV (qev en d 74 [.ref t, .int a1, .int (s6.1 (t + 1) ((228 : Int32) + a2).toNatClampNeg)] s6) (fun s9 => bV (qev en d 34 [.ref t, .int a1, .int (s9.1 t 12)] s9) (fun s12 => some (none, s12)))))))))))) (qev en (d + 1) 61 [.ref t, .int a1, .int a2] s) := by
  refine e_enter ix_X3_takeBack (Nat.le_of_ble_eq_true rfl) ?_
  show qle _ (qE (qev en d) en none tb_X3_takeBack (0, [(0, .ref t), (1, .int a1), (2, .int a2)], []) s)
  refine qle_gd fun ht => ?_
  refine e_L 1 (f' := (1, [(0, .ref t), (1, .int a1), (2, .int a2)], [.ref t])) rfl ?_
  refine e_gR (q := (t + 1)) 3 0 rfl rfl ht (fo_3_0 ht) ?_
  refine e_L 4 (f' := (9, [(0, .ref t), (1, .int a1), (2, .int a2)], [.int a1, .int ((40 : Int32) + a2), .ref (t + 1)])) rfl ?_
  refine qle_gd fun h1 => ?_
  refine e_ias (n := 236) (k := ((40 : Int32) + a2).toNatClampNeg) rfl (fc_3_0 ht) (fl_3_0 ht) h1 rfl ?_
  refine e_nS fun s2 => ?_
  refine e_L 1 (f' := (11, [(0, .ref t), (1, .int a1), (2, .int a2)], [.ref t])) rfl ?_
  refine e_gR (q := (t + 1)) 3 0 rfl rfl ht (fo_3_0 ht) ?_
  refine e_L 4 (f' := (19, [(0, .ref t), (1, .int a1), (2, .int a2)], [.ref t, .int ((44 : Int32) + a2), .ref (t + 1)])) rfl ?_
  refine e_gR (q := (t + 1)) 3 0 rfl rfl ht (fo_3_0 ht) ?_
  refine e_L 3 (f' := (26, [(0, .ref t), (1, .int a1), (2, .int a2)], [.int ((12 : Int32) + a1), .ref (t + 1), .int ((44 : Int32) + a2), .ref (t + 1)])) rfl ?_
  refine qle_gd fun h3 => ?_
  refine e_ial (n := 236) (k := ((12 : Int32) + a1).toNatClampNeg) rfl (fc_3_0 ht) (fl_3_0 ht) h3 rfl ?_
  refine qle_gd fun h4 => ?_
  refine e_ias (n := 236) (k := ((44 : Int32) + a2).toNatClampNeg) rfl (fc_3_0 ht) (fl_3_0 ht) h4 rfl ?_
  refine e_nS fun s5 => ?_
  refine e_L 1 (f' := (29, [(0, .ref t), (1, .int a1), (2, .int a2)], [.ref t])) rfl ?_
  refine e_gR (q := (t + 1)) 3 0 rfl rfl ht (fo_3_0 ht) ?_
  refine e_L 4 (f' := (37, [(0, .ref t), (1, .int a1), (2, .int a2)], [.int (0 : Int32), .int ((12 : Int32) + a1), .ref (t + 1)])) rfl ?_
  refine e_ias (n := 236) (k := ((12 : Int32) + a1).toNatClampNeg) rfl (fc_3_0 ht) (fl_3_0 ht) h3 rfl ?_
  refine e_nS fun s6 => ?_
  refine e_L 3 (f' := (41, [(0, .ref t), (1, .int a1), (2, .int a2)], [.ref t, .int a1, .ref t])) rfl ?_
  refine e_gR (q := (t + 1)) 3 0 rfl rfl ht (fo_3_0 ht) ?_
  refine e_L 3 (f' := (49, [(0, .ref t), (1, .int a1), (2, .int a2)], [.int ((228 : Int32) + a2), .ref (t + 1), .int a1, .ref t])) rfl ?_
  refine qle_gd fun h7 => ?_
  refine e_ial (n := 236) (k := ((228 : Int32) + a2).toNatClampNeg) rfl (fc_3_0 ht) (fl_3_0 ht) h7 rfl ?_
  refine e_vV 74 rfl rfl ix_X3_learn rfl (q_recvOf ht rfl) (Nat.le_of_ble_eq_true rfl) (fun s9 e10 => ?_)
  refine e_L 3 (f' := (56, [(0, .ref t), (1, .int a1), (2, .int a2)], [.ref t, .int a1, .ref t])) rfl ?_
  refine e_gI 3 12 rfl rfl ht ?_
  refine e_vV 34 rfl rfl ix_X3_go rfl (q_recvOf ht rfl) (Nat.le_of_ble_eq_true rfl) (fun s12 e13 => ?_)
  exact e_rV rfl rfl
set_option maxRecDepth 100000 in
set_option maxHeartbeats 4000000 in
theorem le_X3_meet (en : pN) (d : Nat) (t : Nat) (a1 : Int32) (a2 : Int32) (s : qS) : qle (gd (lc t = 3) (if ¬ (s.1 t 10) = (10 : Int32) then if ¬ (s.1 t 10) = (11 : Int32) then if ¬ (s.1 t 10) = (12 : Int32) then nm (uI s t 12 (-1 : Int32)) (fun s4 => some (some (.int (0 : Int32)), s4)) else bV (qev en d 74 [.ref t, .int a1, .int (s.1 (t + 1) 232)] s) (fun s6 => gd (p_inB ((224 : Int32) + a1) 236 = true) (nm (uI s6 (t + 1) 232 (s6.1 (t + 1) ((224 : Int32) + a1).toNatClampNeg)) (fun s9 => some (some (.int (0 : Int32)), s9)))) else gd (p_inB ((224 : Int32) + a2) 236 = true) (bV (qev en d 74 [.ref t, .int a1, .int (s.1 (t + 1) ((224 : Int32) + a2).toNatClampNeg)] s) (fun s12 => some (some (.int (0 : Int32)), s12))) else bI (qev en d 63 [.ref t, .int a1, .int a2] s) (fun w14 s15 => some (some (.int w14), s15)))) (qev en (d + 1) 62 [.ref t, .int a1, .int a2] s) := by
  refine e_enter ix_X3_meet (Nat.le_of_ble_eq_true rfl) ?_
  show qle _ (qE (qev en d) en (some .int) tb_X3_meet (0, [(0, .ref t), (1, .int a1), (2, .int a2)], []) s)
  refine qle_gd fun ht => ?_
  refine e_L 1 (f' := (1, [(0, .ref t), (1, .int a1), (2, .int a2)], [.ref t])) rfl ?_
  refine e_gI 3 10 rfl rfl ht ?_
  refine e_L 1 (f' := (6, [(0, .ref t), (1, .int a1), (2, .int a2)], [.int (10 : Int32), .int (s.1 t 10)])) rfl ?_
  refine e_icmp 16 rfl rfl rfl (fun c1 => ?_) (fun c1 => ?_)
  · refine e_L 1 (f' := (17, [(0, .ref t), (1, .int a1), (2, .int a2)], [.ref t])) rfl ?_
    refine e_gI 3 10 rfl rfl ht ?_
    refine e_L 1 (f' := (22, [(0, .ref t), (1, .int a1), (2, .int a2)], [.int (11 : Int32), .int (s.1 t 10)])) rfl ?_
    refine e_icmp 43 rfl rfl rfl (fun c2 => ?_) (fun c2 => ?_)
    · refine e_L 1 (f' := (44, [(0, .ref t), (1, .int a1), (2, .int a2)], [.ref t])) rfl ?_
      refine e_gI 3 10 rfl rfl ht ?_
      refine e_L 1 (f' := (49, [(0, .ref t), (1, .int a1), (2, .int a2)], [.int (12 : Int32), .int (s.1 t 10)])) rfl ?_
      refine e_icmp 86 rfl rfl rfl (fun c3 => ?_) (fun c3 => ?_)
      · refine e_L 2 (f' := (88, [(0, .ref t), (1, .int a1), (2, .int a2)], [.int (-1 : Int32), .ref t])) rfl ?_
        refine e_pI 3 12 rfl rfl ht rfl ?_
        refine e_nS fun s4 => ?_
        refine e_L 1 (f' := (92, [(0, .ref t), (1, .int a1), (2, .int a2)], [.int (0 : Int32)])) rfl ?_
        exact e_rI rfl rfl
      · refine e_L 3 (f' := (55, [(0, .ref t), (1, .int a1), (2, .int a2)], [.ref t, .int a1, .ref t])) rfl ?_
        refine e_gR (q := (t + 1)) 3 0 rfl rfl ht (fo_3_0 ht) ?_
        refine e_L 1 (f' := (61, [(0, .ref t), (1, .int a1), (2, .int a2)], [.int (232 : Int32), .ref (t + 1), .int a1, .ref t])) rfl ?_
        refine e_ial (n := 236) (k := 232) rfl (fc_3_0 ht) (fl_3_0 ht) (by decide +kernel) (by decide +kernel) ?_
        refine e_vV 74 rfl rfl ix_X3_learn rfl (q_recvOf ht rfl) (Nat.le_of_ble_eq_true rfl) (fun s6 e7 => ?_)
        refine e_L 1 (f' := (66, [(0, .ref t), (1, .int a1), (2, .int a2)], [.ref t])) rfl ?_
        refine e_gR (q := (t + 1)) 3 0 rfl rfl ht (fo_3_0 ht) ?_
        refine e_L 2 (f' := (73, [(0, .ref t), (1, .int a1), (2, .int a2)], [.ref t, .int (232 : Int32), .ref (t + 1)])) rfl ?_
        refine e_gR (q := (t + 1)) 3 0 rfl rfl ht (fo_3_0 ht) ?_
        refine e_L 3 (f' := (81, [(0, .ref t), (1, .int a1), (2, .int a2)], [.int ((224 : Int32) + a1), .ref (t + 1), .int (232 : Int32), .ref (t + 1)])) rfl ?_
        refine qle_gd fun h8 => ?_
        refine e_ial (n := 236) (k := ((224 : Int32) + a1).toNatClampNeg) rfl (fc_3_0 ht) (fl_3_0 ht) h8 rfl ?_
        refine e_ias (n := 236) (k := 232) rfl (fc_3_0 ht) (fl_3_0 ht) (by decide +kernel) (by decide +kernel) ?_
        refine e_nS fun s9 => ?_
        refine e_L 2 (f' := (92, [(0, .ref t), (1, .int a1), (2, .int a2)], [.int (0 : Int32)])) rfl ?_
        exact e_rI rfl rfl
    · refine e_L 3 (f' := (28, [(0, .ref t), (1, .int a1), (2, .int a2)], [.ref t, .int a1, .ref t])) rfl ?_
      refine e_gR (q := (t + 1)) 3 0 rfl rfl ht (fo_3_0 ht) ?_
      refine e_L 3 (f' := (36, [(0, .ref t), (1, .int a1), (2, .int a2)], [.int ((224 : Int32) + a2), .ref (t + 1), .int a1, .ref t])) rfl ?_
      refine qle_gd fun h10 => ?_
      refine e_ial (n := 236) (k := ((224 : Int32) + a2).toNatClampNeg) rfl (fc_3_0 ht) (fl_3_0 ht) h10 rfl ?_
      refine e_vV 74 rfl rfl ix_X3_learn rfl (q_recvOf ht rfl) (Nat.le_of_ble_eq_true rfl) (fun s12 e13 => ?_)
      refine e_L 2 (f' := (92, [(0, .ref t), (1, .int a1), (2, .int a2)], [.int (0 : Int32)])) rfl ?_
      exact e_rI rfl rfl
  · refine e_L 3 (f' := (12, [(0, .ref t), (1, .int a1), (2, .int a2)], [.int a2, .int a1, .ref t])) rfl ?_
    refine e_vI 63 rfl rfl ix_X3_begins rfl (q_recvOf ht rfl) (Nat.le_of_ble_eq_true rfl) (fun w14 s15 e16 => ?_)
    exact e_rI rfl rfl
set_option maxRecDepth 100000 in
set_option maxHeartbeats 4000000 in
theorem le_X3_begins (en : pN) (d : Nat) (t : Nat) (a1 : Int32) (a2 : Int32) (s : qS) : qle (gd (lc t = 3) (gd (p_inB ((0 : Int32) + a2) 236 = true) (if (s.1 (t + 1) ((0 : Int32) + a2).toNatClampNeg) = (0 : Int32) then gd (s.2.2 t 7 ≠ 0 ∧ lc (s.2.2 t 7 - 1) = 5) (nm (s.2.2 t 7 - 1) (fun q4 => gd (p_inB a2 4 = true) (bV (qev en d 34 [.ref t, .int a2, .int (s.1 (q4 + 5) a2.toNatClampNeg)] s) (fun s7 => gd (p_inB ((224 : Int32) + a1) 236 = true) (gd (p_inB ((224 : Int32) + a2) 236 = true) (nm (uI s7 (t + 1) (((224 : Int32) + a2).toNatClampNeg) (s7.1 (t + 1) ((224 : Int32) + a1).toNatClampNeg)) (fun s11 => some (some (.int (0 : Int32)), s11)))))))) else some (some (.int (3 : Int32)), s)))) (qev en (d + 1) 63 [.ref t, .int a1, .int a2] s) := by
  refine e_enter ix_X3_begins (Nat.le_of_ble_eq_true rfl) ?_
  show qle _ (qE (qev en d) en (some .int) tb_X3_begins (0, [(0, .ref t), (1, .int a1), (2, .int a2)], []) s)
  refine qle_gd fun ht => ?_
  refine e_L 1 (f' := (1, [(0, .ref t), (1, .int a1), (2, .int a2)], [.ref t])) rfl ?_
  refine e_gR (q := (t + 1)) 3 0 rfl rfl ht (fo_3_0 ht) ?_
  refine e_L 3 (f' := (7, [(0, .ref t), (1, .int a1), (2, .int a2)], [.int ((0 : Int32) + a2), .ref (t + 1)])) rfl ?_
  refine qle_gd fun h1 => ?_
  refine e_ial (n := 236) (k := ((0 : Int32) + a2).toNatClampNeg) rfl (fc_3_0 ht) (fl_3_0 ht) h1 rfl ?_
  refine e_ifz 13 rfl rfl rfl (fun c2 => ?_) (fun c2 => ?_)
  · refine e_L 3 (f' := (16, [(0, .ref t), (1, .int a1), (2, .int a2)], [.ref t, .int a2, .ref t])) rfl ?_
    refine qle_gd fun h3 => ?_
    refine e_gM 3 7 rfl rfl ht h3.1 ?_
    refine e_nR (ci := 5) h3.2 fun q4 h_q4 => ?_
    refine e_gR (q := (q4 + 5)) 5 5 rfl rfl h_q4 (fo_5_5 h_q4) ?_
    refine e_L 1 (f' := (23, [(0, .ref t), (1, .int a1), (2, .int a2)], [.int a2, .ref (q4 + 5), .int a2, .ref t])) rfl ?_
    refine qle_gd fun h5 => ?_
    refine e_ial (n := 4) (k := a2.toNatClampNeg) rfl (fc_5_5 h_q4) (fl_5_5 h_q4) h5 rfl ?_
    refine e_vV 34 rfl rfl ix_X3_go rfl (q_recvOf ht rfl) (Nat.le_of_ble_eq_true rfl) (fun s7 e8 => ?_)
    refine e_L 1 (f' := (28, [(0, .ref t), (1, .int a1), (2, .int a2)], [.ref t])) rfl ?_
    refine e_gR (q := (t + 1)) 3 0 rfl rfl ht (fo_3_0 ht) ?_
    refine e_L 4 (f' := (37, [(0, .ref t), (1, .int a1), (2, .int a2)], [.ref t, .int ((224 : Int32) + a2), .ref (t + 1)])) rfl ?_
    refine e_gR (q := (t + 1)) 3 0 rfl rfl ht (fo_3_0 ht) ?_
    refine e_L 3 (f' := (45, [(0, .ref t), (1, .int a1), (2, .int a2)], [.int ((224 : Int32) + a1), .ref (t + 1), .int ((224 : Int32) + a2), .ref (t + 1)])) rfl ?_
    refine qle_gd fun h9 => ?_
    refine e_ial (n := 236) (k := ((224 : Int32) + a1).toNatClampNeg) rfl (fc_3_0 ht) (fl_3_0 ht) h9 rfl ?_
    refine qle_gd fun h10 => ?_
    refine e_ias (n := 236) (k := ((224 : Int32) + a2).toNatClampNeg) rfl (fc_3_0 ht) (fl_3_0 ht) h10 rfl ?_
    refine e_nS fun s11 => ?_
    refine e_L 1 (f' := (48, [(0, .ref t), (1, .int a1), (2, .int a2)], [.int (0 : Int32)])) rfl ?_
    exact e_rI rfl rfl
  · refine e_L 1 (f' := (12, [(0, .ref t), (1, .int a1), (2, .int a2)], [.int (3 : Int32)])) rfl ?_
    exact e_rI rfl rfl
noncomputable def L_X3_tell_36 (en : pN) (d : Nat) (r0 : Nat) (v1 : Int32) (s : qS) : Option qR := qE (qev en d) en (some .int) tb_X3_tell (36, [(0, .ref r0), (1, .int v1)], []) s
noncomputable def L_X3_tell_54 (en : pN) (d : Nat) (r0 : Nat) (v1 : Int32) (s : qS) : Option qR := qE (qev en d) en (some .int) tb_X3_tell (54, [(0, .ref r0), (1, .int v1)], []) s
noncomputable def L_X3_tell_77 (en : pN) (d : Nat) (r0 : Nat) (v1 : Int32) (s : qS) : Option qR := qE (qev en d) en (some .int) tb_X3_tell (77, [(0, .ref r0), (1, .int v1)], []) s
set_option maxRecDepth 100000 in
set_option maxHeartbeats 4000000 in
theorem le_X3_tell_36 (en : pN) (d : Nat) (r0 : Nat) (v1 : Int32) (s : qS) : qle (gd (lc r0 = 3) (if (s.1 r0 10) = (17 : Int32) then L_X3_tell_54 en d r0 v1 s else if ¬ (s.1 r0 10) = (18 : Int32) then L_X3_tell_77 en d r0 v1 s else L_X3_tell_54 en d r0 v1 s)) (L_X3_tell_36 en d r0 v1 s) := by
  show qle _ (qE (qev en d) en (some .int) tb_X3_tell (36, [(0, .ref r0), (1, .int v1)], []) s)
  refine qle_gd fun h_r0 => ?_
  refine e_L 1 (f' := (37, [(0, .ref r0), (1, .int v1)], [.ref r0])) rfl ?_
  refine e_gI 3 10 rfl rfl h_r0 ?_
  refine e_L 1 (f' := (42, [(0, .ref r0), (1, .int v1)], [.int (17 : Int32), .int (s.1 r0 10)])) rfl ?_
  refine e_icmp 54 rfl rfl rfl (fun c1 => ?_) (fun c1 => ?_)
  · exact qE_sub (qsubL [0, 1] rfl (ks := [0, 1]) rfl (by decide))
  · refine e_L 1 (f' := (46, [(0, .ref r0), (1, .int v1)], [.ref r0])) rfl ?_
    refine e_gI 3 10 rfl rfl h_r0 ?_
    refine e_L 1 (f' := (51, [(0, .ref r0), (1, .int v1)], [.int (18 : Int32), .int (s.1 r0 10)])) rfl ?_
    refine e_icmp 77 rfl rfl rfl (fun c2 => ?_) (fun c2 => ?_)
    · exact qE_sub (qsubL [0, 1] rfl (ks := [0, 1]) rfl (by decide))
    · exact qE_sub (qsubL [0, 1] rfl (ks := [0, 1]) rfl (by decide))
set_option maxRecDepth 100000 in
set_option maxHeartbeats 4000000 in
theorem le_X3_tell_54 (en : pN) (d : Nat) (r0 : Nat) (v1 : Int32) (s : qS) : qle (gd (lc r0 = 3) (if v1 = (0 : Int32) then L_X3_tell_77 en d r0 v1 s else gd (s.2.2 r0 7 ≠ 0 ∧ lc (s.2.2 r0 7 - 1) = 5) (nm (s.2.2 r0 7 - 1) (fun q3 => gd (p_inB (s.1 r0 9) 100 = true) (nm (uI s r0 12 (s.1 (q3 + 22) (s.1 r0 9).toNatClampNeg)) (fun s5 => L_X3_tell_77 en d r0 v1 s5)))))) (L_X3_tell_54 en d r0 v1 s) := by
  show qle _ (qE (qev en d) en (some .int) tb_X3_tell (54, [(0, .ref r0), (1, .int v1)], []) s)
  refine qle_gd fun h_r0 => ?_
  refine e_L 1 (f' := (55, [(0, .ref r0), (1, .int v1)], [.int v1])) rfl ?_
  refine e_ifz 77 rfl rfl rfl (fun c1 => ?_) (fun c1 => ?_)
  · exact qE_sub (qsubL [0, 1] rfl (ks := [0, 1]) rfl (by decide))
  · refine e_L 2 (f' := (60, [(0, .ref r0), (1, .int v1)], [.ref r0, .ref r0])) rfl ?_
    refine qle_gd fun h2 => ?_
    refine e_gM 3 7 rfl rfl h_r0 h2.1 ?_
    refine e_nR (ci := 5) h2.2 fun q3 h_q3 => ?_
    refine e_gR (q := (q3 + 6)) 5 6 rfl rfl h_q3 (fo_5_6 h_q3) ?_
    refine e_L 1 (f' := (68, [(0, .ref r0), (1, .int v1)], [.int (15 : Int32), .ref (q3 + 6), .ref r0])) rfl ?_
    refine e_aal (n := 18) (q := (q3 + 22)) rfl (fc_5_6 h_q3) (fl_5_6 h_q3) (by decide +kernel) (pe_15 h_q3) ?_
    refine e_L 1 (f' := (70, [(0, .ref r0), (1, .int v1)], [.ref r0, .ref (q3 + 22), .ref r0])) rfl ?_
    refine e_gI 3 9 rfl rfl h_r0 ?_
    refine qle_gd fun h4 => ?_
    refine e_ial (n := 100) (k := (s.1 r0 9).toNatClampNeg) rfl (pe_c_15 h_q3) (pe_l_15 h_q3) h4 rfl ?_
    refine e_pI 3 12 rfl rfl h_r0 rfl ?_
    refine e_nS fun s5 => ?_
    exact qE_sub (qsubL [0, 1] rfl (ks := [0, 1]) rfl (by decide))
set_option maxRecDepth 100000 in
set_option maxHeartbeats 4000000 in
theorem le_X3_tell_77 (en : pN) (d : Nat) (r0 : Nat) (v1 : Int32) (s : qS) : qle (gd (lc r0 = 3) (nm (uI s r0 11 v1) (fun s1 => some (some (.int (0 : Int32)), s1)))) (L_X3_tell_77 en d r0 v1 s) := by
  show qle _ (qE (qev en d) en (some .int) tb_X3_tell (77, [(0, .ref r0), (1, .int v1)], []) s)
  refine qle_gd fun h_r0 => ?_
  refine e_L 2 (f' := (79, [(0, .ref r0), (1, .int v1)], [.int v1, .ref r0])) rfl ?_
  refine e_pI 3 11 rfl rfl h_r0 rfl ?_
  refine e_nS fun s1 => ?_
  refine e_L 1 (f' := (83, [(0, .ref r0), (1, .int v1)], [.int (0 : Int32)])) rfl ?_
  exact e_rI rfl rfl
set_option maxRecDepth 100000 in
set_option maxHeartbeats 4000000 in
theorem le_X3_tell (en : pN) (d : Nat) (t : Nat) (s : qS) : qle (gd (lc t = 3) (bI (qev en d 53 [.ref t, .int (5 : Int32)] s) (fun w1 s2 => gd (s2.2.2 t 7 ≠ 0 ∧ lc (s2.2.2 t 7 - 1) = 5) (nm (s2.2.2 t 7 - 1) (fun q5 => if (s2.1 7 4) = (0 : Int32) then if ¬ (s2.1 t 10) = (14 : Int32) then L_X3_tell_36 en d t w1 s2 else if ¬ w1 = (0 : Int32) then L_X3_tell_36 en d t w1 s2 else some (some (.int (4 : Int32)), s2) else some (some (.int (1 : Int32)), s2)))))) (qev en (d + 1) 64 [.ref t] s) := by
  refine e_enter ix_X3_tell (Nat.le_of_ble_eq_true rfl) ?_
  show qle _ (qE (qev en d) en (some .int) tb_X3_tell (0, [(0, .ref t)], []) s)
  refine qle_gd fun ht => ?_
  refine e_L 2 (f' := (2, [(0, .ref t)], [.int (5 : Int32), .ref t])) rfl ?_
  refine e_vI 53 rfl rfl ix_X3_workOut rfl (q_recvOf ht rfl) (Nat.le_of_ble_eq_true rfl) (fun w1 s2 e3 => ?_)
  refine e_L 2 (f' := (7, [(1, .int w1), (0, .ref t)], [.ref t])) rfl ?_
  refine qle_gd fun h4 => ?_
  refine e_gM 3 7 rfl rfl ht h4.1 ?_
  refine e_nR (ci := 5) h4.2 fun q5 h_q5 => ?_
  refine e_gR (q := 7) 5 0 rfl rfl h_q5 (fo_5_0 h_q5) ?_
  refine e_gI 4 4 rfl rfl lc_7 ?_
  refine e_ifz 21 rfl rfl rfl (fun c6 => ?_) (fun c6 => ?_)
  · refine e_L 1 (f' := (22, [(1, .int w1), (0, .ref t)], [.ref t])) rfl ?_
    refine e_gI 3 10 rfl rfl ht ?_
    refine e_L 1 (f' := (27, [(1, .int w1), (0, .ref t)], [.int (14 : Int32), .int (s2.1 t 10)])) rfl ?_
    refine e_icmp 36 rfl rfl rfl (fun c7 => ?_) (fun c7 => ?_)
    · exact qE_sub (qsubL [1, 0] rfl (ks := [1, 0]) rfl (by decide))
    · refine e_L 1 (f' := (31, [(1, .int w1), (0, .ref t)], [.int w1])) rfl ?_
      refine e_ifz 36 rfl rfl rfl (fun c8 => ?_) (fun c8 => ?_)
      · exact qE_sub (qsubL [1, 0] rfl (ks := [1, 0]) rfl (by decide))
      · refine e_L 1 (f' := (35, [(1, .int w1), (0, .ref t)], [.int (4 : Int32)])) rfl ?_
        exact e_rI rfl rfl
  · refine e_L 1 (f' := (20, [(1, .int w1), (0, .ref t)], [.int (1 : Int32)])) rfl ?_
    exact e_rI rfl rfl
noncomputable def L_X3_loadable_60 (en : pN) (d : Nat) (r0 : Nat) (v1 : Int32) (v3 : Int32) (s : qS) : Option qR := qE (qev en d) en (some .int) tb_X3_loadable (60, [(0, .ref r0), (1, .int v1), (3, .int v3)], []) s
noncomputable def L_X3_loadable_73 (en : pN) (d : Nat) (r0 : Nat) (v1 : Int32) (v3 : Int32) (v4 : Int32) (s : qS) : Option qR := qE (qev en d) en (some .int) tb_X3_loadable (73, [(0, .ref r0), (1, .int v1), (3, .int v3), (4, .int v4)], []) s
set_option maxRecDepth 100000 in
set_option maxHeartbeats 4000000 in
theorem le_X3_loadable_60 (en : pN) (d : Nat) (r0 : Nat) (v1 : Int32) (v3 : Int32) (s : qS) : qle (gd (lc r0 = 3) (gd (p_inB ((56 : Int32) + v1) 236 = true) (nm ((s.1 (r0 + 1) ((56 : Int32) + v1).toNatClampNeg) - (1 : Int32)) (fun z2 => L_X3_loadable_73 en d r0 v1 v3 z2 s)))) (L_X3_loadable_60 en d r0 v1 v3 s) := by
  show qle _ (qE (qev en d) en (some .int) tb_X3_loadable (60, [(0, .ref r0), (1, .int v1), (3, .int v3)], []) s)
  refine qle_gd fun h_r0 => ?_
  refine e_L 1 (f' := (61, [(0, .ref r0), (1, .int v1), (3, .int v3)], [.ref r0])) rfl ?_
  refine e_gR (q := (r0 + 1)) 3 0 rfl rfl h_r0 (fo_3_0 h_r0) ?_
  refine e_L 3 (f' := (68, [(0, .ref r0), (1, .int v1), (3, .int v3)], [.int ((56 : Int32) + v1), .ref (r0 + 1)])) rfl ?_
  refine qle_gd fun h1 => ?_
  refine e_ial (n := 236) (k := ((56 : Int32) + v1).toNatClampNeg) rfl (fc_3_0 h_r0) (fl_3_0 h_r0) h1 rfl ?_
  refine e_L 2 (f' := (71, [(0, .ref r0), (1, .int v1), (3, .int v3)], [.int ((s.1 (r0 + 1) ((56 : Int32) + v1).toNatClampNeg) - (1 : Int32))])) rfl ?_
  refine e_nI fun z2 => ?_
  refine e_L 1 (f' := (73, [(4, .int z2), (0, .ref r0), (1, .int v1), (3, .int v3)], [])) rfl ?_
  exact qE_sub (qsubL [1, 2, 3, 0] rfl (ks := [4, 0, 1, 3]) rfl (by decide))
set_option maxRecDepth 100000 in
set_option maxHeartbeats 4000000 in
theorem le_X3_loadable_73 (en : pN) (d : Nat) (r0 : Nat) (v1 : Int32) (v3 : Int32) (v4 : Int32) (s : qS) : qle (gd (lc r0 = 3) (if v4 < (0 : Int32) then gd (p_inB ((48 : Int32) + v3) 236 = true) (some (some (.int (s.1 (r0 + 1) ((48 : Int32) + v3).toNatClampNeg)), s)) else gd (p_inB (((60 : Int32) + (v1 * (3 : Int32))) + v4) 236 = true) (nm (s.1 (r0 + 1) (((60 : Int32) + (v1 * (3 : Int32))) + v4).toNatClampNeg) (fun z4 => if ¬ (z4 &&& (7 : Int32)) = v3 then L_X3_loadable_73 en d r0 v1 v3 (v4 + (-1 : Int32)) s else some (some (.int (z4 >>> ((3 : Int32) &&& 31))), s))))) (L_X3_loadable_73 en d r0 v1 v3 v4 s) := by
  show qle _ (qE (qev en d) en (some .int) tb_X3_loadable (73, [(0, .ref r0), (1, .int v1), (3, .int v3), (4, .int v4)], []) s)
  refine qle_gd fun h_r0 => ?_
  refine e_L 1 (f' := (75, [(0, .ref r0), (1, .int v1), (3, .int v3), (4, .int v4)], [.int v4])) rfl ?_
  refine e_ifz 114 rfl rfl rfl (fun c1 => ?_) (fun c1 => ?_)
  · refine e_L 1 (f' := (115, [(0, .ref r0), (1, .int v1), (3, .int v3), (4, .int v4)], [.ref r0])) rfl ?_
    refine e_gR (q := (r0 + 1)) 3 0 rfl rfl h_r0 (fo_3_0 h_r0) ?_
    refine e_L 3 (f' := (122, [(0, .ref r0), (1, .int v1), (3, .int v3), (4, .int v4)], [.int ((48 : Int32) + v3), .ref (r0 + 1)])) rfl ?_
    refine qle_gd fun h2 => ?_
    refine e_ial (n := 236) (k := ((48 : Int32) + v3).toNatClampNeg) rfl (fc_3_0 h_r0) (fl_3_0 h_r0) h2 rfl ?_
    exact e_rI rfl rfl
  · refine e_L 1 (f' := (79, [(0, .ref r0), (1, .int v1), (3, .int v3), (4, .int v4)], [.ref r0])) rfl ?_
    refine e_gR (q := (r0 + 1)) 3 0 rfl rfl h_r0 (fo_3_0 h_r0) ?_
    refine e_L 7 (f' := (91, [(0, .ref r0), (1, .int v1), (3, .int v3), (4, .int v4)], [.int (((60 : Int32) + (v1 * (3 : Int32))) + v4), .ref (r0 + 1)])) rfl ?_
    refine qle_gd fun h3 => ?_
    refine e_ial (n := 236) (k := (((60 : Int32) + (v1 * (3 : Int32))) + v4).toNatClampNeg) rfl (fc_3_0 h_r0) (fl_3_0 h_r0) h3 rfl ?_
    refine e_nI fun z4 => ?_
    refine e_L 5 (f' := (100, [(5, .int z4), (0, .ref r0), (1, .int v1), (3, .int v3), (4, .int v4)], [.int v3, .int (z4 &&& (7 : Int32))])) rfl ?_
    refine e_icmp 108 rfl rfl rfl (fun c5 => ?_) (fun c5 => ?_)
    · refine e_L 2 (f' := (73, [(4, .int (v4 + (-1 : Int32))), (5, .int z4), (0, .ref r0), (1, .int v1), (3, .int v3)], [])) rfl ?_
      exact qE_sub (qsubL [2, 3, 4, 0] rfl (ks := [4, 5, 0, 1, 3]) rfl (by decide))
    · refine e_L 3 (f' := (107, [(5, .int z4), (0, .ref r0), (1, .int v1), (3, .int v3), (4, .int v4)], [.int (z4 >>> ((3 : Int32) &&& 31))])) rfl ?_
      exact e_rI rfl rfl
set_option maxRecDepth 100000 in
set_option maxHeartbeats 4000000 in
theorem le_X3_loadable (en : pN) (d : Nat) (t : Nat) (a1 : Int32) (a2 : Int32) (s : qS) : qle (gd (lc t = 3) (gd (s.2.2 t 7 ≠ 0 ∧ lc (s.2.2 t 7 - 1) = 5) (nm (s.2.2 t 7 - 1) (fun q2 => gd (p_inB ((4 : Int32) + a1) 236 = true) (gd (p_inB (s.1 (t + 1) ((4 : Int32) + a1).toNatClampNeg) 100 = true) (nm (s.1 (q2 + 9) (s.1 (t + 1) ((4 : Int32) + a1).toNatClampNeg).toNatClampNeg) (fun z5 => if ¬ (s.1 t 8) = (2 : Int32) then L_X3_loadable_60 en d t a1 z5 s else gd (s.2.2 t 7 ≠ 0 ∧ lc (s.2.2 t 7 - 1) = 5) (nm (s.2.2 t 7 - 1) (fun q8 => bI (qev en d 94 [.ref q8, .int z5] s) (fun w9 s10 => if ¬ w9 = (0 : Int32) then L_X3_loadable_60 en d t a1 z5 s10 else bI (qev en d 70 [.ref t, .int a1, .int z5] s10) (fun w13 s14 => gd (p_inB ((((80 : Int32) + (z5 * (9 : Int32))) + w13) + a2) 236 = true) (some (some (.int (s14.1 (t + 1) ((((80 : Int32) + (z5 * (9 : Int32))) + w13) + a2).toNatClampNeg)), s14))))))))))))) (qev en (d + 1) 66 [.ref t, .int a1, .int a2] s) := by
  refine e_enter ix_X3_loadable (Nat.le_of_ble_eq_true rfl) ?_
  show qle _ (qE (qev en d) en (some .int) tb_X3_loadable (0, [(0, .ref t), (1, .int a1), (2, .int a2)], []) s)
  refine qle_gd fun ht => ?_
  refine e_L 1 (f' := (1, [(0, .ref t), (1, .int a1), (2, .int a2)], [.ref t])) rfl ?_
  refine qle_gd fun h1 => ?_
  refine e_gM 3 7 rfl rfl ht h1.1 ?_
  refine e_nR (ci := 5) h1.2 fun q2 h_q2 => ?_
  refine e_gR (q := (q2 + 6)) 5 6 rfl rfl h_q2 (fo_5_6 h_q2) ?_
  refine e_L 1 (f' := (8, [(0, .ref t), (1, .int a1), (2, .int a2)], [.int (2 : Int32), .ref (q2 + 6)])) rfl ?_
  refine e_aal (n := 18) (q := (q2 + 9)) rfl (fc_5_6 h_q2) (fl_5_6 h_q2) (by decide +kernel) (pe_2 h_q2) ?_
  refine e_L 1 (f' := (10, [(0, .ref t), (1, .int a1), (2, .int a2)], [.ref t, .ref (q2 + 9)])) rfl ?_
  refine e_gR (q := (t + 1)) 3 0 rfl rfl ht (fo_3_0 ht) ?_
  refine e_L 3 (f' := (16, [(0, .ref t), (1, .int a1), (2, .int a2)], [.int ((4 : Int32) + a1), .ref (t + 1), .ref (q2 + 9)])) rfl ?_
  refine qle_gd fun h3 => ?_
  refine e_ial (n := 236) (k := ((4 : Int32) + a1).toNatClampNeg) rfl (fc_3_0 ht) (fl_3_0 ht) h3 rfl ?_
  refine qle_gd fun h4 => ?_
  refine e_ial (n := 100) (k := (s.1 (t + 1) ((4 : Int32) + a1).toNatClampNeg).toNatClampNeg) rfl (pe_c_2 h_q2) (pe_l_2 h_q2) h4 rfl ?_
  refine e_nI fun z5 => ?_
  refine e_L 2 (f' := (20, [(3, .int z5), (0, .ref t), (1, .int a1), (2, .int a2)], [.ref t])) rfl ?_
  refine e_gI 3 8 rfl rfl ht ?_
  refine e_L 1 (f' := (24, [(3, .int z5), (0, .ref t), (1, .int a1), (2, .int a2)], [.int (2 : Int32), .int (s.1 t 8)])) rfl ?_
  refine e_icmp 60 rfl rfl rfl (fun c6 => ?_) (fun c6 => ?_)
  · exact qE_sub (qsubL [1, 2, 0] rfl (ks := [3, 0, 1, 2]) rfl (by decide))
  · refine e_L 1 (f' := (28, [(3, .int z5), (0, .ref t), (1, .int a1), (2, .int a2)], [.ref t])) rfl ?_
    refine qle_gd fun h7 => ?_
    refine e_gM 3 7 rfl rfl ht h7.1 ?_
    refine e_nR (ci := 5) h7.2 fun q8 h_q8 => ?_
    refine e_L 1 (f' := (32, [(3, .int z5), (0, .ref t), (1, .int a1), (2, .int a2)], [.int z5, .ref q8])) rfl ?_
    refine e_vI 94 rfl rfl ix_X5_isVolatile rfl (q_recvOf h_q8 rfl) (Nat.le_of_ble_eq_true rfl) (fun w9 s10 e11 => ?_)
    refine e_ifz 60 rfl rfl rfl (fun c12 => ?_) (fun c12 => ?_)
    · exact qE_sub (qsubL [1, 2, 0] rfl (ks := [3, 0, 1, 2]) rfl (by decide))
    · refine e_L 1 (f' := (39, [(3, .int z5), (0, .ref t), (1, .int a1), (2, .int a2)], [.ref t])) rfl ?_
      refine e_gR (q := (t + 1)) 3 0 rfl rfl ht (fo_3_0 ht) ?_
      refine e_L 8 (f' := (52, [(3, .int z5), (0, .ref t), (1, .int a1), (2, .int a2)], [.int z5, .int a1, .ref t, .int ((80 : Int32) + (z5 * (9 : Int32))), .ref (t + 1)])) rfl ?_
      refine e_vI 70 rfl rfl ix_X3_viewed rfl (q_recvOf ht rfl) (Nat.le_of_ble_eq_true rfl) (fun w13 s14 e15 => ?_)
      refine e_L 3 (f' := (58, [(3, .int z5), (0, .ref t), (1, .int a1), (2, .int a2)], [.int ((((80 : Int32) + (z5 * (9 : Int32))) + w13) + a2), .ref (t + 1)])) rfl ?_
      refine qle_gd fun h16 => ?_
      refine e_ial (n := 236) (k := ((((80 : Int32) + (z5 * (9 : Int32))) + w13) + a2).toNatClampNeg) rfl (fc_3_0 ht) (fl_3_0 ht) h16 rfl ?_
      exact e_rI rfl rfl
noncomputable def L_X3_store_61 (en : pN) (d : Nat) (r0 : Nat) (v1 : Int32) (v2 : Int32) (v3 : Int32) (s : qS) : Option qR := qE (qev en d) en none tb_X3_store (61, [(0, .ref r0), (1, .int v1), (2, .int v2), (3, .int v3)], []) s
set_option maxRecDepth 100000 in
set_option maxHeartbeats 4000000 in
theorem le_X3_store_61 (en : pN) (d : Nat) (r0 : Nat) (v1 : Int32) (v2 : Int32) (v3 : Int32) (s : qS) : qle (gd (lc r0 = 3) (gd (s.2.2 r0 7 ≠ 0 ∧ lc (s.2.2 r0 7 - 1) = 5) (nm (s.2.2 r0 7 - 1) (fun q2 => bI (qev en d 94 [.ref q2, .int v2] s) (fun w3 s4 => bV (qev en d 69 [.ref r0, .int v1, .int v2, .int v3, .int w3] s4) (fun s7 => some (none, s7))))))) (L_X3_store_61 en d r0 v1 v2 v3 s) := by
  show qle _ (qE (qev en d) en none tb_X3_store (61, [(0, .ref r0), (1, .int v1), (2, .int v2), (3, .int v3)], []) s)
  refine qle_gd fun h_r0 => ?_
  refine e_L 5 (f' := (66, [(0, .ref r0), (1, .int v1), (2, .int v2), (3, .int v3)], [.ref r0, .int v3, .int v2, .int v1, .ref r0])) rfl ?_
  refine qle_gd fun h1 => ?_
  refine e_gM 3 7 rfl rfl h_r0 h1.1 ?_
  refine e_nR (ci := 5) h1.2 fun q2 h_q2 => ?_
  refine e_L 1 (f' := (70, [(0, .ref r0), (1, .int v1), (2, .int v2), (3, .int v3)], [.int v2, .ref q2, .int v3, .int v2, .int v1, .ref r0])) rfl ?_
  refine e_vI 94 rfl rfl ix_X5_isVolatile rfl (q_recvOf h_q2 rfl) (Nat.le_of_ble_eq_true rfl) (fun w3 s4 e5 => ?_)
  refine e_vV 69 rfl rfl ix_X3_write rfl (q_recvOf h_r0 rfl) (Nat.le_of_ble_eq_true rfl) (fun s7 e8 => ?_)
  exact e_rV rfl rfl
set_option maxRecDepth 100000 in
set_option maxHeartbeats 4000000 in
theorem le_X3_store (en : pN) (d : Nat) (t : Nat) (a1 : Int32) (a2 : Int32) (a3 : Int32) (s : qS) : qle (gd (lc t = 3) (if ¬ (s.1 t 8) = (1 : Int32) then L_X3_store_61 en d t a1 a2 a3 s else gd (s.2.2 t 7 ≠ 0 ∧ lc (s.2.2 t 7 - 1) = 5) (nm (s.2.2 t 7 - 1) (fun q3 => bI (qev en d 94 [.ref q3, .int a2] s) (fun w4 s5 => if ¬ w4 = (0 : Int32) then L_X3_store_61 en d t a1 a2 a3 s5 else gd (p_inB ((56 : Int32) + a1) 236 = true) (gd (p_inB (((60 : Int32) + (a1 * (3 : Int32))) + (s5.1 (t + 1) ((56 : Int32) + a1).toNatClampNeg)) 236 = true) (nm (uI s5 (t + 1) ((((60 : Int32) + (a1 * (3 : Int32))) + (s5.1 (t + 1) ((56 : Int32) + a1).toNatClampNeg)).toNatClampNeg) ((a3 <<< ((3 : Int32) &&& 31)) ||| a2)) (fun s10 => nm (uI s10 (t + 1) (((56 : Int32) + a1).toNatClampNeg) ((s10.1 (t + 1) ((56 : Int32) + a1).toNatClampNeg) + (1 : Int32))) (fun s11 => some (none, s11)))))))))) (qev en (d + 1) 67 [.ref t, .int a1, .int a2, .int a3] s) := by
  refine e_enter ix_X3_store (Nat.le_of_ble_eq_true rfl) ?_
  show qle _ (qE (qev en d) en none tb_X3_store (0, [(0, .ref t), (1, .int a1), (2, .int a2), (3, .int a3)], []) s)
  refine qle_gd fun ht => ?_
  refine e_L 1 (f' := (1, [(0, .ref t), (1, .int a1), (2, .int a2), (3, .int a3)], [.ref t])) rfl ?_
  refine e_gI 3 8 rfl rfl ht ?_
  refine e_L 1 (f' := (5, [(0, .ref t), (1, .int a1), (2, .int a2), (3, .int a3)], [.int (1 : Int32), .int (s.1 t 8)])) rfl ?_
  refine e_icmp 61 rfl rfl rfl (fun c1 => ?_) (fun c1 => ?_)
  · exact qE_sub (qsubL [0, 1, 2, 3] rfl (ks := [0, 1, 2, 3]) rfl (by decide))
  · refine e_L 1 (f' := (9, [(0, .ref t), (1, .int a1), (2, .int a2), (3, .int a3)], [.ref t])) rfl ?_
    refine qle_gd fun h2 => ?_
    refine e_gM 3 7 rfl rfl ht h2.1 ?_
    refine e_nR (ci := 5) h2.2 fun q3 h_q3 => ?_
    refine e_L 1 (f' := (13, [(0, .ref t), (1, .int a1), (2, .int a2), (3, .int a3)], [.int a2, .ref q3])) rfl ?_
    refine e_vI 94 rfl rfl ix_X5_isVolatile rfl (q_recvOf h_q3 rfl) (Nat.le_of_ble_eq_true rfl) (fun w4 s5 e6 => ?_)
    refine e_ifz 61 rfl rfl rfl (fun c7 => ?_) (fun c7 => ?_)
    · exact qE_sub (qsubL [0, 1, 2, 3] rfl (ks := [0, 1, 2, 3]) rfl (by decide))
    · refine e_L 1 (f' := (20, [(0, .ref t), (1, .int a1), (2, .int a2), (3, .int a3)], [.ref t])) rfl ?_
      refine e_gR (q := (t + 1)) 3 0 rfl rfl ht (fo_3_0 ht) ?_
      refine e_L 6 (f' := (30, [(0, .ref t), (1, .int a1), (2, .int a2), (3, .int a3)], [.ref t, .int ((60 : Int32) + (a1 * (3 : Int32))), .ref (t + 1)])) rfl ?_
      refine e_gR (q := (t + 1)) 3 0 rfl rfl ht (fo_3_0 ht) ?_
      refine e_L 3 (f' := (37, [(0, .ref t), (1, .int a1), (2, .int a2), (3, .int a3)], [.int ((56 : Int32) + a1), .ref (t + 1), .int ((60 : Int32) + (a1 * (3 : Int32))), .ref (t + 1)])) rfl ?_
      refine qle_gd fun h8 => ?_
      refine e_ial (n := 236) (k := ((56 : Int32) + a1).toNatClampNeg) rfl (fc_3_0 ht) (fl_3_0 ht) h8 rfl ?_
      refine e_L 6 (f' := (44, [(0, .ref t), (1, .int a1), (2, .int a2), (3, .int a3)], [.int ((a3 <<< ((3 : Int32) &&& 31)) ||| a2), .int (((60 : Int32) + (a1 * (3 : Int32))) + (s5.1 (t + 1) ((56 : Int32) + a1).toNatClampNeg)), .ref (t + 1)])) rfl ?_
      refine qle_gd fun h9 => ?_
      refine e_ias (n := 236) (k := (((60 : Int32) + (a1 * (3 : Int32))) + (s5.1 (t + 1) ((56 : Int32) + a1).toNatClampNeg)).toNatClampNeg) rfl (fc_3_0 ht) (fl_3_0 ht) h9 rfl ?_
      refine e_nS fun s10 => ?_
      refine e_L 1 (f' := (46, [(0, .ref t), (1, .int a1), (2, .int a2), (3, .int a3)], [.ref t])) rfl ?_
      refine e_gR (q := (t + 1)) 3 0 rfl rfl ht (fo_3_0 ht) ?_
      refine e_L 4 (f' := (54, [(0, .ref t), (1, .int a1), (2, .int a2), (3, .int a3)], [.int ((56 : Int32) + a1), .ref (t + 1), .int ((56 : Int32) + a1), .ref (t + 1)])) rfl ?_
      refine e_ial (n := 236) (k := ((56 : Int32) + a1).toNatClampNeg) rfl (fc_3_0 ht) (fl_3_0 ht) h8 rfl ?_
      refine e_L 2 (f' := (57, [(0, .ref t), (1, .int a1), (2, .int a2), (3, .int a3)], [.int ((s10.1 (t + 1) ((56 : Int32) + a1).toNatClampNeg) + (1 : Int32)), .int ((56 : Int32) + a1), .ref (t + 1)])) rfl ?_
      refine e_ias (n := 236) (k := ((56 : Int32) + a1).toNatClampNeg) rfl (fc_3_0 ht) (fl_3_0 ht) h8 rfl ?_
      refine e_nS fun s11 => ?_
      refine e_L 1 (f' := (76, [(0, .ref t), (1, .int a1), (2, .int a2), (3, .int a3)], [])) rfl ?_
      exact e_rV rfl rfl
noncomputable def L_X3_flush_34 (en : pN) (d : Nat) (r0 : Nat) (v1 : Int32) (v2 : Int32) (v3 : Int32) (s : qS) : Option qR := qE (qev en d) en none tb_X3_flush (34, [(0, .ref r0), (1, .int v1), (2, .int v2), (3, .int v3)], []) s
set_option maxRecDepth 100000 in
set_option maxHeartbeats 4000000 in
theorem le_X3_flush_34 (en : pN) (d : Nat) (r0 : Nat) (v1 : Int32) (v2 : Int32) (v3 : Int32) (s : qS) : qle (gd (lc r0 = 3) (if (3 : Int32) ≤ v3 then gd (p_inB ((v2 + (3 : Int32)) - (1 : Int32)) 236 = true) (nm (uI s (r0 + 1) (((v2 + (3 : Int32)) - (1 : Int32)).toNatClampNeg) (0 : Int32)) (fun s3 => gd (p_inB ((56 : Int32) + v1) 236 = true) (nm (uI s3 (r0 + 1) (((56 : Int32) + v1).toNatClampNeg) ((s3.1 (r0 + 1) ((56 : Int32) + v1).toNatClampNeg) - (1 : Int32))) (fun s5 => some (none, s5))))) else gd (p_inB (v2 + v3) 236 = true) (gd (p_inB ((v2 + v3) - (1 : Int32)) 236 = true) (nm (uI s (r0 + 1) (((v2 + v3) - (1 : Int32)).toNatClampNeg) (s.1 (r0 + 1) (v2 + v3).toNatClampNeg)) (fun s8 => L_X3_flush_34 en d r0 v1 v2 (v3 + (1 : Int32)) s8))))) (L_X3_flush_34 en d r0 v1 v2 v3 s) := by
  show qle _ (qE (qev en d) en none tb_X3_flush (34, [(0, .ref r0), (1, .int v1), (2, .int v2), (3, .int v3)], []) s)
  refine qle_gd fun h_r0 => ?_
  refine e_L 2 (f' := (36, [(0, .ref r0), (1, .int v1), (2, .int v2), (3, .int v3)], [.int (3 : Int32), .int v3])) rfl ?_
  refine e_icmp 63 rfl rfl rfl (fun c1 => ?_) (fun c1 => ?_)
  · refine e_L 1 (f' := (64, [(0, .ref r0), (1, .int v1), (2, .int v2), (3, .int v3)], [.ref r0])) rfl ?_
    refine e_gR (q := (r0 + 1)) 3 0 rfl rfl h_r0 (fo_3_0 h_r0) ?_
    refine e_L 6 (f' := (73, [(0, .ref r0), (1, .int v1), (2, .int v2), (3, .int v3)], [.int (0 : Int32), .int ((v2 + (3 : Int32)) - (1 : Int32)), .ref (r0 + 1)])) rfl ?_
    refine qle_gd fun h2 => ?_
    refine e_ias (n := 236) (k := ((v2 + (3 : Int32)) - (1 : Int32)).toNatClampNeg) rfl (fc_3_0 h_r0) (fl_3_0 h_r0) h2 rfl ?_
    refine e_nS fun s3 => ?_
    refine e_L 1 (f' := (75, [(0, .ref r0), (1, .int v1), (2, .int v2), (3, .int v3)], [.ref r0])) rfl ?_
    refine e_gR (q := (r0 + 1)) 3 0 rfl rfl h_r0 (fo_3_0 h_r0) ?_
    refine e_L 4 (f' := (83, [(0, .ref r0), (1, .int v1), (2, .int v2), (3, .int v3)], [.int ((56 : Int32) + v1), .ref (r0 + 1), .int ((56 : Int32) + v1), .ref (r0 + 1)])) rfl ?_
    refine qle_gd fun h4 => ?_
    refine e_ial (n := 236) (k := ((56 : Int32) + v1).toNatClampNeg) rfl (fc_3_0 h_r0) (fl_3_0 h_r0) h4 rfl ?_
    refine e_L 2 (f' := (86, [(0, .ref r0), (1, .int v1), (2, .int v2), (3, .int v3)], [.int ((s3.1 (r0 + 1) ((56 : Int32) + v1).toNatClampNeg) - (1 : Int32)), .int ((56 : Int32) + v1), .ref (r0 + 1)])) rfl ?_
    refine e_ias (n := 236) (k := ((56 : Int32) + v1).toNatClampNeg) rfl (fc_3_0 h_r0) (fl_3_0 h_r0) h4 rfl ?_
    refine e_nS fun s5 => ?_
    exact e_rV rfl rfl
  · refine e_L 1 (f' := (40, [(0, .ref r0), (1, .int v1), (2, .int v2), (3, .int v3)], [.ref r0])) rfl ?_
    refine e_gR (q := (r0 + 1)) 3 0 rfl rfl h_r0 (fo_3_0 h_r0) ?_
    refine e_L 6 (f' := (49, [(0, .ref r0), (1, .int v1), (2, .int v2), (3, .int v3)], [.ref r0, .int ((v2 + v3) - (1 : Int32)), .ref (r0 + 1)])) rfl ?_
    refine e_gR (q := (r0 + 1)) 3 0 rfl rfl h_r0 (fo_3_0 h_r0) ?_
    refine e_L 3 (f' := (55, [(0, .ref r0), (1, .int v1), (2, .int v2), (3, .int v3)], [.int (v2 + v3), .ref (r0 + 1), .int ((v2 + v3) - (1 : Int32)), .ref (r0 + 1)])) rfl ?_
    refine qle_gd fun h6 => ?_
    refine e_ial (n := 236) (k := (v2 + v3).toNatClampNeg) rfl (fc_3_0 h_r0) (fl_3_0 h_r0) h6 rfl ?_
    refine qle_gd fun h7 => ?_
    refine e_ias (n := 236) (k := ((v2 + v3) - (1 : Int32)).toNatClampNeg) rfl (fc_3_0 h_r0) (fl_3_0 h_r0) h7 rfl ?_
    refine e_nS fun s8 => ?_
    refine e_L 2 (f' := (34, [(3, .int (v3 + (1 : Int32))), (0, .ref r0), (1, .int v1), (2, .int v2)], [])) rfl ?_
    exact qE_sub (qsubL [1, 2, 3, 0] rfl (ks := [3, 0, 1, 2]) rfl (by decide))
set_option maxRecDepth 100000 in
set_option maxHeartbeats 4000000 in
theorem le_X3_flush (en : pN) (d : Nat) (t : Nat) (a1 : Int32) (s : qS) : qle (gd (lc t = 3) (nm ((60 : Int32) + (a1 * (3 : Int32))) (fun z1 => gd (p_inB z1 236 = true) (gd (p_inB ((48 : Int32) + ((s.1 (t + 1) z1.toNatClampNeg) &&& (7 : Int32))) 236 = true) (nm (uI s (t + 1) (((48 : Int32) + ((s.1 (t + 1) z1.toNatClampNeg) &&& (7 : Int32))).toNatClampNeg) ((s.1 (t + 1) z1.toNatClampNeg) >>> ((3 : Int32) &&& 31))) (fun s4 => L_X3_flush_34 en d t a1 z1 (1 : Int32) s4)))))) (qev en (d + 1) 68 [.ref t, .int a1] s) := by
  refine e_enter ix_X3_flush (Nat.le_of_ble_eq_true rfl) ?_
  show qle _ (qE (qev en d) en none tb_X3_flush (0, [(0, .ref t), (1, .int a1)], []) s)
  refine qle_gd fun ht => ?_
  refine e_L 5 (f' := (6, [(0, .ref t), (1, .int a1)], [.int ((60 : Int32) + (a1 * (3 : Int32)))])) rfl ?_
  refine e_nI fun z1 => ?_
  refine e_L 2 (f' := (8, [(2, .int z1), (0, .ref t), (1, .int a1)], [.ref t])) rfl ?_
  refine e_gR (q := (t + 1)) 3 0 rfl rfl ht (fo_3_0 ht) ?_
  refine e_L 2 (f' := (14, [(2, .int z1), (0, .ref t), (1, .int a1)], [.ref t, .int (48 : Int32), .ref (t + 1)])) rfl ?_
  refine e_gR (q := (t + 1)) 3 0 rfl rfl ht (fo_3_0 ht) ?_
  refine e_L 1 (f' := (18, [(2, .int z1), (0, .ref t), (1, .int a1)], [.int z1, .ref (t + 1), .int (48 : Int32), .ref (t + 1)])) rfl ?_
  refine qle_gd fun h2 => ?_
  refine e_ial (n := 236) (k := z1.toNatClampNeg) rfl (fc_3_0 ht) (fl_3_0 ht) h2 rfl ?_
  refine e_L 4 (f' := (24, [(2, .int z1), (0, .ref t), (1, .int a1)], [.ref t, .int ((48 : Int32) + ((s.1 (t + 1) z1.toNatClampNeg) &&& (7 : Int32))), .ref (t + 1)])) rfl ?_
  refine e_gR (q := (t + 1)) 3 0 rfl rfl ht (fo_3_0 ht) ?_
  refine e_L 1 (f' := (28, [(2, .int z1), (0, .ref t), (1, .int a1)], [.int z1, .ref (t + 1), .int ((48 : Int32) + ((s.1 (t + 1) z1.toNatClampNeg) &&& (7 : Int32))), .ref (t + 1)])) rfl ?_
  refine e_ial (n := 236) (k := z1.toNatClampNeg) rfl (fc_3_0 ht) (fl_3_0 ht) h2 rfl ?_
  refine e_L 2 (f' := (31, [(2, .int z1), (0, .ref t), (1, .int a1)], [.int ((s.1 (t + 1) z1.toNatClampNeg) >>> ((3 : Int32) &&& 31)), .int ((48 : Int32) + ((s.1 (t + 1) z1.toNatClampNeg) &&& (7 : Int32))), .ref (t + 1)])) rfl ?_
  refine qle_gd fun h3 => ?_
  refine e_ias (n := 236) (k := ((48 : Int32) + ((s.1 (t + 1) z1.toNatClampNeg) &&& (7 : Int32))).toNatClampNeg) rfl (fc_3_0 ht) (fl_3_0 ht) h3 rfl ?_
  refine e_nS fun s4 => ?_
  refine e_L 2 (f' := (34, [(3, .int (1 : Int32)), (2, .int z1), (0, .ref t), (1, .int a1)], [])) rfl ?_
  exact qE_sub (qsubL [2, 3, 1, 0] rfl (ks := [3, 2, 0, 1]) rfl (by decide))
noncomputable def L_X3_write_100 (en : pN) (d : Nat) (rs0 : Nat) (vs1 : Int32) (vs2 : Int32) (s : qS) : Option qR := qE (qev en d) en none tb_X3_write (100, [], [.int vs2, .int vs1, .ref (rs0 + 1)]) s
set_option maxRecDepth 100000 in
set_option maxHeartbeats 4000000 in
theorem le_X3_write_100 (en : pN) (d : Nat) (rs0 : Nat) (vs1 : Int32) (vs2 : Int32) (s : qS) : qle (gd (lc rs0 = 3) (gd (p_inB vs1 236 = true) (nm (uI s (rs0 + 1) (vs1.toNatClampNeg) vs2) (fun s2 => some (none, s2))))) (L_X3_write_100 en d rs0 vs1 vs2 s) := by
  show qle _ (qE (qev en d) en none tb_X3_write (100, [], [.int vs2, .int vs1, .ref (rs0 + 1)]) s)
  refine qle_gd fun h_rs0 => ?_
  refine qle_gd fun h1 => ?_
  refine e_ias (n := 236) (k := vs1.toNatClampNeg) rfl (fc_3_0 h_rs0) (fl_3_0 h_rs0) h1 rfl ?_
  refine e_nS fun s2 => ?_
  exact e_rV rfl rfl
set_option maxRecDepth 100000 in
set_option maxHeartbeats 4000000 in
theorem le_X3_write (en : pN) (d : Nat) (t : Nat) (a1 : Int32) (a2 : Int32) (a3 : Int32) (a4 : Int32) (s : qS) : qle (gd (lc t = 3) (gd (p_inB ((48 : Int32) + a2) 236 = true) (nm (uI s (t + 1) (((48 : Int32) + a2).toNatClampNeg) a3) (fun s2 => if ¬ (s2.1 t 8) = (2 : Int32) then some (none, s2) else gd (p_inB ((72 : Int32) + a2) 236 = true) (nm (s2.1 (t + 1) ((72 : Int32) + a2).toNatClampNeg) (fun z5 => nm (uI s2 (t + 1) (((72 : Int32) + a2).toNatClampNeg) ((s2.1 (t + 1) ((72 : Int32) + a2).toNatClampNeg) + (1 : Int32))) (fun s6 => gd (p_inB (((80 : Int32) + (a2 * (9 : Int32))) + z5) 236 = true) (nm (uI s6 (t + 1) ((((80 : Int32) + (a2 * (9 : Int32))) + z5).toNatClampNeg) a3) (fun s8 => bV (qev en d 71 [.ref t, .int a1, .int a2, .int z5] s8) (fun s10 => if a4 = (0 : Int32) then L_X3_write_100 en d t (((152 : Int32) + (a2 * (9 : Int32))) + z5) (0 : Int32) s10 else gd (p_inB ((224 : Int32) + a1) 236 = true) (L_X3_write_100 en d t (((152 : Int32) + (a2 * (9 : Int32))) + z5) (s10.1 (t + 1) ((224 : Int32) + a1).toNatClampNeg) s10))))))))))) (qev en (d + 1) 69 [.ref t, .int a1, .int a2, .int a3, .int a4] s) := by
  refine e_enter ix_X3_write (Nat.le_of_ble_eq_true rfl) ?_
  show qle _ (qE (qev en d) en none tb_X3_write (0, [(0, .ref t), (1, .int a1), (2, .int a2), (3, .int a3), (4, .int a4)], []) s)
  refine qle_gd fun ht => ?_
  refine e_L 1 (f' := (1, [(0, .ref t), (1, .int a1), (2, .int a2), (3, .int a3), (4, .int a4)], [.ref t])) rfl ?_
  refine e_gR (q := (t + 1)) 3 0 rfl rfl ht (fo_3_0 ht) ?_
  refine e_L 4 (f' := (9, [(0, .ref t), (1, .int a1), (2, .int a2), (3, .int a3), (4, .int a4)], [.int a3, .int ((48 : Int32) + a2), .ref (t + 1)])) rfl ?_
  refine qle_gd fun h1 => ?_
  refine e_ias (n := 236) (k := ((48 : Int32) + a2).toNatClampNeg) rfl (fc_3_0 ht) (fl_3_0 ht) h1 rfl ?_
  refine e_nS fun s2 => ?_
  refine e_L 1 (f' := (11, [(0, .ref t), (1, .int a1), (2, .int a2), (3, .int a3), (4, .int a4)], [.ref t])) rfl ?_
  refine e_gI 3 8 rfl rfl ht ?_
  refine e_L 1 (f' := (15, [(0, .ref t), (1, .int a1), (2, .int a2), (3, .int a3), (4, .int a4)], [.int (2 : Int32), .int (s2.1 t 8)])) rfl ?_
  refine e_icmp 101 rfl rfl rfl (fun c3 => ?_) (fun c3 => ?_)
  · exact e_rV rfl rfl
  · refine e_L 1 (f' := (19, [(0, .ref t), (1, .int a1), (2, .int a2), (3, .int a3), (4, .int a4)], [.ref t])) rfl ?_
    refine e_gR (q := (t + 1)) 3 0 rfl rfl ht (fo_3_0 ht) ?_
    refine e_L 3 (f' := (26, [(0, .ref t), (1, .int a1), (2, .int a2), (3, .int a3), (4, .int a4)], [.int ((72 : Int32) + a2), .ref (t + 1)])) rfl ?_
    refine qle_gd fun h4 => ?_
    refine e_ial (n := 236) (k := ((72 : Int32) + a2).toNatClampNeg) rfl (fc_3_0 ht) (fl_3_0 ht) h4 rfl ?_
    refine e_nI fun z5 => ?_
    refine e_L 2 (f' := (30, [(5, .int z5), (0, .ref t), (1, .int a1), (2, .int a2), (3, .int a3), (4, .int a4)], [.ref t])) rfl ?_
    refine e_gR (q := (t + 1)) 3 0 rfl rfl ht (fo_3_0 ht) ?_
    refine e_L 4 (f' := (38, [(5, .int z5), (0, .ref t), (1, .int a1), (2, .int a2), (3, .int a3), (4, .int a4)], [.int ((72 : Int32) + a2), .ref (t + 1), .int ((72 : Int32) + a2), .ref (t + 1)])) rfl ?_
    refine e_ial (n := 236) (k := ((72 : Int32) + a2).toNatClampNeg) rfl (fc_3_0 ht) (fl_3_0 ht) h4 rfl ?_
    refine e_L 2 (f' := (41, [(5, .int z5), (0, .ref t), (1, .int a1), (2, .int a2), (3, .int a3), (4, .int a4)], [.int ((s2.1 (t + 1) ((72 : Int32) + a2).toNatClampNeg) + (1 : Int32)), .int ((72 : Int32) + a2), .ref (t + 1)])) rfl ?_
    refine e_ias (n := 236) (k := ((72 : Int32) + a2).toNatClampNeg) rfl (fc_3_0 ht) (fl_3_0 ht) h4 rfl ?_
    refine e_nS fun s6 => ?_
    refine e_L 1 (f' := (43, [(5, .int z5), (0, .ref t), (1, .int a1), (2, .int a2), (3, .int a3), (4, .int a4)], [.ref t])) rfl ?_
    refine e_gR (q := (t + 1)) 3 0 rfl rfl ht (fo_3_0 ht) ?_
    refine e_L 8 (f' := (57, [(5, .int z5), (0, .ref t), (1, .int a1), (2, .int a2), (3, .int a3), (4, .int a4)], [.int a3, .int (((80 : Int32) + (a2 * (9 : Int32))) + z5), .ref (t + 1)])) rfl ?_
    refine qle_gd fun h7 => ?_
    refine e_ias (n := 236) (k := (((80 : Int32) + (a2 * (9 : Int32))) + z5).toNatClampNeg) rfl (fc_3_0 ht) (fl_3_0 ht) h7 rfl ?_
    refine e_nS fun s8 => ?_
    refine e_L 4 (f' := (63, [(5, .int z5), (0, .ref t), (1, .int a1), (2, .int a2), (3, .int a3), (4, .int a4)], [.int z5, .int a2, .int a1, .ref t])) rfl ?_
    refine e_vV 71 rfl rfl ix_X3_view rfl (q_recvOf ht rfl) (Nat.le_of_ble_eq_true rfl) (fun s10 e11 => ?_)
    refine e_L 1 (f' := (67, [(5, .int z5), (0, .ref t), (1, .int a1), (2, .int a2), (3, .int a3), (4, .int a4)], [.ref t])) rfl ?_
    refine e_gR (q := (t + 1)) 3 0 rfl rfl ht (fo_3_0 ht) ?_
    refine e_L 8 (f' := (83, [(5, .int z5), (0, .ref t), (1, .int a1), (2, .int a2), (3, .int a3), (4, .int a4)], [.int a4, .int (((152 : Int32) + (a2 * (9 : Int32))) + z5), .ref (t + 1)])) rfl ?_
    refine e_ifz 99 rfl rfl rfl (fun c12 => ?_) (fun c12 => ?_)
    · refine e_L 1 (f' := (100, [(5, .int z5), (0, .ref t), (1, .int a1), (2, .int a2), (3, .int a3), (4, .int a4)], [.int (0 : Int32), .int (((152 : Int32) + (a2 * (9 : Int32))) + z5), .ref (t + 1)])) rfl ?_
      exact qE_sub (qsubL [] rfl (ks := [5, 0, 1, 2, 3, 4]) rfl (by decide))
    · refine e_L 1 (f' := (87, [(5, .int z5), (0, .ref t), (1, .int a1), (2, .int a2), (3, .int a3), (4, .int a4)], [.ref t, .int (((152 : Int32) + (a2 * (9 : Int32))) + z5), .ref (t + 1)])) rfl ?_
      refine e_gR (q := (t + 1)) 3 0 rfl rfl ht (fo_3_0 ht) ?_
      refine e_L 3 (f' := (95, [(5, .int z5), (0, .ref t), (1, .int a1), (2, .int a2), (3, .int a3), (4, .int a4)], [.int ((224 : Int32) + a1), .ref (t + 1), .int (((152 : Int32) + (a2 * (9 : Int32))) + z5), .ref (t + 1)])) rfl ?_
      refine qle_gd fun h13 => ?_
      refine e_ial (n := 236) (k := ((224 : Int32) + a1).toNatClampNeg) rfl (fc_3_0 ht) (fl_3_0 ht) h13 rfl ?_
      refine e_L 1 (f' := (100, [(5, .int z5), (0, .ref t), (1, .int a1), (2, .int a2), (3, .int a3), (4, .int a4)], [.int (s10.1 (t + 1) ((224 : Int32) + a1).toNatClampNeg), .int (((152 : Int32) + (a2 * (9 : Int32))) + z5), .ref (t + 1)])) rfl ?_
      exact qE_sub (qsubL [] rfl (ks := [5, 0, 1, 2, 3, 4]) rfl (by decide))
set_option maxRecDepth 100000 in
set_option maxHeartbeats 4000000 in
theorem le_X3_viewed (en : pN) (d : Nat) (t : Nat) (a1 : Int32) (a2 : Int32) (s : qS) : qle (gd (lc t = 3) (gd (p_inB ((224 : Int32) + a1) 236 = true) (some (some (.int (((s.1 (t + 1) ((224 : Int32) + a1).toNatClampNeg).toUInt32 >>> (((4 : Int32) * a2).toUInt32 &&& Int32.toUInt32 31)).toInt32 &&& (15 : Int32))), s)))) (qev en (d + 1) 70 [.ref t, .int a1, .int a2] s) := by
  refine e_enter ix_X3_viewed (Nat.le_of_ble_eq_true rfl) ?_
  show qle _ (qE (qev en d) en (some .int) tb_X3_viewed (0, [(0, .ref t), (1, .int a1), (2, .int a2)], []) s)
  refine qle_gd fun ht => ?_
  refine e_L 1 (f' := (1, [(0, .ref t), (1, .int a1), (2, .int a2)], [.ref t])) rfl ?_
  refine e_gR (q := (t + 1)) 3 0 rfl rfl ht (fo_3_0 ht) ?_
  refine e_L 3 (f' := (9, [(0, .ref t), (1, .int a1), (2, .int a2)], [.int ((224 : Int32) + a1), .ref (t + 1)])) rfl ?_
  refine qle_gd fun h1 => ?_
  refine e_ial (n := 236) (k := ((224 : Int32) + a1).toNatClampNeg) rfl (fc_3_0 ht) (fl_3_0 ht) h1 rfl ?_
  refine e_L 6 (f' := (17, [(0, .ref t), (1, .int a1), (2, .int a2)], [.int (((s.1 (t + 1) ((224 : Int32) + a1).toNatClampNeg).toUInt32 >>> (((4 : Int32) * a2).toUInt32 &&& Int32.toUInt32 31)).toInt32 &&& (15 : Int32))])) rfl ?_
  exact e_rI rfl rfl
set_option maxRecDepth 100000 in
set_option maxHeartbeats 4000000 in
theorem le_X3_view (en : pN) (d : Nat) (t : Nat) (a1 : Int32) (a2 : Int32) (a3 : Int32) (s : qS) : qle (gd (lc t = 3) (gd (p_inB ((224 : Int32) + a1) 236 = true) (nm (uI s (t + 1) (((224 : Int32) + a1).toNatClampNeg) (((s.1 (t + 1) ((224 : Int32) + a1).toNatClampNeg) &&& (((15 : Int32) <<< (((4 : Int32) * a2) &&& 31)) ^^^ (-1 : Int32))) ||| (a3 <<< (((4 : Int32) * a2) &&& 31)))) (fun s2 => some (none, s2))))) (qev en (d + 1) 71 [.ref t, .int a1, .int a2, .int a3] s) := by
  refine e_enter ix_X3_view (Nat.le_of_ble_eq_true rfl) ?_
  show qle _ (qE (qev en d) en none tb_X3_view (0, [(0, .ref t), (1, .int a1), (2, .int a2), (3, .int a3)], []) s)
  refine qle_gd fun ht => ?_
  refine e_L 1 (f' := (1, [(0, .ref t), (1, .int a1), (2, .int a2), (3, .int a3)], [.ref t])) rfl ?_
  refine e_gR (q := (t + 1)) 3 0 rfl rfl ht (fo_3_0 ht) ?_
  refine e_L 4 (f' := (10, [(0, .ref t), (1, .int a1), (2, .int a2), (3, .int a3)], [.ref t, .int ((224 : Int32) + a1), .ref (t + 1)])) rfl ?_
  refine e_gR (q := (t + 1)) 3 0 rfl rfl ht (fo_3_0 ht) ?_
  refine e_L 3 (f' := (18, [(0, .ref t), (1, .int a1), (2, .int a2), (3, .int a3)], [.int ((224 : Int32) + a1), .ref (t + 1), .int ((224 : Int32) + a1), .ref (t + 1)])) rfl ?_
  refine qle_gd fun h1 => ?_
  refine e_ial (n := 236) (k := ((224 : Int32) + a1).toNatClampNeg) rfl (fc_3_0 ht) (fl_3_0 ht) h1 rfl ?_
  refine e_L 14 (f' := (34, [(0, .ref t), (1, .int a1), (2, .int a2), (3, .int a3)], [.int (((s.1 (t + 1) ((224 : Int32) + a1).toNatClampNeg) &&& (((15 : Int32) <<< (((4 : Int32) * a2) &&& 31)) ^^^ (-1 : Int32))) ||| (a3 <<< (((4 : Int32) * a2) &&& 31))), .int ((224 : Int32) + a1), .ref (t + 1)])) rfl ?_
  refine e_ias (n := 236) (k := ((224 : Int32) + a1).toNatClampNeg) rfl (fc_3_0 ht) (fl_3_0 ht) h1 rfl ?_
  refine e_nS fun s2 => ?_
  exact e_rV rfl rfl
set_option maxRecDepth 100000 in
set_option maxHeartbeats 4000000 in
theorem le_X3_look (en : pN) (d : Nat) (t : Nat) (a1 : Int32) (a2 : Int32) (a3 : Int32) (s : qS) : qle (gd (lc t = 3) (if (s.1 t 8) = (2 : Int32) then gd (s.2.2 t 7 ≠ 0 ∧ lc (s.2.2 t 7 - 1) = 5) (nm (s.2.2 t 7 - 1) (fun q3 => bI (qev en d 94 [.ref q3, .int a2] s) (fun w4 s5 => if w4 = (0 : Int32) then bI (qev en d 70 [.ref t, .int a1, .int a2] s5) (fun w8 s9 => bV (qev en d 71 [.ref t, .int a1, .int a2, .int (w8 + a3)] s9) (fun s12 => some (none, s12))) else gd (p_inB ((72 : Int32) + a2) 236 = true) (gd (p_inB ((((152 : Int32) + (a2 * (9 : Int32))) + (s5.1 (t + 1) ((72 : Int32) + a2).toNatClampNeg)) - (1 : Int32)) 236 = true) (bV (qev en d 74 [.ref t, .int a1, .int (s5.1 (t + 1) ((((152 : Int32) + (a2 * (9 : Int32))) + (s5.1 (t + 1) ((72 : Int32) + a2).toNatClampNeg)) - (1 : Int32)).toNatClampNeg)] s5) (fun s17 => some (none, s17))))))) else some (none, s))) (qev en (d + 1) 72 [.ref t, .int a1, .int a2, .int a3] s) := by
  refine e_enter ix_X3_look (Nat.le_of_ble_eq_true rfl) ?_
  show qle _ (qE (qev en d) en none tb_X3_look (0, [(0, .ref t), (1, .int a1), (2, .int a2), (3, .int a3)], []) s)
  refine qle_gd fun ht => ?_
  refine e_L 1 (f' := (1, [(0, .ref t), (1, .int a1), (2, .int a2), (3, .int a3)], [.ref t])) rfl ?_
  refine e_gI 3 8 rfl rfl ht ?_
  refine e_L 1 (f' := (5, [(0, .ref t), (1, .int a1), (2, .int a2), (3, .int a3)], [.int (2 : Int32), .int (s.1 t 8)])) rfl ?_
  refine e_icmp 9 rfl rfl rfl (fun c1 => ?_) (fun c1 => ?_)
  · refine e_L 1 (f' := (10, [(0, .ref t), (1, .int a1), (2, .int a2), (3, .int a3)], [.ref t])) rfl ?_
    refine qle_gd fun h2 => ?_
    refine e_gM 3 7 rfl rfl ht h2.1 ?_
    refine e_nR (ci := 5) h2.2 fun q3 h_q3 => ?_
    refine e_L 1 (f' := (14, [(0, .ref t), (1, .int a1), (2, .int a2), (3, .int a3)], [.int a2, .ref q3])) rfl ?_
    refine e_vI 94 rfl rfl ix_X5_isVolatile rfl (q_recvOf h_q3 rfl) (Nat.le_of_ble_eq_true rfl) (fun w4 s5 e6 => ?_)
    refine e_ifz 53 rfl rfl rfl (fun c7 => ?_) (fun c7 => ?_)
    · refine e_L 6 (f' := (59, [(0, .ref t), (1, .int a1), (2, .int a2), (3, .int a3)], [.int a2, .int a1, .ref t, .int a2, .int a1, .ref t])) rfl ?_
      refine e_vI 70 rfl rfl ix_X3_viewed rfl (q_recvOf ht rfl) (Nat.le_of_ble_eq_true rfl) (fun w8 s9 e10 => ?_)
      refine e_L 2 (f' := (64, [(0, .ref t), (1, .int a1), (2, .int a2), (3, .int a3)], [.int (w8 + a3), .int a2, .int a1, .ref t])) rfl ?_
      refine e_vV 71 rfl rfl ix_X3_view rfl (q_recvOf ht rfl) (Nat.le_of_ble_eq_true rfl) (fun s12 e13 => ?_)
      exact e_rV rfl rfl
    · refine e_L 3 (f' := (23, [(0, .ref t), (1, .int a1), (2, .int a2), (3, .int a3)], [.ref t, .int a1, .ref t])) rfl ?_
      refine e_gR (q := (t + 1)) 3 0 rfl rfl ht (fo_3_0 ht) ?_
      refine e_L 6 (f' := (35, [(0, .ref t), (1, .int a1), (2, .int a2), (3, .int a3)], [.ref t, .int ((152 : Int32) + (a2 * (9 : Int32))), .ref (t + 1), .int a1, .ref t])) rfl ?_
      refine e_gR (q := (t + 1)) 3 0 rfl rfl ht (fo_3_0 ht) ?_
      refine e_L 3 (f' := (42, [(0, .ref t), (1, .int a1), (2, .int a2), (3, .int a3)], [.int ((72 : Int32) + a2), .ref (t + 1), .int ((152 : Int32) + (a2 * (9 : Int32))), .ref (t + 1), .int a1, .ref t])) rfl ?_
      refine qle_gd fun h14 => ?_
      refine e_ial (n := 236) (k := ((72 : Int32) + a2).toNatClampNeg) rfl (fc_3_0 ht) (fl_3_0 ht) h14 rfl ?_
      refine e_L 3 (f' := (46, [(0, .ref t), (1, .int a1), (2, .int a2), (3, .int a3)], [.int ((((152 : Int32) + (a2 * (9 : Int32))) + (s5.1 (t + 1) ((72 : Int32) + a2).toNatClampNeg)) - (1 : Int32)), .ref (t + 1), .int a1, .ref t])) rfl ?_
      refine qle_gd fun h15 => ?_
      refine e_ial (n := 236) (k := ((((152 : Int32) + (a2 * (9 : Int32))) + (s5.1 (t + 1) ((72 : Int32) + a2).toNatClampNeg)) - (1 : Int32)).toNatClampNeg) rfl (fc_3_0 ht) (fl_3_0 ht) h15 rfl ?_
      refine e_vV 74 rfl rfl ix_X3_learn rfl (q_recvOf ht rfl) (Nat.le_of_ble_eq_true rfl) (fun s17 e18 => ?_)
      refine e_L 1 (f' := (67, [(0, .ref t), (1, .int a1), (2, .int a2), (3, .int a3)], [])) rfl ?_
      exact e_rV rfl rfl
  · exact e_rV rfl rfl
set_option maxRecDepth 100000 in
set_option maxHeartbeats 4000000 in
theorem le_X3_lookAtLast (en : pN) (d : Nat) (t : Nat) (a1 : Int32) (a2 : Int32) (s : qS) : qle (gd (lc t = 3) (if ¬ (s.1 t 8) = (2 : Int32) then some (none, s) else gd (p_inB ((72 : Int32) + a2) 236 = true) (nm ((s.1 (t + 1) ((72 : Int32) + a2).toNatClampNeg) - (1 : Int32)) (fun z3 => bV (qev en d 71 [.ref t, .int a1, .int a2, .int z3] s) (fun s5 => gd (p_inB (((152 : Int32) + (a2 * (9 : Int32))) + z3) 236 = true) (bV (qev en d 74 [.ref t, .int a1, .int (s5.1 (t + 1) (((152 : Int32) + (a2 * (9 : Int32))) + z3).toNatClampNeg)] s5) (fun s9 => some (none, s9)))))))) (qev en (d + 1) 73 [.ref t, .int a1, .int a2] s) := by
  refine e_enter ix_X3_lookAtLast (Nat.le_of_ble_eq_true rfl) ?_
  show qle _ (qE (qev en d) en none tb_X3_lookAtLast (0, [(0, .ref t), (1, .int a1), (2, .int a2)], []) s)
  refine qle_gd fun ht => ?_
  refine e_L 1 (f' := (1, [(0, .ref t), (1, .int a1), (2, .int a2)], [.ref t])) rfl ?_
  refine e_gI 3 8 rfl rfl ht ?_
  refine e_L 1 (f' := (5, [(0, .ref t), (1, .int a1), (2, .int a2)], [.int (2 : Int32), .int (s.1 t 8)])) rfl ?_
  refine e_icmp 47 rfl rfl rfl (fun c1 => ?_) (fun c1 => ?_)
  · exact e_rV rfl rfl
  · refine e_L 1 (f' := (9, [(0, .ref t), (1, .int a1), (2, .int a2)], [.ref t])) rfl ?_
    refine e_gR (q := (t + 1)) 3 0 rfl rfl ht (fo_3_0 ht) ?_
    refine e_L 3 (f' := (16, [(0, .ref t), (1, .int a1), (2, .int a2)], [.int ((72 : Int32) + a2), .ref (t + 1)])) rfl ?_
    refine qle_gd fun h2 => ?_
    refine e_ial (n := 236) (k := ((72 : Int32) + a2).toNatClampNeg) rfl (fc_3_0 ht) (fl_3_0 ht) h2 rfl ?_
    refine e_L 2 (f' := (19, [(0, .ref t), (1, .int a1), (2, .int a2)], [.int ((s.1 (t + 1) ((72 : Int32) + a2).toNatClampNeg) - (1 : Int32))])) rfl ?_
    refine e_nI fun z3 => ?_
    refine e_L 5 (f' := (24, [(3, .int z3), (0, .ref t), (1, .int a1), (2, .int a2)], [.int z3, .int a2, .int a1, .ref t])) rfl ?_
    refine e_vV 71 rfl rfl ix_X3_view rfl (q_recvOf ht rfl) (Nat.le_of_ble_eq_true rfl) (fun s5 e6 => ?_)
    refine e_L 3 (f' := (30, [(3, .int z3), (0, .ref t), (1, .int a1), (2, .int a2)], [.ref t, .int a1, .ref t])) rfl ?_
    refine e_gR (q := (t + 1)) 3 0 rfl rfl ht (fo_3_0 ht) ?_
    refine e_L 7 (f' := (43, [(3, .int z3), (0, .ref t), (1, .int a1), (2, .int a2)], [.int (((152 : Int32) + (a2 * (9 : Int32))) + z3), .ref (t + 1), .int a1, .ref t])) rfl ?_
    refine qle_gd fun h7 => ?_
    refine e_ial (n := 236) (k := (((152 : Int32) + (a2 * (9 : Int32))) + z3).toNatClampNeg) rfl (fc_3_0 ht) (fl_3_0 ht) h7 rfl ?_
    refine e_vV 74 rfl rfl ix_X3_learn rfl (q_recvOf ht rfl) (Nat.le_of_ble_eq_true rfl) (fun s9 e10 => ?_)
    exact e_rV rfl rfl
noncomputable def L_X3_learn_17 (en : pN) (d : Nat) (r0 : Nat) (v1 : Int32) (v2 : Int32) (v3 : Int32) (v4 : Int32) (v5 : Int32) (s : qS) : Option qR := qE (qev en d) en none tb_X3_learn (17, [(0, .ref r0), (1, .int v1), (2, .int v2), (3, .int v3), (4, .int v4), (5, .int v5)], []) s
set_option maxRecDepth 100000 in
set_option maxHeartbeats 4000000 in
theorem le_X3_learn_17 (en : pN) (d : Nat) (r0 : Nat) (v1 : Int32) (v2 : Int32) (v3 : Int32) (v4 : Int32) (v5 : Int32) (s : qS) : qle (gd (lc r0 = 3) (if (32 : Int32) ≤ v5 then gd (p_inB ((224 : Int32) + v1) 236 = true) (nm (uI s (r0 + 1) (((224 : Int32) + v1).toNatClampNeg) v4) (fun s3 => some (none, s3))) else bI (qev en d 411 [.int ((v3.toUInt32 >>> (v5.toUInt32 &&& Int32.toUInt32 31)).toInt32 &&& (15 : Int32)), .int ((v2.toUInt32 >>> (v5.toUInt32 &&& Int32.toUInt32 31)).toInt32 &&& (15 : Int32))] s) (fun w4 s5 => nm (v4 ||| (w4 <<< (v5 &&& 31))) (fun z7 => L_X3_learn_17 en d r0 v1 v2 v3 z7 (v5 + (4 : Int32)) s5)))) (L_X3_learn_17 en d r0 v1 v2 v3 v4 v5 s) := by
  show qle _ (qE (qev en d) en none tb_X3_learn (17, [(0, .ref r0), (1, .int v1), (2, .int v2), (3, .int v3), (4, .int v4), (5, .int v5)], []) s)
  refine qle_gd fun h_r0 => ?_
  refine e_L 2 (f' := (21, [(0, .ref r0), (1, .int v1), (2, .int v2), (3, .int v3), (4, .int v4), (5, .int v5)], [.int (32 : Int32), .int v5])) rfl ?_
  refine e_icmp 55 rfl rfl rfl (fun c1 => ?_) (fun c1 => ?_)
  · refine e_L 1 (f' := (56, [(0, .ref r0), (1, .int v1), (2, .int v2), (3, .int v3), (4, .int v4), (5, .int v5)], [.ref r0])) rfl ?_
    refine e_gR (q := (r0 + 1)) 3 0 rfl rfl h_r0 (fo_3_0 h_r0) ?_
    refine e_L 4 (f' := (66, [(0, .ref r0), (1, .int v1), (2, .int v2), (3, .int v3), (4, .int v4), (5, .int v5)], [.int v4, .int ((224 : Int32) + v1), .ref (r0 + 1)])) rfl ?_
    refine qle_gd fun h2 => ?_
    refine e_ias (n := 236) (k := ((224 : Int32) + v1).toNatClampNeg) rfl (fc_3_0 h_r0) (fl_3_0 h_r0) h2 rfl ?_
    refine e_nS fun s3 => ?_
    exact e_rV rfl rfl
  · refine e_L 11 (f' := (40, [(0, .ref r0), (1, .int v1), (2, .int v2), (3, .int v3), (4, .int v4), (5, .int v5)], [.int ((v2.toUInt32 >>> (v5.toUInt32 &&& Int32.toUInt32 31)).toInt32 &&& (15 : Int32)), .int ((v3.toUInt32 >>> (v5.toUInt32 &&& Int32.toUInt32 31)).toInt32 &&& (15 : Int32)), .int v4])) rfl ?_
    refine e_sI 411 rfl rfl rfl ix_J9_max_7cf53 rfl (Nat.le_of_ble_eq_true rfl) (fun w4 s5 e6 => ?_)
    refine e_L 3 (f' := (47, [(0, .ref r0), (1, .int v1), (2, .int v2), (3, .int v3), (4, .int v4), (5, .int v5)], [.int (v4 ||| (w4 <<< (v5 &&& 31)))])) rfl ?_
    refine e_nI fun z7 => ?_
    refine e_L 3 (f' := (17, [(5, .int (v5 + (4 : Int32))), (4, .int z7), (0, .ref r0), (1, .int v1), (2, .int v2), (3, .int v3)], [])) rfl ?_
    exact qE_sub (qsubL [2, 3, 4, 5, 1, 0] rfl (ks := [5, 4, 0, 1, 2, 3]) rfl (by decide))
set_option maxRecDepth 100000 in
set_option maxHeartbeats 4000000 in
theorem le_X3_learn (en : pN) (d : Nat) (t : Nat) (a1 : Int32) (a2 : Int32) (s : qS) : qle (gd (lc t = 3) (gd (p_inB ((224 : Int32) + a1) 236 = true) (nm (s.1 (t + 1) ((224 : Int32) + a1).toNatClampNeg) (fun z2 => L_X3_learn_17 en d t a1 a2 z2 (0 : Int32) (0 : Int32) s)))) (qev en (d + 1) 74 [.ref t, .int a1, .int a2] s) := by
  refine e_enter ix_X3_learn (Nat.le_of_ble_eq_true rfl) ?_
  show qle _ (qE (qev en d) en none tb_X3_learn (0, [(0, .ref t), (1, .int a1), (2, .int a2)], []) s)
  refine qle_gd fun ht => ?_
  refine e_L 1 (f' := (1, [(0, .ref t), (1, .int a1), (2, .int a2)], [.ref t])) rfl ?_
  refine e_gR (q := (t + 1)) 3 0 rfl rfl ht (fo_3_0 ht) ?_
  refine e_L 3 (f' := (9, [(0, .ref t), (1, .int a1), (2, .int a2)], [.int ((224 : Int32) + a1), .ref (t + 1)])) rfl ?_
  refine qle_gd fun h1 => ?_
  refine e_ial (n := 236) (k := ((224 : Int32) + a1).toNatClampNeg) rfl (fc_3_0 ht) (fl_3_0 ht) h1 rfl ?_
  refine e_nI fun z2 => ?_
  refine e_L 5 (f' := (17, [(5, .int (0 : Int32)), (4, .int (0 : Int32)), (3, .int z2), (0, .ref t), (1, .int a1), (2, .int a2)], [])) rfl ?_
  exact qE_sub (qsubL [3, 4, 5, 2, 1, 0] rfl (ks := [5, 4, 3, 0, 1, 2]) rfl (by decide))
