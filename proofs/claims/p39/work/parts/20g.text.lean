/-! what methods do, printed by program out of their tables: X8_start .. -/
set_option maxRecDepth 100000 in
set_option maxHeartbeats 4000000 in
theorem le_X8_start (en : pN) (d : Nat) (a1 : Nat) (a2 : Int32) (s : qS) : qle (gd (lc a1 = 5) (bV (qev en d 33 [.ref 112, .ref a1, .int a2] s) (fun s2 => nm (uI s2 111 3 (0 : Int32)) (fun s4 => nm (uI s4 111 4 (1 : Int32)) (fun s5 => some (none, s5)))))) (qev en (d + 1) 154 [.ref 111, .ref a1, .int a2] s) := by
  refine e_enter ix_X8_start (Nat.le_of_ble_eq_true rfl) ?_
  show qle _ (qE (qev en d) en none tb_X8_start (0, [(0, .ref 111), (1, .ref a1), (2, .int a2)], []) s)
  refine qle_gd fun h_a1 => ?_
  refine e_L 1 (f' := (1, [(0, .ref 111), (1, .ref a1), (2, .int a2)], [.ref 111])) rfl ?_
  refine e_gR (q := 112) 8 0 rfl rfl lc_111 lr_111_0 ?_
  refine e_L 2 (f' := (6, [(0, .ref 111), (1, .ref a1), (2, .int a2)], [.int a2, .ref a1, .ref 112])) rfl ?_
  refine e_vV 33 rfl rfl ix_X3_enterFirst rfl (q_recvOf lc_112 rfl) (Nat.le_of_ble_eq_true rfl) (fun s2 e3 => ?_)
  refine e_L 2 (f' := (11, [(0, .ref 111), (1, .ref a1), (2, .int a2)], [.int (0 : Int32), .ref 111])) rfl ?_
  refine e_pI 8 3 rfl rfl lc_111 rfl ?_
  refine e_nS fun s4 => ?_
  refine e_L 2 (f' := (16, [(0, .ref 111), (1, .ref a1), (2, .int a2)], [.int (1 : Int32), .ref 111])) rfl ?_
  refine e_pI 8 4 rfl rfl lc_111 (by decide +kernel) ?_
  refine e_nS fun s5 => ?_
  exact e_rV rfl rfl
noncomputable def L_X8_take_125 (en : pN) (d : Nat) (v3 : Int32) (vs1 : Int32) (vs2 : Int32) (s : qS) : Option qR := qE (qev en d) en none tb_X8_take (125, [(0, .ref 111), (3, .int v3)], [.int vs2, .int vs1, .ref 122]) s
noncomputable def L_X8_take_144 (en : pN) (d : Nat) (v3 : Int32) (v4 : Int32) (s : qS) : Option qR := qE (qev en d) en none tb_X8_take (144, [(0, .ref 111), (3, .int v3), (4, .int v4)], []) s
noncomputable def L_X8_take_171 (en : pN) (d : Nat) (v3 : Int32) (v4 : Int32) (s : qS) : Option qR := qE (qev en d) en none tb_X8_take (171, [(0, .ref 111), (3, .int v3), (4, .int v4)], []) s
set_option maxRecDepth 100000 in
set_option maxHeartbeats 4000000 in
theorem le_X8_take_125 (en : pN) (d : Nat) (v3 : Int32) (vs1 : Int32) (vs2 : Int32) (s : qS) : qle (gd (p_inB vs1 200 = true) (nm (uI s 122 (vs1.toNatClampNeg) vs2) (fun s2 => gd (p_inB v3 200 = true) (nm (uI s2 123 (v3.toNatClampNeg) (s2.1 112 11)) (fun s4 => L_X8_take_144 en d v3 (0 : Int32) s4))))) (L_X8_take_125 en d v3 vs1 vs2 s) := by
  show qle _ (qE (qev en d) en none tb_X8_take (125, [(0, .ref 111), (3, .int v3)], [.int vs2, .int vs1, .ref 122]) s)
  refine qle_gd fun h1 => ?_
  refine e_ias (n := 200) (k := vs1.toNatClampNeg) rfl lc_122 ln_122 h1 rfl ?_
  refine e_nS fun s2 => ?_
  refine e_L 1 (f' := (127, [(0, .ref 111), (3, .int v3)], [.ref 111])) rfl ?_
  refine e_gR (q := 117) 8 1 rfl rfl lc_111 lr_111_1 ?_
  refine e_L 1 (f' := (131, [(0, .ref 111), (3, .int v3)], [.int (5 : Int32), .ref 117])) rfl ?_
  refine e_aal (n := 6) (q := 123) rfl lc_117 ln_117 (by decide +kernel) (by decide +kernel) ?_
  refine e_L 2 (f' := (134, [(0, .ref 111), (3, .int v3)], [.ref 111, .int v3, .ref 123])) rfl ?_
  refine e_gR (q := 112) 8 0 rfl rfl lc_111 lr_111_0 ?_
  refine e_gI 3 11 rfl rfl lc_112 ?_
  refine qle_gd fun h3 => ?_
  refine e_ias (n := 200) (k := v3.toNatClampNeg) rfl lc_123 ln_123 h3 rfl ?_
  refine e_nS fun s4 => ?_
  refine e_L 2 (f' := (144, [(4, .int (0 : Int32)), (0, .ref 111), (3, .int v3)], [])) rfl ?_
  exact qE_sub (qsubL [1, 2, 0] rfl (ks := [4, 0, 3]) rfl (by decide))
set_option maxRecDepth 100000 in
set_option maxHeartbeats 4000000 in
theorem le_X8_take_144 (en : pN) (d : Nat) (v3 : Int32) (v4 : Int32) (s : qS) : qle (if (4 : Int32) ≤ v4 then L_X8_take_171 en d v3 (0 : Int32) s else gd (p_inB ((v3 * (4 : Int32)) + v4) 800 = true) (nm (uJ s 124 (((v3 * (4 : Int32)) + v4).toNatClampNeg) (0 : Int64)) (fun s3 => L_X8_take_144 en d v3 (v4 + (1 : Int32)) s3))) (L_X8_take_144 en d v3 v4 s) := by
  show qle _ (qE (qev en d) en none tb_X8_take (144, [(0, .ref 111), (3, .int v3), (4, .int v4)], []) s)
  refine e_L 2 (f' := (147, [(0, .ref 111), (3, .int v3), (4, .int v4)], [.int (4 : Int32), .int v4])) rfl ?_
  refine e_icmp 168 rfl rfl rfl (fun c1 => ?_) (fun c1 => ?_)
  · refine e_L 2 (f' := (171, [(4, .int (0 : Int32)), (0, .ref 111), (3, .int v3)], [])) rfl ?_
    exact qE_sub (qsubL [1, 2, 0] rfl (ks := [4, 0, 3]) rfl (by decide))
  · refine e_L 1 (f' := (151, [(0, .ref 111), (3, .int v3), (4, .int v4)], [.ref 111])) rfl ?_
    refine e_gR (q := 124) 8 2 rfl rfl lc_111 lr_111_2 ?_
    refine e_L 6 (f' := (161, [(0, .ref 111), (3, .int v3), (4, .int v4)], [.long (0 : Int64), .int ((v3 * (4 : Int32)) + v4), .ref 124])) rfl ?_
    refine qle_gd fun h2 => ?_
    refine e_las (n := 800) (k := ((v3 * (4 : Int32)) + v4).toNatClampNeg) rfl lc_124 ln_124 h2 rfl ?_
    refine e_nS fun s3 => ?_
    refine e_L 2 (f' := (144, [(4, .int (v4 + (1 : Int32))), (0, .ref 111), (3, .int v3)], [])) rfl ?_
    exact qE_sub (qsubL [1, 2, 0] rfl (ks := [4, 0, 3]) rfl (by decide))
set_option maxRecDepth 100000 in
set_option maxHeartbeats 4000000 in
theorem le_X8_take_171 (en : pN) (d : Nat) (v3 : Int32) (v4 : Int32) (s : qS) : qle (if v3 ≤ v4 then some (none, s) else bI (qev en d 158 [.ref 111, .int v4, .int v3] s) (fun w2 s3 => if w2 = (0 : Int32) then L_X8_take_171 en d v3 (v4 + (1 : Int32)) s3 else bV (qev en d 156 [.ref 111, .int v4, .int v3] s3) (fun s7 => L_X8_take_171 en d v3 (v4 + (1 : Int32)) s7))) (L_X8_take_171 en d v3 v4 s) := by
  show qle _ (qE (qev en d) en none tb_X8_take (171, [(0, .ref 111), (3, .int v3), (4, .int v4)], []) s)
  refine e_L 2 (f' := (174, [(0, .ref 111), (3, .int v3), (4, .int v4)], [.int v3, .int v4])) rfl ?_
  refine e_icmp 200 rfl rfl rfl (fun c1 => ?_) (fun c1 => ?_)
  · exact e_rV rfl rfl
  · refine e_L 3 (f' := (181, [(0, .ref 111), (3, .int v3), (4, .int v4)], [.int v3, .int v4, .ref 111])) rfl ?_
    refine e_vI 158 rfl rfl ix_X8_leadsTo rfl (q_recvOf lc_111 rfl) (Nat.le_of_ble_eq_true rfl) (fun w2 s3 e4 => ?_)
    refine e_ifz 194 rfl rfl rfl (fun c5 => ?_) (fun c5 => ?_)
    · refine e_L 2 (f' := (171, [(4, .int (v4 + (1 : Int32))), (0, .ref 111), (3, .int v3)], [])) rfl ?_
      exact qE_sub (qsubL [1, 2, 0] rfl (ks := [4, 0, 3]) rfl (by decide))
    · refine e_L 3 (f' := (191, [(0, .ref 111), (3, .int v3), (4, .int v4)], [.int v3, .int v4, .ref 111])) rfl ?_
      refine e_vV 156 rfl rfl ix_X8_putAhead rfl (q_recvOf lc_111 rfl) (Nat.le_of_ble_eq_true rfl) (fun s7 e8 => ?_)
      refine e_L 2 (f' := (171, [(4, .int (v4 + (1 : Int32))), (0, .ref 111), (3, .int v3)], [])) rfl ?_
      exact qE_sub (qsubL [1, 2, 0] rfl (ks := [4, 0, 3]) rfl (by decide))
set_option maxRecDepth 100000 in
set_option maxHeartbeats 4000000 in
theorem le_X8_take (en : pN) (d : Nat) (a1 : Int32) (a2 : Int32) (s : qS) : qle (if (s.1 111 3) < (200 : Int32) then bV (qev en d 52 [.ref 112, .int a1, .int a2] s) (fun s3 => nm (uI s3 111 3 ((s3.1 111 3) + (1 : Int32))) (fun s5 => gd (p_inB (s3.1 111 3) 200 = true) (nm (uI s5 118 ((s3.1 111 3).toNatClampNeg) a1) (fun s7 => nm (uI s7 119 ((s3.1 111 3).toNatClampNeg) a2) (fun s8 => nm (uI s8 120 ((s3.1 111 3).toNatClampNeg) (s8.1 112 9)) (fun s9 => nm (uI s9 121 ((s3.1 111 3).toNatClampNeg) (s9.1 112 10)) (fun s10 => if (0 : Int32) ≤ (s10.1 112 9) then gd (s10.2.2 112 7 ≠ 0 ∧ lc (s10.2.2 112 7 - 1) = 5) (nm (s10.2.2 112 7 - 1) (fun q13 => gd (p_inB (s10.1 112 9) 100 = true) (L_X8_take_125 en d (s3.1 111 3) (s3.1 111 3) (s10.1 (q13 + 9) (s10.1 112 9).toNatClampNeg) s10))) else L_X8_take_125 en d (s3.1 111 3) (s3.1 111 3) (-2 : Int32) s10))))))) else some (none, s)) (qev en (d + 1) 155 [.ref 111, .int a1, .int a2] s) := by
  refine e_enter ix_X8_take (Nat.le_of_ble_eq_true rfl) ?_
  show qle _ (qE (qev en d) en none tb_X8_take (0, [(0, .ref 111), (1, .int a1), (2, .int a2)], []) s)
  refine e_L 1 (f' := (1, [(0, .ref 111), (1, .int a1), (2, .int a2)], [.ref 111])) rfl ?_
  refine e_gI 8 3 rfl rfl lc_111 ?_
  refine e_L 1 (f' := (7, [(0, .ref 111), (1, .int a1), (2, .int a2)], [.int (200 : Int32), .int (s.1 111 3)])) rfl ?_
  refine e_icmp 11 rfl rfl rfl (fun c1 => ?_) (fun c1 => ?_)
  · refine e_L 1 (f' := (12, [(0, .ref 111), (1, .int a1), (2, .int a2)], [.ref 111])) rfl ?_
    refine e_gR (q := 112) 8 0 rfl rfl lc_111 lr_111_0 ?_
    refine e_L 2 (f' := (17, [(0, .ref 111), (1, .int a1), (2, .int a2)], [.int a2, .int a1, .ref 112])) rfl ?_
    refine e_vV 52 rfl rfl ix_X3_take rfl (q_recvOf lc_112 rfl) (Nat.le_of_ble_eq_true rfl) (fun s3 e4 => ?_)
    refine e_L 1 (f' := (21, [(0, .ref 111), (1, .int a1), (2, .int a2)], [.ref 111])) rfl ?_
    refine e_gI 8 3 rfl rfl lc_111 ?_
    refine e_L 3 (f' := (27, [(3, .int (s3.1 111 3)), (0, .ref 111), (1, .int a1), (2, .int a2)], [.ref 111, .ref 111])) rfl ?_
    refine e_gI 8 3 rfl rfl lc_111 ?_
    refine e_L 2 (f' := (32, [(3, .int (s3.1 111 3)), (0, .ref 111), (1, .int a1), (2, .int a2)], [.int ((s3.1 111 3) + (1 : Int32)), .ref 111])) rfl ?_
    refine e_pI 8 3 rfl rfl lc_111 rfl ?_
    refine e_nS fun s5 => ?_
    refine e_L 1 (f' := (36, [(3, .int (s3.1 111 3)), (0, .ref 111), (1, .int a1), (2, .int a2)], [.ref 111])) rfl ?_
    refine e_gR (q := 117) 8 1 rfl rfl lc_111 lr_111_1 ?_
    refine e_L 1 (f' := (40, [(3, .int (s3.1 111 3)), (0, .ref 111), (1, .int a1), (2, .int a2)], [.int (0 : Int32), .ref 117])) rfl ?_
    refine e_aal (n := 6) (q := 118) rfl lc_117 ln_117 (by decide +kernel) (by decide +kernel) ?_
    refine e_L 2 (f' := (43, [(3, .int (s3.1 111 3)), (0, .ref 111), (1, .int a1), (2, .int a2)], [.int a1, .int (s3.1 111 3), .ref 118])) rfl ?_
    refine qle_gd fun h6 => ?_
    refine e_ias (n := 200) (k := (s3.1 111 3).toNatClampNeg) rfl lc_118 ln_118 h6 rfl ?_
    refine e_nS fun s7 => ?_
    refine e_L 1 (f' := (45, [(3, .int (s3.1 111 3)), (0, .ref 111), (1, .int a1), (2, .int a2)], [.ref 111])) rfl ?_
    refine e_gR (q := 117) 8 1 rfl rfl lc_111 lr_111_1 ?_
    refine e_L 1 (f' := (49, [(3, .int (s3.1 111 3)), (0, .ref 111), (1, .int a1), (2, .int a2)], [.int (1 : Int32), .ref 117])) rfl ?_
    refine e_aal (n := 6) (q := 119) rfl lc_117 ln_117 (by decide +kernel) (by decide +kernel) ?_
    refine e_L 2 (f' := (52, [(3, .int (s3.1 111 3)), (0, .ref 111), (1, .int a1), (2, .int a2)], [.int a2, .int (s3.1 111 3), .ref 119])) rfl ?_
    refine e_ias (n := 200) (k := (s3.1 111 3).toNatClampNeg) rfl lc_119 ln_119 h6 rfl ?_
    refine e_nS fun s8 => ?_
    refine e_L 1 (f' := (54, [(3, .int (s3.1 111 3)), (0, .ref 111), (1, .int a1), (2, .int a2)], [.ref 111])) rfl ?_
    refine e_gR (q := 117) 8 1 rfl rfl lc_111 lr_111_1 ?_
    refine e_L 1 (f' := (58, [(3, .int (s3.1 111 3)), (0, .ref 111), (1, .int a1), (2, .int a2)], [.int (2 : Int32), .ref 117])) rfl ?_
    refine e_aal (n := 6) (q := 120) rfl lc_117 ln_117 (by decide +kernel) (by decide +kernel) ?_
    refine e_L 2 (f' := (61, [(3, .int (s3.1 111 3)), (0, .ref 111), (1, .int a1), (2, .int a2)], [.ref 111, .int (s3.1 111 3), .ref 120])) rfl ?_
    refine e_gR (q := 112) 8 0 rfl rfl lc_111 lr_111_0 ?_
    refine e_gI 3 9 rfl rfl lc_112 ?_
    refine e_ias (n := 200) (k := (s3.1 111 3).toNatClampNeg) rfl lc_120 ln_120 h6 rfl ?_
    refine e_nS fun s9 => ?_
    refine e_L 1 (f' := (69, [(3, .int (s3.1 111 3)), (0, .ref 111), (1, .int a1), (2, .int a2)], [.ref 111])) rfl ?_
    refine e_gR (q := 117) 8 1 rfl rfl lc_111 lr_111_1 ?_
    refine e_L 1 (f' := (73, [(3, .int (s3.1 111 3)), (0, .ref 111), (1, .int a1), (2, .int a2)], [.int (3 : Int32), .ref 117])) rfl ?_
    refine e_aal (n := 6) (q := 121) rfl lc_117 ln_117 (by decide +kernel) (by decide +kernel) ?_
    refine e_L 2 (f' := (76, [(3, .int (s3.1 111 3)), (0, .ref 111), (1, .int a1), (2, .int a2)], [.ref 111, .int (s3.1 111 3), .ref 121])) rfl ?_
    refine e_gR (q := 112) 8 0 rfl rfl lc_111 lr_111_0 ?_
    refine e_gI 3 10 rfl rfl lc_112 ?_
    refine e_ias (n := 200) (k := (s3.1 111 3).toNatClampNeg) rfl lc_121 ln_121 h6 rfl ?_
    refine e_nS fun s10 => ?_
    refine e_L 1 (f' := (84, [(3, .int (s3.1 111 3)), (0, .ref 111), (1, .int a1), (2, .int a2)], [.ref 111])) rfl ?_
    refine e_gR (q := 117) 8 1 rfl rfl lc_111 lr_111_1 ?_
    refine e_L 1 (f' := (88, [(3, .int (s3.1 111 3)), (0, .ref 111), (1, .int a1), (2, .int a2)], [.int (4 : Int32), .ref 117])) rfl ?_
    refine e_aal (n := 6) (q := 122) rfl lc_117 ln_117 (by decide +kernel) (by decide +kernel) ?_
    refine e_L 2 (f' := (91, [(3, .int (s3.1 111 3)), (0, .ref 111), (1, .int a1), (2, .int a2)], [.ref 111, .int (s3.1 111 3), .ref 122])) rfl ?_
    refine e_gR (q := 112) 8 0 rfl rfl lc_111 lr_111_0 ?_
    refine e_gI 3 9 rfl rfl lc_112 ?_
    refine e_ifz 105 rfl rfl rfl (fun c11 => ?_) (fun c11 => ?_)
    · refine e_L 1 (f' := (106, [(3, .int (s3.1 111 3)), (0, .ref 111), (1, .int a1), (2, .int a2)], [.ref 111, .int (s3.1 111 3), .ref 122])) rfl ?_
      refine e_gR (q := 112) 8 0 rfl rfl lc_111 lr_111_0 ?_
      refine qle_gd fun h12 => ?_
      refine e_gM 3 7 rfl rfl lc_112 h12.1 ?_
      refine e_nR (ci := 5) h12.2 fun q13 h_q13 => ?_
      refine e_gR (q := (q13 + 6)) 5 6 rfl rfl h_q13 (fo_5_6 h_q13) ?_
      refine e_L 1 (f' := (116, [(3, .int (s3.1 111 3)), (0, .ref 111), (1, .int a1), (2, .int a2)], [.int (2 : Int32), .ref (q13 + 6), .int (s3.1 111 3), .ref 122])) rfl ?_
      refine e_aal (n := 18) (q := (q13 + 9)) rfl (fc_5_6 h_q13) (fl_5_6 h_q13) (by decide +kernel) (pe_2 h_q13) ?_
      refine e_L 1 (f' := (118, [(3, .int (s3.1 111 3)), (0, .ref 111), (1, .int a1), (2, .int a2)], [.ref 111, .ref (q13 + 9), .int (s3.1 111 3), .ref 122])) rfl ?_
      refine e_gR (q := 112) 8 0 rfl rfl lc_111 lr_111_0 ?_
      refine e_gI 3 9 rfl rfl lc_112 ?_
      refine qle_gd fun h14 => ?_
      refine e_ial (n := 100) (k := (s10.1 112 9).toNatClampNeg) rfl (pe_c_2 h_q13) (pe_l_2 h_q13) h14 rfl ?_
      exact qE_sub (qsubL [1, 0] rfl (ks := [3, 0, 1, 2]) rfl (by decide))
    · refine e_L 2 (f' := (125, [(3, .int (s3.1 111 3)), (0, .ref 111), (1, .int a1), (2, .int a2)], [.int (-2 : Int32), .int (s3.1 111 3), .ref 122])) rfl ?_
      exact qE_sub (qsubL [1, 0] rfl (ks := [3, 0, 1, 2]) rfl (by decide))
  · exact e_rV rfl rfl
noncomputable def L_X8_putAhead_2 (en : pN) (d : Nat) (v1 : Int32) (v2 : Int32) (v3 : Int32) (s : qS) : Option qR := qE (qev en d) en none tb_X8_putAhead (2, [(0, .ref 111), (1, .int v1), (2, .int v2), (3, .int v3)], []) s
set_option maxRecDepth 100000 in
set_option maxHeartbeats 4000000 in
theorem le_X8_putAhead_2 (en : pN) (d : Nat) (v1 : Int32) (v2 : Int32) (v3 : Int32) (s : qS) : qle (if (4 : Int32) ≤ v3 then gd (p_inB ((v2 * (4 : Int32)) + (v1 / (64 : Int32))) 800 = true) (nm (uJ s 124 (((v2 * (4 : Int32)) + (v1 / (64 : Int32))).toNatClampNeg) ((s.2.1 124 ((v2 * (4 : Int32)) + (v1 / (64 : Int32))).toNatClampNeg) ||| ((1 : Int64) <<< ((v1 - v1 / (64 : Int32) * (64 : Int32)).toInt64 &&& 63)))) (fun s3 => some (none, s3))) else gd (p_inB ((v2 * (4 : Int32)) + v3) 800 = true) (gd (p_inB ((v1 * (4 : Int32)) + v3) 800 = true) (nm (uJ s 124 (((v2 * (4 : Int32)) + v3).toNatClampNeg) ((s.2.1 124 ((v2 * (4 : Int32)) + v3).toNatClampNeg) ||| (s.2.1 124 ((v1 * (4 : Int32)) + v3).toNatClampNeg))) (fun s6 => L_X8_putAhead_2 en d v1 v2 (v3 + (1 : Int32)) s6)))) (L_X8_putAhead_2 en d v1 v2 v3 s) := by
  show qle _ (qE (qev en d) en none tb_X8_putAhead (2, [(0, .ref 111), (1, .int v1), (2, .int v2), (3, .int v3)], []) s)
  refine e_L 2 (f' := (4, [(0, .ref 111), (1, .int v1), (2, .int v2), (3, .int v3)], [.int (4 : Int32), .int v3])) rfl ?_
  refine e_icmp 36 rfl rfl rfl (fun c1 => ?_) (fun c1 => ?_)
  · refine e_L 1 (f' := (37, [(0, .ref 111), (1, .int v1), (2, .int v2), (3, .int v3)], [.ref 111])) rfl ?_
    refine e_gR (q := 124) 8 2 rfl rfl lc_111 lr_111_2 ?_
    refine e_L 5 (f' := (46, [(0, .ref 111), (1, .int v1), (2, .int v2), (3, .int v3)], [.int (64 : Int32), .int v1, .int (v2 * (4 : Int32)), .ref 124])) rfl ?_
    refine e_div rfl (by decide) ?_
    refine e_L 2 (f' := (49, [(0, .ref 111), (1, .int v1), (2, .int v2), (3, .int v3)], [.int ((v2 * (4 : Int32)) + (v1 / (64 : Int32))), .ref 124, .int ((v2 * (4 : Int32)) + (v1 / (64 : Int32))), .ref 124])) rfl ?_
    refine qle_gd fun h2 => ?_
    refine e_lal (n := 800) (k := ((v2 * (4 : Int32)) + (v1 / (64 : Int32))).toNatClampNeg) rfl lc_124 ln_124 h2 rfl ?_
    refine e_L 3 (f' := (54, [(0, .ref 111), (1, .int v1), (2, .int v2), (3, .int v3)], [.int (64 : Int32), .int v1, .long (1 : Int64), .long (s.2.1 124 ((v2 * (4 : Int32)) + (v1 / (64 : Int32))).toNatClampNeg), .int ((v2 * (4 : Int32)) + (v1 / (64 : Int32))), .ref 124])) rfl ?_
    refine e_rem rfl (by decide) ?_
    refine e_L 2 (f' := (57, [(0, .ref 111), (1, .int v1), (2, .int v2), (3, .int v3)], [.long ((s.2.1 124 ((v2 * (4 : Int32)) + (v1 / (64 : Int32))).toNatClampNeg) ||| ((1 : Int64) <<< ((v1 - v1 / (64 : Int32) * (64 : Int32)).toInt64 &&& 63))), .int ((v2 * (4 : Int32)) + (v1 / (64 : Int32))), .ref 124])) rfl ?_
    refine e_las (n := 800) (k := ((v2 * (4 : Int32)) + (v1 / (64 : Int32))).toNatClampNeg) rfl lc_124 ln_124 h2 rfl ?_
    refine e_nS fun s3 => ?_
    exact e_rV rfl rfl
  · refine e_L 1 (f' := (8, [(0, .ref 111), (1, .int v1), (2, .int v2), (3, .int v3)], [.ref 111])) rfl ?_
    refine e_gR (q := 124) 8 2 rfl rfl lc_111 lr_111_2 ?_
    refine e_L 6 (f' := (17, [(0, .ref 111), (1, .int v1), (2, .int v2), (3, .int v3)], [.int ((v2 * (4 : Int32)) + v3), .ref 124, .int ((v2 * (4 : Int32)) + v3), .ref 124])) rfl ?_
    refine qle_gd fun h4 => ?_
    refine e_lal (n := 800) (k := ((v2 * (4 : Int32)) + v3).toNatClampNeg) rfl lc_124 ln_124 h4 rfl ?_
    refine e_L 1 (f' := (19, [(0, .ref 111), (1, .int v1), (2, .int v2), (3, .int v3)], [.ref 111, .long (s.2.1 124 ((v2 * (4 : Int32)) + v3).toNatClampNeg), .int ((v2 * (4 : Int32)) + v3), .ref 124])) rfl ?_
    refine e_gR (q := 124) 8 2 rfl rfl lc_111 lr_111_2 ?_
    refine e_L 5 (f' := (27, [(0, .ref 111), (1, .int v1), (2, .int v2), (3, .int v3)], [.int ((v1 * (4 : Int32)) + v3), .ref 124, .long (s.2.1 124 ((v2 * (4 : Int32)) + v3).toNatClampNeg), .int ((v2 * (4 : Int32)) + v3), .ref 124])) rfl ?_
    refine qle_gd fun h5 => ?_
    refine e_lal (n := 800) (k := ((v1 * (4 : Int32)) + v3).toNatClampNeg) rfl lc_124 ln_124 h5 rfl ?_
    refine e_L 1 (f' := (29, [(0, .ref 111), (1, .int v1), (2, .int v2), (3, .int v3)], [.long ((s.2.1 124 ((v2 * (4 : Int32)) + v3).toNatClampNeg) ||| (s.2.1 124 ((v1 * (4 : Int32)) + v3).toNatClampNeg)), .int ((v2 * (4 : Int32)) + v3), .ref 124])) rfl ?_
    refine e_las (n := 800) (k := ((v2 * (4 : Int32)) + v3).toNatClampNeg) rfl lc_124 ln_124 h4 rfl ?_
    refine e_nS fun s6 => ?_
    refine e_L 2 (f' := (2, [(3, .int (v3 + (1 : Int32))), (0, .ref 111), (1, .int v1), (2, .int v2)], [])) rfl ?_
    exact qE_sub (qsubL [1, 2, 3, 0] rfl (ks := [3, 0, 1, 2]) rfl (by decide))
set_option maxRecDepth 100000 in
set_option maxHeartbeats 4000000 in
theorem le_X8_putAhead (en : pN) (d : Nat) (a1 : Int32) (a2 : Int32) (s : qS) : qle (L_X8_putAhead_2 en d a1 a2 (0 : Int32) s) (qev en (d + 1) 156 [.ref 111, .int a1, .int a2] s) := by
  refine e_enter ix_X8_putAhead (Nat.le_of_ble_eq_true rfl) ?_
  show qle _ (qE (qev en d) en none tb_X8_putAhead (0, [(0, .ref 111), (1, .int a1), (2, .int a2)], []) s)
  refine e_L 2 (f' := (2, [(3, .int (0 : Int32)), (0, .ref 111), (1, .int a1), (2, .int a2)], [])) rfl ?_
  exact qE_sub (qsubL [1, 2, 3, 0] rfl (ks := [3, 0, 1, 2]) rfl (by decide))
noncomputable def L_X8_leadsTo_78 (en : pN) (d : Nat) (v1 : Int32) (v2 : Int32) (v3 : Int32) (v4 : Int32) (s : qS) : Option qR := qE (qev en d) en (some .boolean) tb_X8_leadsTo (78, [(0, .ref 111), (1, .int v1), (2, .int v2), (3, .int v3), (4, .int v4)], []) s
noncomputable def L_X8_leadsTo_104 (en : pN) (d : Nat) (v1 : Int32) (v2 : Int32) (v3 : Int32) (v4 : Int32) (s : qS) : Option qR := qE (qev en d) en (some .boolean) tb_X8_leadsTo (104, [(0, .ref 111), (1, .int v1), (2, .int v2), (3, .int v3), (4, .int v4)], []) s
noncomputable def L_X8_leadsTo_119 (en : pN) (d : Nat) (v1 : Int32) (v2 : Int32) (v3 : Int32) (v4 : Int32) (s : qS) : Option qR := qE (qev en d) en (some .boolean) tb_X8_leadsTo (119, [(0, .ref 111), (1, .int v1), (2, .int v2), (3, .int v3), (4, .int v4)], []) s
noncomputable def L_X8_leadsTo_136 (en : pN) (d : Nat) (v1 : Int32) (v2 : Int32) (v4 : Int32) (vs0 : Int32) (s : qS) : Option qR := qE (qev en d) en (some .boolean) tb_X8_leadsTo (136, [(0, .ref 111), (1, .int v1), (2, .int v2), (4, .int v4)], [.int vs0]) s
noncomputable def L_X8_leadsTo_156 (en : pN) (d : Nat) (v1 : Int32) (v2 : Int32) (v5 : Int32) (vs0 : Int32) (s : qS) : Option qR := qE (qev en d) en (some .boolean) tb_X8_leadsTo (156, [(0, .ref 111), (1, .int v1), (2, .int v2), (5, .int v5)], [.int vs0]) s
noncomputable def L_X8_leadsTo_187 (en : pN) (d : Nat) (v1 : Int32) (v2 : Int32) (s : qS) : Option qR := qE (qev en d) en (some .boolean) tb_X8_leadsTo (187, [(0, .ref 111), (1, .int v1), (2, .int v2)], []) s
set_option maxRecDepth 100000 in
set_option maxHeartbeats 4000000 in
theorem le_X8_leadsTo_78 (en : pN) (d : Nat) (v1 : Int32) (v2 : Int32) (v3 : Int32) (v4 : Int32) (s : qS) : qle (if ¬ v4 = (11 : Int32) then L_X8_leadsTo_104 en d v1 v2 v3 v4 s else gd (p_inB v2 200 = true) (gd (p_inB v1 200 = true) (if (s.1 122 v2.toNatClampNeg) = (s.1 118 v1.toNatClampNeg) then some (some (.int (1 : Int32)), s) else L_X8_leadsTo_104 en d v1 v2 v3 v4 s))) (L_X8_leadsTo_78 en d v1 v2 v3 v4 s) := by
  show qle _ (qE (qev en d) en (some .boolean) tb_X8_leadsTo (78, [(0, .ref 111), (1, .int v1), (2, .int v2), (3, .int v3), (4, .int v4)], []) s)
  refine e_L 2 (f' := (82, [(0, .ref 111), (1, .int v1), (2, .int v2), (3, .int v3), (4, .int v4)], [.int (11 : Int32), .int v4])) rfl ?_
  refine e_icmp 104 rfl rfl rfl (fun c1 => ?_) (fun c1 => ?_)
  · exact qE_sub (qsubL [0, 1, 2, 3, 4] rfl (ks := [0, 1, 2, 3, 4]) rfl (by decide))
  · refine e_L 1 (f' := (86, [(0, .ref 111), (1, .int v1), (2, .int v2), (3, .int v3), (4, .int v4)], [.ref 111])) rfl ?_
    refine e_gR (q := 117) 8 1 rfl rfl lc_111 lr_111_1 ?_
    refine e_L 1 (f' := (90, [(0, .ref 111), (1, .int v1), (2, .int v2), (3, .int v3), (4, .int v4)], [.int (4 : Int32), .ref 117])) rfl ?_
    refine e_aal (n := 6) (q := 122) rfl lc_117 ln_117 (by decide +kernel) (by decide +kernel) ?_
    refine e_L 1 (f' := (92, [(0, .ref 111), (1, .int v1), (2, .int v2), (3, .int v3), (4, .int v4)], [.int v2, .ref 122])) rfl ?_
    refine qle_gd fun h2 => ?_
    refine e_ial (n := 200) (k := v2.toNatClampNeg) rfl lc_122 ln_122 h2 rfl ?_
    refine e_L 1 (f' := (94, [(0, .ref 111), (1, .int v1), (2, .int v2), (3, .int v3), (4, .int v4)], [.ref 111, .int (s.1 122 v2.toNatClampNeg)])) rfl ?_
    refine e_gR (q := 117) 8 1 rfl rfl lc_111 lr_111_1 ?_
    refine e_L 1 (f' := (98, [(0, .ref 111), (1, .int v1), (2, .int v2), (3, .int v3), (4, .int v4)], [.int (0 : Int32), .ref 117, .int (s.1 122 v2.toNatClampNeg)])) rfl ?_
    refine e_aal (n := 6) (q := 118) rfl lc_117 ln_117 (by decide +kernel) (by decide +kernel) ?_
    refine e_L 1 (f' := (100, [(0, .ref 111), (1, .int v1), (2, .int v2), (3, .int v3), (4, .int v4)], [.int v1, .ref 118, .int (s.1 122 v2.toNatClampNeg)])) rfl ?_
    refine qle_gd fun h3 => ?_
    refine e_ial (n := 200) (k := v1.toNatClampNeg) rfl lc_118 ln_118 h3 rfl ?_
    refine e_icmp 117 rfl rfl rfl (fun c4 => ?_) (fun c4 => ?_)
    · refine e_L 1 (f' := (118, [(0, .ref 111), (1, .int v1), (2, .int v2), (3, .int v3), (4, .int v4)], [.int (1 : Int32)])) rfl ?_
      exact e_rZ rfl rfl (by decide)
    · exact qE_sub (qsubL [0, 1, 2, 3, 4] rfl (ks := [0, 1, 2, 3, 4]) rfl (by decide))
set_option maxRecDepth 100000 in
set_option maxHeartbeats 4000000 in
theorem le_X8_leadsTo_104 (en : pN) (d : Nat) (v1 : Int32) (v2 : Int32) (v3 : Int32) (v4 : Int32) (s : qS) : qle (if ¬ v3 = (12 : Int32) then L_X8_leadsTo_119 en d v1 v2 v3 v4 s else if ¬ v4 = (12 : Int32) then L_X8_leadsTo_119 en d v1 v2 v3 v4 s else some (some (.int (1 : Int32)), s)) (L_X8_leadsTo_104 en d v1 v2 v3 v4 s) := by
  show qle _ (qE (qev en d) en (some .boolean) tb_X8_leadsTo (104, [(0, .ref 111), (1, .int v1), (2, .int v2), (3, .int v3), (4, .int v4)], []) s)
  refine e_L 2 (f' := (107, [(0, .ref 111), (1, .int v1), (2, .int v2), (3, .int v3), (4, .int v4)], [.int (12 : Int32), .int v3])) rfl ?_
  refine e_icmp 119 rfl rfl rfl (fun c1 => ?_) (fun c1 => ?_)
  · exact qE_sub (qsubL [0, 1, 2, 3, 4] rfl (ks := [0, 1, 2, 3, 4]) rfl (by decide))
  · refine e_L 2 (f' := (114, [(0, .ref 111), (1, .int v1), (2, .int v2), (3, .int v3), (4, .int v4)], [.int (12 : Int32), .int v4])) rfl ?_
    refine e_icmp 119 rfl rfl rfl (fun c2 => ?_) (fun c2 => ?_)
    · exact qE_sub (qsubL [0, 1, 2, 3, 4] rfl (ks := [0, 1, 2, 3, 4]) rfl (by decide))
    · refine e_L 1 (f' := (118, [(0, .ref 111), (1, .int v1), (2, .int v2), (3, .int v3), (4, .int v4)], [.int (1 : Int32)])) rfl ?_
      exact e_rZ rfl rfl (by decide)
set_option maxRecDepth 100000 in
set_option maxHeartbeats 4000000 in
theorem le_X8_leadsTo_119 (en : pN) (d : Nat) (v1 : Int32) (v2 : Int32) (v3 : Int32) (v4 : Int32) (s : qS) : qle (if v3 = (6 : Int32) then L_X8_leadsTo_136 en d v1 v2 v4 (1 : Int32) s else if ¬ v3 = (7 : Int32) then L_X8_leadsTo_136 en d v1 v2 v4 (0 : Int32) s else L_X8_leadsTo_136 en d v1 v2 v4 (1 : Int32) s) (L_X8_leadsTo_119 en d v1 v2 v3 v4 s) := by
  show qle _ (qE (qev en d) en (some .boolean) tb_X8_leadsTo (119, [(0, .ref 111), (1, .int v1), (2, .int v2), (3, .int v3), (4, .int v4)], []) s)
  refine e_L 2 (f' := (122, [(0, .ref 111), (1, .int v1), (2, .int v2), (3, .int v3), (4, .int v4)], [.int (6 : Int32), .int v3])) rfl ?_
  refine e_icmp 131 rfl rfl rfl (fun c1 => ?_) (fun c1 => ?_)
  · refine e_L 2 (f' := (136, [(0, .ref 111), (1, .int v1), (2, .int v2), (3, .int v3), (4, .int v4)], [.int (1 : Int32)])) rfl ?_
    exact qE_sub (qsubL [0, 1, 2, 4] rfl (ks := [0, 1, 2, 3, 4]) rfl (by decide))
  · refine e_L 2 (f' := (128, [(0, .ref 111), (1, .int v1), (2, .int v2), (3, .int v3), (4, .int v4)], [.int (7 : Int32), .int v3])) rfl ?_
    refine e_icmp 135 rfl rfl rfl (fun c2 => ?_) (fun c2 => ?_)
    · refine e_L 1 (f' := (136, [(0, .ref 111), (1, .int v1), (2, .int v2), (3, .int v3), (4, .int v4)], [.int (0 : Int32)])) rfl ?_
      exact qE_sub (qsubL [0, 1, 2, 4] rfl (ks := [0, 1, 2, 3, 4]) rfl (by decide))
    · refine e_L 2 (f' := (136, [(0, .ref 111), (1, .int v1), (2, .int v2), (3, .int v3), (4, .int v4)], [.int (1 : Int32)])) rfl ?_
      exact qE_sub (qsubL [0, 1, 2, 4] rfl (ks := [0, 1, 2, 3, 4]) rfl (by decide))
set_option maxRecDepth 100000 in
set_option maxHeartbeats 4000000 in
theorem le_X8_leadsTo_136 (en : pN) (d : Nat) (v1 : Int32) (v2 : Int32) (v4 : Int32) (vs0 : Int32) (s : qS) : qle (if v4 = (5 : Int32) then L_X8_leadsTo_156 en d v1 v2 vs0 (1 : Int32) s else if ¬ v4 = (19 : Int32) then L_X8_leadsTo_156 en d v1 v2 vs0 (0 : Int32) s else L_X8_leadsTo_156 en d v1 v2 vs0 (1 : Int32) s) (L_X8_leadsTo_136 en d v1 v2 v4 vs0 s) := by
  show qle _ (qE (qev en d) en (some .boolean) tb_X8_leadsTo (136, [(0, .ref 111), (1, .int v1), (2, .int v2), (4, .int v4)], [.int vs0]) s)
  refine e_L 3 (f' := (141, [(5, .int vs0), (0, .ref 111), (1, .int v1), (2, .int v2), (4, .int v4)], [.int (5 : Int32), .int v4])) rfl ?_
  refine e_icmp 151 rfl rfl rfl (fun c1 => ?_) (fun c1 => ?_)
  · refine e_L 2 (f' := (156, [(5, .int vs0), (0, .ref 111), (1, .int v1), (2, .int v2), (4, .int v4)], [.int (1 : Int32)])) rfl ?_
    exact qE_sub (qsubL [1, 2, 3, 0] rfl (ks := [5, 0, 1, 2, 4]) rfl (by decide))
  · refine e_L 2 (f' := (148, [(5, .int vs0), (0, .ref 111), (1, .int v1), (2, .int v2), (4, .int v4)], [.int (19 : Int32), .int v4])) rfl ?_
    refine e_icmp 155 rfl rfl rfl (fun c2 => ?_) (fun c2 => ?_)
    · refine e_L 1 (f' := (156, [(5, .int vs0), (0, .ref 111), (1, .int v1), (2, .int v2), (4, .int v4)], [.int (0 : Int32)])) rfl ?_
      exact qE_sub (qsubL [1, 2, 3, 0] rfl (ks := [5, 0, 1, 2, 4]) rfl (by decide))
    · refine e_L 2 (f' := (156, [(5, .int vs0), (0, .ref 111), (1, .int v1), (2, .int v2), (4, .int v4)], [.int (1 : Int32)])) rfl ?_
      exact qE_sub (qsubL [1, 2, 3, 0] rfl (ks := [5, 0, 1, 2, 4]) rfl (by decide))
set_option maxRecDepth 100000 in
set_option maxHeartbeats 4000000 in
theorem le_X8_leadsTo_156 (en : pN) (d : Nat) (v1 : Int32) (v2 : Int32) (v5 : Int32) (vs0 : Int32) (s : qS) : qle (gd (p_inB v1 200 = true) (gd (p_inB v2 200 = true) (if ¬ (s.1 122 v1.toNatClampNeg) = (s.1 122 v2.toNatClampNeg) then some (some (.int (0 : Int32)), s) else if v5 = (0 : Int32) then L_X8_leadsTo_187 en d v1 v2 s else if ¬ vs0 = (0 : Int32) then some (some (.int (1 : Int32)), s) else L_X8_leadsTo_187 en d v1 v2 s))) (L_X8_leadsTo_156 en d v1 v2 v5 vs0 s) := by
  show qle _ (qE (qev en d) en (some .boolean) tb_X8_leadsTo (156, [(0, .ref 111), (1, .int v1), (2, .int v2), (5, .int v5)], [.int vs0]) s)
  refine e_L 2 (f' := (159, [(6, .int vs0), (0, .ref 111), (1, .int v1), (2, .int v2), (5, .int v5)], [.ref 111])) rfl ?_
  refine e_gR (q := 117) 8 1 rfl rfl lc_111 lr_111_1 ?_
  refine e_L 1 (f' := (163, [(6, .int vs0), (0, .ref 111), (1, .int v1), (2, .int v2), (5, .int v5)], [.int (4 : Int32), .ref 117])) rfl ?_
  refine e_aal (n := 6) (q := 122) rfl lc_117 ln_117 (by decide +kernel) (by decide +kernel) ?_
  refine e_L 1 (f' := (165, [(6, .int vs0), (0, .ref 111), (1, .int v1), (2, .int v2), (5, .int v5)], [.int v1, .ref 122])) rfl ?_
  refine qle_gd fun h1 => ?_
  refine e_ial (n := 200) (k := v1.toNatClampNeg) rfl lc_122 ln_122 h1 rfl ?_
  refine e_L 1 (f' := (167, [(6, .int vs0), (0, .ref 111), (1, .int v1), (2, .int v2), (5, .int v5)], [.ref 111, .int (s.1 122 v1.toNatClampNeg)])) rfl ?_
  refine e_gR (q := 117) 8 1 rfl rfl lc_111 lr_111_1 ?_
  refine e_L 1 (f' := (171, [(6, .int vs0), (0, .ref 111), (1, .int v1), (2, .int v2), (5, .int v5)], [.int (4 : Int32), .ref 117, .int (s.1 122 v1.toNatClampNeg)])) rfl ?_
  refine e_aal (n := 6) (q := 122) rfl lc_117 ln_117 (by decide +kernel) (by decide +kernel) ?_
  refine e_L 1 (f' := (173, [(6, .int vs0), (0, .ref 111), (1, .int v1), (2, .int v2), (5, .int v5)], [.int v2, .ref 122, .int (s.1 122 v1.toNatClampNeg)])) rfl ?_
  refine qle_gd fun h2 => ?_
  refine e_ial (n := 200) (k := v2.toNatClampNeg) rfl lc_122 ln_122 h2 rfl ?_
  refine e_icmp 207 rfl rfl rfl (fun c3 => ?_) (fun c3 => ?_)
  · refine e_L 1 (f' := (208, [(6, .int vs0), (0, .ref 111), (1, .int v1), (2, .int v2), (5, .int v5)], [.int (0 : Int32)])) rfl ?_
    exact e_rZ rfl rfl (by decide)
  · refine e_L 1 (f' := (179, [(6, .int vs0), (0, .ref 111), (1, .int v1), (2, .int v2), (5, .int v5)], [.int v5])) rfl ?_
    refine e_ifz 187 rfl rfl rfl (fun c4 => ?_) (fun c4 => ?_)
    · exact qE_sub (qsubL [1, 2, 3] rfl (ks := [6, 0, 1, 2, 5]) rfl (by decide))
    · refine e_L 1 (f' := (184, [(6, .int vs0), (0, .ref 111), (1, .int v1), (2, .int v2), (5, .int v5)], [.int vs0])) rfl ?_
      refine e_ifz 203 rfl rfl rfl (fun c5 => ?_) (fun c5 => ?_)
      · refine e_L 2 (f' := (208, [(6, .int vs0), (0, .ref 111), (1, .int v1), (2, .int v2), (5, .int v5)], [.int (1 : Int32)])) rfl ?_
        exact e_rZ rfl rfl (by decide)
      · exact qE_sub (qsubL [1, 2, 3] rfl (ks := [6, 0, 1, 2, 5]) rfl (by decide))
set_option maxRecDepth 100000 in
set_option maxHeartbeats 4000000 in
theorem le_X8_leadsTo_187 (en : pN) (d : Nat) (v1 : Int32) (v2 : Int32) (s : qS) : qle (bI (qev en d 159 [.ref 111, .int v1] s) (fun w1 s2 => if w1 = (0 : Int32) then some (some (.int (0 : Int32)), s2) else bI (qev en d 160 [.ref 111, .int v2] s2) (fun w5 s6 => if w5 = (0 : Int32) then some (some (.int (0 : Int32)), s6) else some (some (.int (1 : Int32)), s6)))) (L_X8_leadsTo_187 en d v1 v2 s) := by
  show qle _ (qE (qev en d) en (some .boolean) tb_X8_leadsTo (187, [(0, .ref 111), (1, .int v1), (2, .int v2)], []) s)
  refine e_L 2 (f' := (189, [(0, .ref 111), (1, .int v1), (2, .int v2)], [.int v1, .ref 111])) rfl ?_
  refine e_vI 159 rfl rfl ix_X8_tells rfl (q_recvOf lc_111 rfl) (Nat.le_of_ble_eq_true rfl) (fun w1 s2 e3 => ?_)
  refine e_ifz 207 rfl rfl rfl (fun c4 => ?_) (fun c4 => ?_)
  · refine e_L 1 (f' := (208, [(0, .ref 111), (1, .int v1), (2, .int v2)], [.int (0 : Int32)])) rfl ?_
    exact e_rZ rfl rfl (by decide)
  · refine e_L 2 (f' := (197, [(0, .ref 111), (1, .int v1), (2, .int v2)], [.int v2, .ref 111])) rfl ?_
    refine e_vI 160 rfl rfl ix_X8_hears rfl (q_recvOf lc_111 rfl) (Nat.le_of_ble_eq_true rfl) (fun w5 s6 e7 => ?_)
    refine e_ifz 207 rfl rfl rfl (fun c8 => ?_) (fun c8 => ?_)
    · refine e_L 1 (f' := (208, [(0, .ref 111), (1, .int v1), (2, .int v2)], [.int (0 : Int32)])) rfl ?_
      exact e_rZ rfl rfl (by decide)
    · refine e_L 2 (f' := (208, [(0, .ref 111), (1, .int v1), (2, .int v2)], [.int (1 : Int32)])) rfl ?_
      exact e_rZ rfl rfl (by decide)
set_option maxRecDepth 100000 in
set_option maxHeartbeats 4000000 in
theorem le_X8_leadsTo (en : pN) (d : Nat) (a1 : Int32) (a2 : Int32) (s : qS) : qle (gd (p_inB a1 200 = true) (nm (s.1 121 a1.toNatClampNeg) (fun z2 => gd (p_inB a2 200 = true) (nm (s.1 121 a2.toNatClampNeg) (fun z4 => if z2 = (20 : Int32) then some (some (.int (0 : Int32)), s) else if ¬ z4 = (20 : Int32) then if (s.1 118 a1.toNatClampNeg) = (s.1 118 a2.toNatClampNeg) then some (some (.int (1 : Int32)), s) else if ¬ z2 = (10 : Int32) then L_X8_leadsTo_78 en d a1 a2 z2 z4 s else if (s.1 122 a1.toNatClampNeg) = (s.1 118 a2.toNatClampNeg) then some (some (.int (1 : Int32)), s) else L_X8_leadsTo_78 en d a1 a2 z2 z4 s else some (some (.int (0 : Int32)), s)))))) (qev en (d + 1) 158 [.ref 111, .int a1, .int a2] s) := by
  refine e_enter ix_X8_leadsTo (Nat.le_of_ble_eq_true rfl) ?_
  show qle _ (qE (qev en d) en (some .boolean) tb_X8_leadsTo (0, [(0, .ref 111), (1, .int a1), (2, .int a2)], []) s)
  refine e_L 1 (f' := (1, [(0, .ref 111), (1, .int a1), (2, .int a2)], [.ref 111])) rfl ?_
  refine e_gR (q := 117) 8 1 rfl rfl lc_111 lr_111_1 ?_
  refine e_L 1 (f' := (5, [(0, .ref 111), (1, .int a1), (2, .int a2)], [.int (3 : Int32), .ref 117])) rfl ?_
  refine e_aal (n := 6) (q := 121) rfl lc_117 ln_117 (by decide +kernel) (by decide +kernel) ?_
  refine e_L 1 (f' := (7, [(0, .ref 111), (1, .int a1), (2, .int a2)], [.int a1, .ref 121])) rfl ?_
  refine qle_gd fun h1 => ?_
  refine e_ial (n := 200) (k := a1.toNatClampNeg) rfl lc_121 ln_121 h1 rfl ?_
  refine e_nI fun z2 => ?_
  refine e_L 2 (f' := (10, [(3, .int z2), (0, .ref 111), (1, .int a1), (2, .int a2)], [.ref 111])) rfl ?_
  refine e_gR (q := 117) 8 1 rfl rfl lc_111 lr_111_1 ?_
  refine e_L 1 (f' := (14, [(3, .int z2), (0, .ref 111), (1, .int a1), (2, .int a2)], [.int (3 : Int32), .ref 117])) rfl ?_
  refine e_aal (n := 6) (q := 121) rfl lc_117 ln_117 (by decide +kernel) (by decide +kernel) ?_
  refine e_L 1 (f' := (16, [(3, .int z2), (0, .ref 111), (1, .int a1), (2, .int a2)], [.int a2, .ref 121])) rfl ?_
  refine qle_gd fun h3 => ?_
  refine e_ial (n := 200) (k := a2.toNatClampNeg) rfl lc_121 ln_121 h3 rfl ?_
  refine e_nI fun z4 => ?_
  refine e_L 3 (f' := (22, [(4, .int z4), (3, .int z2), (0, .ref 111), (1, .int a1), (2, .int a2)], [.int (20 : Int32), .int z2])) rfl ?_
  refine e_icmp 32 rfl rfl rfl (fun c5 => ?_) (fun c5 => ?_)
  · refine e_L 1 (f' := (33, [(4, .int z4), (3, .int z2), (0, .ref 111), (1, .int a1), (2, .int a2)], [.int (0 : Int32)])) rfl ?_
    exact e_rZ rfl rfl (by decide)
  · refine e_L 2 (f' := (29, [(4, .int z4), (3, .int z2), (0, .ref 111), (1, .int a1), (2, .int a2)], [.int (20 : Int32), .int z4])) rfl ?_
    refine e_icmp 34 rfl rfl rfl (fun c6 => ?_) (fun c6 => ?_)
    · refine e_L 1 (f' := (35, [(4, .int z4), (3, .int z2), (0, .ref 111), (1, .int a1), (2, .int a2)], [.ref 111])) rfl ?_
      refine e_gR (q := 117) 8 1 rfl rfl lc_111 lr_111_1 ?_
      refine e_L 1 (f' := (39, [(4, .int z4), (3, .int z2), (0, .ref 111), (1, .int a1), (2, .int a2)], [.int (0 : Int32), .ref 117])) rfl ?_
      refine e_aal (n := 6) (q := 118) rfl lc_117 ln_117 (by decide +kernel) (by decide +kernel) ?_
      refine e_L 1 (f' := (41, [(4, .int z4), (3, .int z2), (0, .ref 111), (1, .int a1), (2, .int a2)], [.int a1, .ref 118])) rfl ?_
      refine e_ial (n := 200) (k := a1.toNatClampNeg) rfl lc_118 ln_118 h1 rfl ?_
      refine e_L 1 (f' := (43, [(4, .int z4), (3, .int z2), (0, .ref 111), (1, .int a1), (2, .int a2)], [.ref 111, .int (s.1 118 a1.toNatClampNeg)])) rfl ?_
      refine e_gR (q := 117) 8 1 rfl rfl lc_111 lr_111_1 ?_
      refine e_L 1 (f' := (47, [(4, .int z4), (3, .int z2), (0, .ref 111), (1, .int a1), (2, .int a2)], [.int (0 : Int32), .ref 117, .int (s.1 118 a1.toNatClampNeg)])) rfl ?_
      refine e_aal (n := 6) (q := 118) rfl lc_117 ln_117 (by decide +kernel) (by decide +kernel) ?_
      refine e_L 1 (f' := (49, [(4, .int z4), (3, .int z2), (0, .ref 111), (1, .int a1), (2, .int a2)], [.int a2, .ref 118, .int (s.1 118 a1.toNatClampNeg)])) rfl ?_
      refine e_ial (n := 200) (k := a2.toNatClampNeg) rfl lc_118 ln_118 h3 rfl ?_
      refine e_icmp 117 rfl rfl rfl (fun c7 => ?_) (fun c7 => ?_)
      · refine e_L 1 (f' := (118, [(4, .int z4), (3, .int z2), (0, .ref 111), (1, .int a1), (2, .int a2)], [.int (1 : Int32)])) rfl ?_
        exact e_rZ rfl rfl (by decide)
      · refine e_L 2 (f' := (56, [(4, .int z4), (3, .int z2), (0, .ref 111), (1, .int a1), (2, .int a2)], [.int (10 : Int32), .int z2])) rfl ?_
        refine e_icmp 78 rfl rfl rfl (fun c8 => ?_) (fun c8 => ?_)
        · exact qE_sub (qsubL [2, 3, 4, 1, 0] rfl (ks := [4, 3, 0, 1, 2]) rfl (by decide))
        · refine e_L 1 (f' := (60, [(4, .int z4), (3, .int z2), (0, .ref 111), (1, .int a1), (2, .int a2)], [.ref 111])) rfl ?_
          refine e_gR (q := 117) 8 1 rfl rfl lc_111 lr_111_1 ?_
          refine e_L 1 (f' := (64, [(4, .int z4), (3, .int z2), (0, .ref 111), (1, .int a1), (2, .int a2)], [.int (4 : Int32), .ref 117])) rfl ?_
          refine e_aal (n := 6) (q := 122) rfl lc_117 ln_117 (by decide +kernel) (by decide +kernel) ?_
          refine e_L 1 (f' := (66, [(4, .int z4), (3, .int z2), (0, .ref 111), (1, .int a1), (2, .int a2)], [.int a1, .ref 122])) rfl ?_
          refine e_ial (n := 200) (k := a1.toNatClampNeg) rfl lc_122 ln_122 h1 rfl ?_
          refine e_L 1 (f' := (68, [(4, .int z4), (3, .int z2), (0, .ref 111), (1, .int a1), (2, .int a2)], [.ref 111, .int (s.1 122 a1.toNatClampNeg)])) rfl ?_
          refine e_gR (q := 117) 8 1 rfl rfl lc_111 lr_111_1 ?_
          refine e_L 1 (f' := (72, [(4, .int z4), (3, .int z2), (0, .ref 111), (1, .int a1), (2, .int a2)], [.int (0 : Int32), .ref 117, .int (s.1 122 a1.toNatClampNeg)])) rfl ?_
          refine e_aal (n := 6) (q := 118) rfl lc_117 ln_117 (by decide +kernel) (by decide +kernel) ?_
          refine e_L 1 (f' := (74, [(4, .int z4), (3, .int z2), (0, .ref 111), (1, .int a1), (2, .int a2)], [.int a2, .ref 118, .int (s.1 122 a1.toNatClampNeg)])) rfl ?_
          refine e_ial (n := 200) (k := a2.toNatClampNeg) rfl lc_118 ln_118 h3 rfl ?_
          refine e_icmp 117 rfl rfl rfl (fun c9 => ?_) (fun c9 => ?_)
          · refine e_L 1 (f' := (118, [(4, .int z4), (3, .int z2), (0, .ref 111), (1, .int a1), (2, .int a2)], [.int (1 : Int32)])) rfl ?_
            exact e_rZ rfl rfl (by decide)
          · exact qE_sub (qsubL [2, 3, 4, 1, 0] rfl (ks := [4, 3, 0, 1, 2]) rfl (by decide))
    · refine e_L 1 (f' := (33, [(4, .int z4), (3, .int z2), (0, .ref 111), (1, .int a1), (2, .int a2)], [.int (0 : Int32)])) rfl ?_
      exact e_rZ rfl rfl (by decide)
set_option maxRecDepth 100000 in
set_option maxHeartbeats 4000000 in
theorem le_X8_tells (en : pN) (d : Nat) (a1 : Int32) (s : qS) : qle (gd (p_inB a1 200 = true) (nm (s.1 121 a1.toNatClampNeg) (fun z2 => if z2 = (3 : Int32) then some (some (.int (1 : Int32)), s) else if z2 = (4 : Int32) then some (some (.int (1 : Int32)), s) else if ¬ z2 = (2 : Int32) then some (some (.int (0 : Int32)), s) else gd (s.2.2 112 7 ≠ 0 ∧ lc (s.2.2 112 7 - 1) = 5) (nm (s.2.2 112 7 - 1) (fun q7 => bI (qev en d 94 [.ref q7, .int (s.1 122 a1.toNatClampNeg)] s) (fun w8 s9 => if w8 = (0 : Int32) then some (some (.int (0 : Int32)), s9) else some (some (.int (1 : Int32)), s9))))))) (qev en (d + 1) 159 [.ref 111, .int a1] s) := by
  refine e_enter ix_X8_tells (Nat.le_of_ble_eq_true rfl) ?_
  show qle _ (qE (qev en d) en (some .boolean) tb_X8_tells (0, [(0, .ref 111), (1, .int a1)], []) s)
  refine e_L 1 (f' := (1, [(0, .ref 111), (1, .int a1)], [.ref 111])) rfl ?_
  refine e_gR (q := 117) 8 1 rfl rfl lc_111 lr_111_1 ?_
  refine e_L 1 (f' := (5, [(0, .ref 111), (1, .int a1)], [.int (3 : Int32), .ref 117])) rfl ?_
  refine e_aal (n := 6) (q := 121) rfl lc_117 ln_117 (by decide +kernel) (by decide +kernel) ?_
  refine e_L 1 (f' := (7, [(0, .ref 111), (1, .int a1)], [.int a1, .ref 121])) rfl ?_
  refine qle_gd fun h1 => ?_
  refine e_ial (n := 200) (k := a1.toNatClampNeg) rfl lc_121 ln_121 h1 rfl ?_
  refine e_nI fun z2 => ?_
  refine e_L 3 (f' := (11, [(2, .int z2), (0, .ref 111), (1, .int a1)], [.int (3 : Int32), .int z2])) rfl ?_
  refine e_icmp 45 rfl rfl rfl (fun c3 => ?_) (fun c3 => ?_)
  · refine e_L 2 (f' := (50, [(2, .int z2), (0, .ref 111), (1, .int a1)], [.int (1 : Int32)])) rfl ?_
    exact e_rZ rfl rfl (by decide)
  · refine e_L 2 (f' := (16, [(2, .int z2), (0, .ref 111), (1, .int a1)], [.int (4 : Int32), .int z2])) rfl ?_
    refine e_icmp 45 rfl rfl rfl (fun c4 => ?_) (fun c4 => ?_)
    · refine e_L 2 (f' := (50, [(2, .int z2), (0, .ref 111), (1, .int a1)], [.int (1 : Int32)])) rfl ?_
      exact e_rZ rfl rfl (by decide)
    · refine e_L 2 (f' := (21, [(2, .int z2), (0, .ref 111), (1, .int a1)], [.int (2 : Int32), .int z2])) rfl ?_
      refine e_icmp 49 rfl rfl rfl (fun c5 => ?_) (fun c5 => ?_)
      · refine e_L 1 (f' := (50, [(2, .int z2), (0, .ref 111), (1, .int a1)], [.int (0 : Int32)])) rfl ?_
        exact e_rZ rfl rfl (by decide)
      · refine e_L 1 (f' := (25, [(2, .int z2), (0, .ref 111), (1, .int a1)], [.ref 111])) rfl ?_
        refine e_gR (q := 112) 8 0 rfl rfl lc_111 lr_111_0 ?_
        refine qle_gd fun h6 => ?_
        refine e_gM 3 7 rfl rfl lc_112 h6.1 ?_
        refine e_nR (ci := 5) h6.2 fun q7 h_q7 => ?_
        refine e_L 1 (f' := (32, [(2, .int z2), (0, .ref 111), (1, .int a1)], [.ref 111, .ref q7])) rfl ?_
        refine e_gR (q := 117) 8 1 rfl rfl lc_111 lr_111_1 ?_
        refine e_L 1 (f' := (36, [(2, .int z2), (0, .ref 111), (1, .int a1)], [.int (4 : Int32), .ref 117, .ref q7])) rfl ?_
        refine e_aal (n := 6) (q := 122) rfl lc_117 ln_117 (by decide +kernel) (by decide +kernel) ?_
        refine e_L 1 (f' := (38, [(2, .int z2), (0, .ref 111), (1, .int a1)], [.int a1, .ref 122, .ref q7])) rfl ?_
        refine e_ial (n := 200) (k := a1.toNatClampNeg) rfl lc_122 ln_122 h1 rfl ?_
        refine e_vI 94 rfl rfl ix_X5_isVolatile rfl (q_recvOf h_q7 rfl) (Nat.le_of_ble_eq_true rfl) (fun w8 s9 e10 => ?_)
        refine e_ifz 49 rfl rfl rfl (fun c11 => ?_) (fun c11 => ?_)
        · refine e_L 1 (f' := (50, [(2, .int z2), (0, .ref 111), (1, .int a1)], [.int (0 : Int32)])) rfl ?_
          exact e_rZ rfl rfl (by decide)
        · refine e_L 2 (f' := (50, [(2, .int z2), (0, .ref 111), (1, .int a1)], [.int (1 : Int32)])) rfl ?_
          exact e_rZ rfl rfl (by decide)
set_option maxRecDepth 100000 in
set_option maxHeartbeats 4000000 in
theorem le_X8_hears (en : pN) (d : Nat) (a1 : Int32) (s : qS) : qle (gd (p_inB a1 200 = true) (nm (s.1 121 a1.toNatClampNeg) (fun z2 => if z2 = (3 : Int32) then some (some (.int (1 : Int32)), s) else if z2 = (4 : Int32) then some (some (.int (1 : Int32)), s) else if ¬ z2 = (1 : Int32) then some (some (.int (0 : Int32)), s) else gd (s.2.2 112 7 ≠ 0 ∧ lc (s.2.2 112 7 - 1) = 5) (nm (s.2.2 112 7 - 1) (fun q7 => bI (qev en d 94 [.ref q7, .int (s.1 122 a1.toNatClampNeg)] s) (fun w8 s9 => if w8 = (0 : Int32) then some (some (.int (0 : Int32)), s9) else some (some (.int (1 : Int32)), s9))))))) (qev en (d + 1) 160 [.ref 111, .int a1] s) := by
  refine e_enter ix_X8_hears (Nat.le_of_ble_eq_true rfl) ?_
  show qle _ (qE (qev en d) en (some .boolean) tb_X8_hears (0, [(0, .ref 111), (1, .int a1)], []) s)
  refine e_L 1 (f' := (1, [(0, .ref 111), (1, .int a1)], [.ref 111])) rfl ?_
  refine e_gR (q := 117) 8 1 rfl rfl lc_111 lr_111_1 ?_
  refine e_L 1 (f' := (5, [(0, .ref 111), (1, .int a1)], [.int (3 : Int32), .ref 117])) rfl ?_
  refine e_aal (n := 6) (q := 121) rfl lc_117 ln_117 (by decide +kernel) (by decide +kernel) ?_
  refine e_L 1 (f' := (7, [(0, .ref 111), (1, .int a1)], [.int a1, .ref 121])) rfl ?_
  refine qle_gd fun h1 => ?_
  refine e_ial (n := 200) (k := a1.toNatClampNeg) rfl lc_121 ln_121 h1 rfl ?_
  refine e_nI fun z2 => ?_
  refine e_L 3 (f' := (11, [(2, .int z2), (0, .ref 111), (1, .int a1)], [.int (3 : Int32), .int z2])) rfl ?_
  refine e_icmp 45 rfl rfl rfl (fun c3 => ?_) (fun c3 => ?_)
  · refine e_L 2 (f' := (50, [(2, .int z2), (0, .ref 111), (1, .int a1)], [.int (1 : Int32)])) rfl ?_
    exact e_rZ rfl rfl (by decide)
  · refine e_L 2 (f' := (16, [(2, .int z2), (0, .ref 111), (1, .int a1)], [.int (4 : Int32), .int z2])) rfl ?_
    refine e_icmp 45 rfl rfl rfl (fun c4 => ?_) (fun c4 => ?_)
    · refine e_L 2 (f' := (50, [(2, .int z2), (0, .ref 111), (1, .int a1)], [.int (1 : Int32)])) rfl ?_
      exact e_rZ rfl rfl (by decide)
    · refine e_L 2 (f' := (21, [(2, .int z2), (0, .ref 111), (1, .int a1)], [.int (1 : Int32), .int z2])) rfl ?_
      refine e_icmp 49 rfl rfl rfl (fun c5 => ?_) (fun c5 => ?_)
      · refine e_L 1 (f' := (50, [(2, .int z2), (0, .ref 111), (1, .int a1)], [.int (0 : Int32)])) rfl ?_
        exact e_rZ rfl rfl (by decide)
      · refine e_L 1 (f' := (25, [(2, .int z2), (0, .ref 111), (1, .int a1)], [.ref 111])) rfl ?_
        refine e_gR (q := 112) 8 0 rfl rfl lc_111 lr_111_0 ?_
        refine qle_gd fun h6 => ?_
        refine e_gM 3 7 rfl rfl lc_112 h6.1 ?_
        refine e_nR (ci := 5) h6.2 fun q7 h_q7 => ?_
        refine e_L 1 (f' := (32, [(2, .int z2), (0, .ref 111), (1, .int a1)], [.ref 111, .ref q7])) rfl ?_
        refine e_gR (q := 117) 8 1 rfl rfl lc_111 lr_111_1 ?_
        refine e_L 1 (f' := (36, [(2, .int z2), (0, .ref 111), (1, .int a1)], [.int (4 : Int32), .ref 117, .ref q7])) rfl ?_
        refine e_aal (n := 6) (q := 122) rfl lc_117 ln_117 (by decide +kernel) (by decide +kernel) ?_
        refine e_L 1 (f' := (38, [(2, .int z2), (0, .ref 111), (1, .int a1)], [.int a1, .ref 122, .ref q7])) rfl ?_
        refine e_ial (n := 200) (k := a1.toNatClampNeg) rfl lc_122 ln_122 h1 rfl ?_
        refine e_vI 94 rfl rfl ix_X5_isVolatile rfl (q_recvOf h_q7 rfl) (Nat.le_of_ble_eq_true rfl) (fun w8 s9 e10 => ?_)
        refine e_ifz 49 rfl rfl rfl (fun c11 => ?_) (fun c11 => ?_)
        · refine e_L 1 (f' := (50, [(2, .int z2), (0, .ref 111), (1, .int a1)], [.int (0 : Int32)])) rfl ?_
          exact e_rZ rfl rfl (by decide)
        · refine e_L 2 (f' := (50, [(2, .int z2), (0, .ref 111), (1, .int a1)], [.int (1 : Int32)])) rfl ?_
          exact e_rZ rfl rfl (by decide)
noncomputable def L_X10_tryAll_76 (en : pN) (d : Nat) (vs1 : Int32) (vs2 : Int32) (s : qS) : Option qR := qE (qev en d) en (some .int) tb_X10_tryAll (76, [(0, .ref 70)], [.int vs2, .int vs1, .ref 83]) s
noncomputable def L_X10_tryAll_142 (en : pN) (d : Nat) (v4 : Int32) (v5 : Int32) (s : qS) : Option qR := qE (qev en d) en (some .int) tb_X10_tryAll (142, [(0, .ref 70), (4, .int v4), (5, .int v5)], []) s
noncomputable def L_X10_tryAll_187 (en : pN) (d : Nat) (v4 : Int32) (v5 : Int32) (v6 : Int32) (v7 : Int32) (v8 : Int32) (s : qS) : Option qR := qE (qev en d) en (some .int) tb_X10_tryAll (187, [(0, .ref 70), (4, .int v4), (5, .int v5), (6, .int v6), (7, .int v7), (8, .int v8)], []) s
noncomputable def L_X10_tryAll_223 (en : pN) (d : Nat) (v5 : Int32) (v6 : Int32) (v7 : Int32) (v8 : Int32) (v9 : Int32) (s : qS) : Option qR := qE (qev en d) en (some .int) tb_X10_tryAll (223, [(0, .ref 70), (5, .int v5), (6, .int v6), (7, .int v7), (8, .int v8), (9, .int v9)], []) s
noncomputable def L_X10_tryAll_253 (en : pN) (d : Nat) (v4 : Int32) (s : qS) : Option qR := qE (qev en d) en (some .int) tb_X10_tryAll (253, [(0, .ref 70), (4, .int v4)], []) s
set_option maxRecDepth 100000 in
set_option maxHeartbeats 4000000 in
theorem le_X10_tryAll_76 (en : pN) (d : Nat) (vs1 : Int32) (vs2 : Int32) (s : qS) : qle (bV (qev en d 146 [.ref 83, .int vs1, .int vs2] s) (fun s2 => bV (qev en d 146 [.ref 87, .int ((s2.1 71 6) / (2 : Int32)), .int (20000 : Int32)] s2) (fun s5 => bV (qev en d 38 [.ref 71, .ref 94] s5) (fun s8 => bI (qev en d 150 [.ref 83, .ref 94, .int (0 : Int32)] s8) (fun w10 s11 => nm (uI s11 93 0 (0 : Int32)) (fun s13 => nm (uI s13 91 0 (-1 : Int32)) (fun s14 => L_X10_tryAll_142 en d (1 : Int32) (0 : Int32) s14))))))) (L_X10_tryAll_76 en d vs1 vs2 s) := by
  show qle _ (qE (qev en d) en (some .int) tb_X10_tryAll (76, [(0, .ref 70)], [.int vs2, .int vs1, .ref 83]) s)
  refine e_vV 146 rfl rfl ix_X7_clear rfl (q_recvOf lc_83 rfl) (Nat.le_of_ble_eq_true rfl) (fun s2 e3 => ?_)
  refine e_L 1 (f' := (80, [(0, .ref 70)], [.ref 70])) rfl ?_
  refine e_gR (q := 87) 10 3 rfl rfl lc_70 lr_70_3 ?_
  refine e_L 1 (f' := (84, [(0, .ref 70)], [.ref 70, .ref 87])) rfl ?_
  refine e_gR (q := 71) 10 0 rfl rfl lc_70 lr_70_0 ?_
  refine e_gI 3 6 rfl rfl lc_71 ?_
  refine e_L 1 (f' := (91, [(0, .ref 70)], [.int (2 : Int32), .int (s2.1 71 6), .ref 87])) rfl ?_
  refine e_div rfl (by decide) ?_
  refine e_L 1 (f' := (95, [(0, .ref 70)], [.int (20000 : Int32), .int ((s2.1 71 6) / (2 : Int32)), .ref 87])) rfl ?_
  refine e_vV 146 rfl rfl ix_X7_clear rfl (q_recvOf lc_87 rfl) (Nat.le_of_ble_eq_true rfl) (fun s5 e6 => ?_)
  refine e_L 1 (f' := (99, [(0, .ref 70)], [.ref 70])) rfl ?_
  refine e_gR (q := 71) 10 0 rfl rfl lc_70 lr_70_0 ?_
  refine e_L 1 (f' := (103, [(0, .ref 70)], [.ref 70, .ref 71])) rfl ?_
  refine e_gR (q := 94) 10 8 rfl rfl lc_70 lr_70_8 ?_
  refine e_vV 38 rfl rfl ix_X3_pack rfl (q_recvOf lc_71 rfl) (Nat.le_of_ble_eq_true rfl) (fun s8 e9 => ?_)
  refine e_L 1 (f' := (110, [(0, .ref 70)], [.ref 70])) rfl ?_
  refine e_gR (q := 83) 10 2 rfl rfl lc_70 lr_70_2 ?_
  refine e_L 1 (f' := (114, [(0, .ref 70)], [.ref 70, .ref 83])) rfl ?_
  refine e_gR (q := 94) 10 8 rfl rfl lc_70 lr_70_8 ?_
  refine e_L 1 (f' := (118, [(0, .ref 70)], [.int (0 : Int32), .ref 94, .ref 83])) rfl ?_
  refine e_vI 150 rfl rfl ix_X7_put rfl (q_recvOf lc_83 rfl) (Nat.le_of_ble_eq_true rfl) (fun w10 s11 e12 => ?_)
  refine e_L 2 (f' := (123, [(0, .ref 70)], [.ref 70])) rfl ?_
  refine e_gR (q := 93) 10 7 rfl rfl lc_70 lr_70_7 ?_
  refine e_L 2 (f' := (128, [(0, .ref 70)], [.int (0 : Int32), .int (0 : Int32), .ref 93])) rfl ?_
  refine e_ias (n := 20000) (k := 0) rfl lc_93 ln_93 (by decide +kernel) (by decide +kernel) ?_
  refine e_nS fun s13 => ?_
  refine e_L 1 (f' := (130, [(0, .ref 70)], [.ref 70])) rfl ?_
  refine e_gR (q := 91) 10 5 rfl rfl lc_70 lr_70_5 ?_
  refine e_L 2 (f' := (135, [(0, .ref 70)], [.int (-1 : Int32), .int (0 : Int32), .ref 91])) rfl ?_
  refine e_ias (n := 20000) (k := 0) rfl lc_91 ln_91 (by decide +kernel) (by decide +kernel) ?_
  refine e_nS fun s14 => ?_
  refine e_L 4 (f' := (142, [(5, .int (0 : Int32)), (4, .int (1 : Int32)), (0, .ref 70)], [])) rfl ?_
  exact qE_sub (qsubL [2, 1, 0] rfl (ks := [5, 4, 0]) rfl (by decide))
set_option maxRecDepth 100000 in
set_option maxHeartbeats 4000000 in
theorem le_X10_tryAll_142 (en : pN) (d : Nat) (v4 : Int32) (v5 : Int32) (s : qS) : qle (if (20000 : Int32) ≤ v5 then L_X10_tryAll_253 en d v4 s else if (s.1 83 3) ≤ v5 then L_X10_tryAll_253 en d v4 s else if v4 = (0 : Int32) then L_X10_tryAll_253 en d v4 s else bI (qev en d 178 [.ref 70, .int v5] s) (fun w4 s5 => L_X10_tryAll_187 en d v4 v5 w4 (s5.1 71 3) (0 : Int32) s5)) (L_X10_tryAll_142 en d v4 v5 s) := by
  show qle _ (qE (qev en d) en (some .int) tb_X10_tryAll (142, [(0, .ref 70), (4, .int v4), (5, .int v5)], []) s)
  refine e_L 2 (f' := (147, [(0, .ref 70), (4, .int v4), (5, .int v5)], [.int (20000 : Int32), .int v5])) rfl ?_
  refine e_icmp 253 rfl rfl rfl (fun c1 => ?_) (fun c1 => ?_)
  · exact qE_sub (qsubL [0, 1] rfl (ks := [0, 4, 5]) rfl (by decide))
  · refine e_L 2 (f' := (153, [(0, .ref 70), (4, .int v4), (5, .int v5)], [.ref 70, .int v5])) rfl ?_
    refine e_gR (q := 83) 10 2 rfl rfl lc_70 lr_70_2 ?_
    refine e_gI 7 3 rfl rfl lc_83 ?_
    refine e_icmp 253 rfl rfl rfl (fun c2 => ?_) (fun c2 => ?_)
    · exact qE_sub (qsubL [0, 1] rfl (ks := [0, 4, 5]) rfl (by decide))
    · refine e_L 1 (f' := (164, [(0, .ref 70), (4, .int v4), (5, .int v5)], [.int v4])) rfl ?_
      refine e_ifz 253 rfl rfl rfl (fun c3 => ?_) (fun c3 => ?_)
      · exact qE_sub (qsubL [0, 1] rfl (ks := [0, 4, 5]) rfl (by decide))
      · refine e_L 2 (f' := (170, [(0, .ref 70), (4, .int v4), (5, .int v5)], [.int v5, .ref 70])) rfl ?_
        refine e_vI 178 rfl rfl ix_X10_lookAround rfl (q_recvOf lc_70 rfl) (Nat.le_of_ble_eq_true rfl) (fun w4 s5 e6 => ?_)
        refine e_L 2 (f' := (176, [(6, .int w4), (0, .ref 70), (4, .int v4), (5, .int v5)], [.ref 70])) rfl ?_
        refine e_gR (q := 71) 10 0 rfl rfl lc_70 lr_70_0 ?_
        refine e_gI 3 3 rfl rfl lc_71 ?_
        refine e_L 3 (f' := (187, [(8, .int (0 : Int32)), (7, .int (s5.1 71 3)), (6, .int w4), (0, .ref 70), (4, .int v4), (5, .int v5)], [])) rfl ?_
        exact qE_sub (qsubL [3, 4, 5, 2, 1, 0] rfl (ks := [8, 7, 6, 0, 4, 5]) rfl (by decide))
set_option maxRecDepth 100000 in
set_option maxHeartbeats 4000000 in
theorem le_X10_tryAll_187 (en : pN) (d : Nat) (v4 : Int32) (v5 : Int32) (v6 : Int32) (v7 : Int32) (v8 : Int32) (s : qS) : qle (if v7 ≤ v8 then L_X10_tryAll_142 en d v4 (v5 + (1 : Int32)) s else if v4 = (0 : Int32) then L_X10_tryAll_142 en d v4 (v5 + (1 : Int32)) s else gd (p_inB v8 40 = true) (nm (s.1 74 v8.toNatClampNeg) (fun z4 => if v6 < (0 : Int32) then L_X10_tryAll_223 en d v5 v6 v7 v8 z4 s else if ¬ z4 = v6 then L_X10_tryAll_187 en d (1 : Int32) v5 v6 v7 (v8 + (1 : Int32)) s else L_X10_tryAll_223 en d v5 v6 v7 v8 z4 s))) (L_X10_tryAll_187 en d v4 v5 v6 v7 v8 s) := by
  show qle _ (qE (qev en d) en (some .int) tb_X10_tryAll (187, [(0, .ref 70), (4, .int v4), (5, .int v5), (6, .int v6), (7, .int v7), (8, .int v8)], []) s)
  refine e_L 2 (f' := (191, [(0, .ref 70), (4, .int v4), (5, .int v5), (6, .int v6), (7, .int v7), (8, .int v8)], [.int v7, .int v8])) rfl ?_
  refine e_icmp 247 rfl rfl rfl (fun c1 => ?_) (fun c1 => ?_)
  · refine e_L 2 (f' := (142, [(5, .int (v5 + (1 : Int32))), (0, .ref 70), (4, .int v4), (6, .int v6), (7, .int v7), (8, .int v8)], [])) rfl ?_
    exact qE_sub (qsubL [1, 2, 0] rfl (ks := [5, 0, 4, 6, 7, 8]) rfl (by decide))
  · refine e_L 1 (f' := (196, [(0, .ref 70), (4, .int v4), (5, .int v5), (6, .int v6), (7, .int v7), (8, .int v8)], [.int v4])) rfl ?_
    refine e_ifz 247 rfl rfl rfl (fun c2 => ?_) (fun c2 => ?_)
    · refine e_L 2 (f' := (142, [(5, .int (v5 + (1 : Int32))), (0, .ref 70), (4, .int v4), (6, .int v6), (7, .int v7), (8, .int v8)], [])) rfl ?_
      exact qE_sub (qsubL [1, 2, 0] rfl (ks := [5, 0, 4, 6, 7, 8]) rfl (by decide))
    · refine e_L 1 (f' := (200, [(0, .ref 70), (4, .int v4), (5, .int v5), (6, .int v6), (7, .int v7), (8, .int v8)], [.ref 70])) rfl ?_
      refine e_gR (q := 71) 10 0 rfl rfl lc_70 lr_70_0 ?_
      refine e_gR (q := 74) 3 2 rfl rfl lc_71 lr_71_2 ?_
      refine e_L 1 (f' := (208, [(0, .ref 70), (4, .int v4), (5, .int v5), (6, .int v6), (7, .int v7), (8, .int v8)], [.int v8, .ref 74])) rfl ?_
      refine qle_gd fun h3 => ?_
      refine e_ial (n := 40) (k := v8.toNatClampNeg) rfl lc_74 ln_74 h3 rfl ?_
      refine e_nI fun z4 => ?_
      refine e_L 2 (f' := (213, [(9, .int z4), (0, .ref 70), (4, .int v4), (5, .int v5), (6, .int v6), (7, .int v7), (8, .int v8)], [.int v6])) rfl ?_
      refine e_ifz 223 rfl rfl rfl (fun c5 => ?_) (fun c5 => ?_)
      · exact qE_sub (qsubL [1, 3, 4, 5, 6, 0] rfl (ks := [9, 0, 4, 5, 6, 7, 8]) rfl (by decide))
      · refine e_L 2 (f' := (220, [(9, .int z4), (0, .ref 70), (4, .int v4), (5, .int v5), (6, .int v6), (7, .int v7), (8, .int v8)], [.int v6, .int z4])) rfl ?_
        refine e_icmp 234 rfl rfl rfl (fun c6 => ?_) (fun c6 => ?_)
        · refine e_L 5 (f' := (187, [(8, .int (v8 + (1 : Int32))), (4, .int (1 : Int32)), (9, .int z4), (0, .ref 70), (5, .int v5), (6, .int v6), (7, .int v7)], [])) rfl ?_
          exact qE_sub (qsubL [3, 1, 4, 5, 6, 0] rfl (ks := [8, 4, 9, 0, 5, 6, 7]) rfl (by decide))
        · exact qE_sub (qsubL [1, 3, 4, 5, 6, 0] rfl (ks := [9, 0, 4, 5, 6, 7, 8]) rfl (by decide))
set_option maxRecDepth 100000 in
set_option maxHeartbeats 4000000 in
theorem le_X10_tryAll_223 (en : pN) (d : Nat) (v5 : Int32) (v6 : Int32) (v7 : Int32) (v8 : Int32) (v9 : Int32) (s : qS) : qle (bI (qev en d 180 [.ref 70, .int v5, .int v9] s) (fun w1 s2 => if w1 = (0 : Int32) then L_X10_tryAll_187 en d (0 : Int32) v5 v6 v7 (v8 + (1 : Int32)) s2 else L_X10_tryAll_187 en d (1 : Int32) v5 v6 v7 (v8 + (1 : Int32)) s2)) (L_X10_tryAll_223 en d v5 v6 v7 v8 v9 s) := by
  show qle _ (qE (qev en d) en (some .int) tb_X10_tryAll (223, [(0, .ref 70), (5, .int v5), (6, .int v6), (7, .int v7), (8, .int v8), (9, .int v9)], []) s)
  refine e_L 3 (f' := (228, [(0, .ref 70), (5, .int v5), (6, .int v6), (7, .int v7), (8, .int v8), (9, .int v9)], [.int v9, .int v5, .ref 70])) rfl ?_
  refine e_vI 180 rfl rfl ix_X10_tryStep rfl (q_recvOf lc_70 rfl) (Nat.le_of_ble_eq_true rfl) (fun w1 s2 e3 => ?_)
  refine e_ifz 238 rfl rfl rfl (fun c4 => ?_) (fun c4 => ?_)
  · refine e_L 4 (f' := (187, [(8, .int (v8 + (1 : Int32))), (4, .int (0 : Int32)), (0, .ref 70), (5, .int v5), (6, .int v6), (7, .int v7), (9, .int v9)], [])) rfl ?_
    exact qE_sub (qsubL [2, 1, 3, 4, 5, 0] rfl (ks := [8, 4, 0, 5, 6, 7, 9]) rfl (by decide))
  · refine e_L 5 (f' := (187, [(8, .int (v8 + (1 : Int32))), (4, .int (1 : Int32)), (0, .ref 70), (5, .int v5), (6, .int v6), (7, .int v7), (9, .int v9)], [])) rfl ?_
    exact qE_sub (qsubL [2, 1, 3, 4, 5, 0] rfl (ks := [8, 4, 0, 5, 6, 7, 9]) rfl (by decide))
set_option maxRecDepth 100000 in
set_option maxHeartbeats 4000000 in
theorem le_X10_tryAll_253 (en : pN) (d : Nat) (v4 : Int32) (s : qS) : qle (gd (p_inB (s.1 83 3) 20001 = true) (nm (uI s 92 ((s.1 83 3).toNatClampNeg) (s.1 70 13)) (fun s2 => gd (isB v4 = true) (nm (uI s2 70 17 v4) (fun s4 => if v4 = (0 : Int32) then some (some (.int (-3 : Int32)), s4) else some (some (.int (s4.1 83 3)), s4)))))) (L_X10_tryAll_253 en d v4 s) := by
  show qle _ (qE (qev en d) en (some .int) tb_X10_tryAll (253, [(0, .ref 70), (4, .int v4)], []) s)
  refine e_L 1 (f' := (254, [(0, .ref 70), (4, .int v4)], [.ref 70])) rfl ?_
  refine e_gR (q := 92) 10 6 rfl rfl lc_70 lr_70_6 ?_
  refine e_L 1 (f' := (258, [(0, .ref 70), (4, .int v4)], [.ref 70, .ref 92])) rfl ?_
  refine e_gR (q := 83) 10 2 rfl rfl lc_70 lr_70_2 ?_
  refine e_gI 7 3 rfl rfl lc_83 ?_
  refine e_L 1 (f' := (265, [(0, .ref 70), (4, .int v4)], [.ref 70, .int (s.1 83 3), .ref 92])) rfl ?_
  refine e_gI 10 13 rfl rfl lc_70 ?_
  refine qle_gd fun h1 => ?_
  refine e_ias (n := 20001) (k := (s.1 83 3).toNatClampNeg) rfl lc_92 ln_92 h1 rfl ?_
  refine e_nS fun s2 => ?_
  refine e_L 2 (f' := (272, [(0, .ref 70), (4, .int v4)], [.int v4, .ref 70])) rfl ?_
  refine qle_gd fun h3 => ?_
  refine e_pI 10 17 rfl rfl lc_70 h3 ?_
  refine e_nS fun s4 => ?_
  refine e_L 1 (f' := (277, [(0, .ref 70), (4, .int v4)], [.int v4])) rfl ?_
  refine e_ifz 290 rfl rfl rfl (fun c5 => ?_) (fun c5 => ?_)
  · refine e_L 1 (f' := (292, [(0, .ref 70), (4, .int v4)], [.int (-3 : Int32)])) rfl ?_
    exact e_rI rfl rfl
  · refine e_L 1 (f' := (281, [(0, .ref 70), (4, .int v4)], [.ref 70])) rfl ?_
    refine e_gR (q := 83) 10 2 rfl rfl lc_70 lr_70_2 ?_
    refine e_gI 7 3 rfl rfl lc_83 ?_
    refine e_L 1 (f' := (292, [(0, .ref 70), (4, .int v4)], [.int (s4.1 83 3)])) rfl ?_
    exact e_rI rfl rfl
set_option maxRecDepth 100000 in
set_option maxHeartbeats 4000000 in
theorem le_X10_tryAll (en : pN) (d : Nat) (a1 : Nat) (a2 : Int32) (a3 : Int32) (s : qS) : qle (gd (lc a1 = 5) (nm (uI s 70 17 (0 : Int32)) (fun s1 => gd (isB a3 = true) (nm (uI s1 70 18 a3) (fun s3 => nm (uI s3 70 19 (0 : Int32)) (fun s4 => nm (uI s4 70 13 (0 : Int32)) (fun s5 => nm (uI s5 70 14 (0 : Int32)) (fun s6 => bV (qev en d 33 [.ref 71, .ref a1, .int a2] s6) (fun s8 => bV (qev en d 35 [.ref 71] s8) (fun s11 => bV (qev en d 1 [.ref 76, .ref a1] s11) (fun s14 => if ¬ a2 = (2 : Int32) then L_X10_tryAll_76 en d ((s14.1 71 5) / (2 : Int32)) (20000 : Int32) s14 else L_X10_tryAll_76 en d ((s14.1 71 5) / (2 : Int32)) (6000 : Int32) s14))))))))))) (qev en (d + 1) 177 [.ref 70, .ref a1, .int a2, .int a3] s) := by
  refine e_enter ix_X10_tryAll (Nat.le_of_ble_eq_true rfl) ?_
  show qle _ (qE (qev en d) en (some .int) tb_X10_tryAll (0, [(0, .ref 70), (1, .ref a1), (2, .int a2), (3, .int a3)], []) s)
  refine qle_gd fun h_a1 => ?_
  refine e_L 2 (f' := (2, [(0, .ref 70), (1, .ref a1), (2, .int a2), (3, .int a3)], [.int (0 : Int32), .ref 70])) rfl ?_
  refine e_pI 10 17 rfl rfl lc_70 (by decide +kernel) ?_
  refine e_nS fun s1 => ?_
  refine e_L 2 (f' := (7, [(0, .ref 70), (1, .ref a1), (2, .int a2), (3, .int a3)], [.int a3, .ref 70])) rfl ?_
  refine qle_gd fun h2 => ?_
  refine e_pI 10 18 rfl rfl lc_70 h2 ?_
  refine e_nS fun s3 => ?_
  refine e_L 2 (f' := (12, [(0, .ref 70), (1, .ref a1), (2, .int a2), (3, .int a3)], [.int (0 : Int32), .ref 70])) rfl ?_
  refine e_pI 10 19 rfl rfl lc_70 (by decide +kernel) ?_
  refine e_nS fun s4 => ?_
  refine e_L 2 (f' := (17, [(0, .ref 70), (1, .ref a1), (2, .int a2), (3, .int a3)], [.int (0 : Int32), .ref 70])) rfl ?_
  refine e_pI 10 13 rfl rfl lc_70 rfl ?_
  refine e_nS fun s5 => ?_
  refine e_L 2 (f' := (22, [(0, .ref 70), (1, .ref a1), (2, .int a2), (3, .int a3)], [.int (0 : Int32), .ref 70])) rfl ?_
  refine e_pI 10 14 rfl rfl lc_70 rfl ?_
  refine e_nS fun s6 => ?_
  refine e_L 1 (f' := (26, [(0, .ref 70), (1, .ref a1), (2, .int a2), (3, .int a3)], [.ref 70])) rfl ?_
  refine e_gR (q := 71) 10 0 rfl rfl lc_70 lr_70_0 ?_
  refine e_L 2 (f' := (31, [(0, .ref 70), (1, .ref a1), (2, .int a2), (3, .int a3)], [.int a2, .ref a1, .ref 71])) rfl ?_
  refine e_vV 33 rfl rfl ix_X3_enterFirst rfl (q_recvOf lc_71 rfl) (Nat.le_of_ble_eq_true rfl) (fun s8 e9 => ?_)
  refine e_L 1 (f' := (35, [(0, .ref 70), (1, .ref a1), (2, .int a2), (3, .int a3)], [.ref 70])) rfl ?_
  refine e_gR (q := 71) 10 0 rfl rfl lc_70 lr_70_0 ?_
  refine e_vV 35 rfl rfl ix_X3_pickSlots rfl (q_recvOf lc_71 rfl) (Nat.le_of_ble_eq_true rfl) (fun s11 e12 => ?_)
  refine e_L 1 (f' := (42, [(0, .ref 70), (1, .ref a1), (2, .int a2), (3, .int a3)], [.ref 70])) rfl ?_
  refine e_gR (q := 76) 10 1 rfl rfl lc_70 lr_70_1 ?_
  refine e_L 1 (f' := (46, [(0, .ref 70), (1, .ref a1), (2, .int a2), (3, .int a3)], [.ref a1, .ref 76])) rfl ?_
  refine e_vV 1 rfl rfl ix_X0_clear rfl (q_recvOf lc_76 rfl) (Nat.le_of_ble_eq_true rfl) (fun s14 e15 => ?_)
  refine e_L 1 (f' := (50, [(0, .ref 70), (1, .ref a1), (2, .int a2), (3, .int a3)], [.ref 70])) rfl ?_
  refine e_gR (q := 83) 10 2 rfl rfl lc_70 lr_70_2 ?_
  refine e_L 1 (f' := (54, [(0, .ref 70), (1, .ref a1), (2, .int a2), (3, .int a3)], [.ref 70, .ref 83])) rfl ?_
  refine e_gR (q := 71) 10 0 rfl rfl lc_70 lr_70_0 ?_
  refine e_gI 3 5 rfl rfl lc_71 ?_
  refine e_L 1 (f' := (61, [(0, .ref 70), (1, .ref a1), (2, .int a2), (3, .int a3)], [.int (2 : Int32), .int (s14.1 71 5), .ref 83])) rfl ?_
  refine e_div rfl (by decide) ?_
  refine e_L 2 (f' := (64, [(0, .ref 70), (1, .ref a1), (2, .int a2), (3, .int a3)], [.int (2 : Int32), .int a2, .int ((s14.1 71 5) / (2 : Int32)), .ref 83])) rfl ?_
  refine e_icmp 73 rfl rfl rfl (fun c16 => ?_) (fun c16 => ?_)
  · refine e_L 1 (f' := (76, [(0, .ref 70), (1, .ref a1), (2, .int a2), (3, .int a3)], [.int (20000 : Int32), .int ((s14.1 71 5) / (2 : Int32)), .ref 83])) rfl ?_
    exact qE_sub (qsubL [0] rfl (ks := [0, 1, 2, 3]) rfl (by decide))
  · refine e_L 2 (f' := (76, [(0, .ref 70), (1, .ref a1), (2, .int a2), (3, .int a3)], [.int (6000 : Int32), .int ((s14.1 71 5) / (2 : Int32)), .ref 83])) rfl ?_
    exact qE_sub (qsubL [0] rfl (ks := [0, 1, 2, 3]) rfl (by decide))
noncomputable def L_X10_lookAround_40 (en : pN) (d : Nat) (v1 : Int32) (v2 : Int32) (v3 : Int32) (s : qS) : Option qR := qE (qev en d) en (some .int) tb_X10_lookAround (40, [(0, .ref 70), (1, .int v1), (2, .int v2), (3, .int v3)], []) s
noncomputable def L_X10_lookAround_105 (en : pN) (d : Nat) (v1 : Int32) (s : qS) : Option qR := qE (qev en d) en (some .int) tb_X10_lookAround (105, [(0, .ref 70), (1, .int v1)], []) s
set_option maxRecDepth 100000 in
set_option maxHeartbeats 4000000 in
theorem le_X10_lookAround_40 (en : pN) (d : Nat) (v1 : Int32) (v2 : Int32) (v3 : Int32) (s : qS) : qle (if v2 ≤ v3 then gd (p_inB v1 20001 = true) (nm (uI s 92 (v1.toNatClampNeg) (s.1 70 13)) (fun s3 => bV (qev en d 2 [.ref 76, .ref 71, .int v1] s3) (fun s5 => if ¬ v2 = (0 : Int32) then L_X10_lookAround_105 en d v1 s5 else bV (qev en d 182 [.ref 70, .int v1] s5) (fun s9 => L_X10_lookAround_105 en d v1 s9)))) else gd (p_inB v1 20000 = true) (gd (p_inB v3 40 = true) (nm (uI s 93 (v1.toNatClampNeg) ((s.1 93 v1.toNatClampNeg) ||| ((1 : Int32) <<< (((s.1 74 v3.toNatClampNeg) / (10 : Int32)) &&& 31)))) (fun s13 => L_X10_lookAround_40 en d v1 v2 (v3 + (1 : Int32)) s13)))) (L_X10_lookAround_40 en d v1 v2 v3 s) := by
  show qle _ (qE (qev en d) en (some .int) tb_X10_lookAround (40, [(0, .ref 70), (1, .int v1), (2, .int v2), (3, .int v3)], []) s)
  refine e_L 2 (f' := (42, [(0, .ref 70), (1, .int v1), (2, .int v2), (3, .int v3)], [.int v2, .int v3])) rfl ?_
  refine e_icmp 74 rfl rfl rfl (fun c1 => ?_) (fun c1 => ?_)
  · refine e_L 1 (f' := (75, [(0, .ref 70), (1, .int v1), (2, .int v2), (3, .int v3)], [.ref 70])) rfl ?_
    refine e_gR (q := 92) 10 6 rfl rfl lc_70 lr_70_6 ?_
    refine e_L 2 (f' := (80, [(0, .ref 70), (1, .int v1), (2, .int v2), (3, .int v3)], [.ref 70, .int v1, .ref 92])) rfl ?_
    refine e_gI 10 13 rfl rfl lc_70 ?_
    refine qle_gd fun h2 => ?_
    refine e_ias (n := 20001) (k := v1.toNatClampNeg) rfl lc_92 ln_92 h2 rfl ?_
    refine e_nS fun s3 => ?_
    refine e_L 1 (f' := (85, [(0, .ref 70), (1, .int v1), (2, .int v2), (3, .int v3)], [.ref 70])) rfl ?_
    refine e_gR (q := 76) 10 1 rfl rfl lc_70 lr_70_1 ?_
    refine e_L 1 (f' := (89, [(0, .ref 70), (1, .int v1), (2, .int v2), (3, .int v3)], [.ref 70, .ref 76])) rfl ?_
    refine e_gR (q := 71) 10 0 rfl rfl lc_70 lr_70_0 ?_
    refine e_L 1 (f' := (93, [(0, .ref 70), (1, .int v1), (2, .int v2), (3, .int v3)], [.int v1, .ref 71, .ref 76])) rfl ?_
    refine e_vV 2 rfl rfl ix_X0_see rfl (q_recvOf lc_76 rfl) (Nat.le_of_ble_eq_true rfl) (fun s5 e6 => ?_)
    refine e_L 1 (f' := (97, [(0, .ref 70), (1, .int v1), (2, .int v2), (3, .int v3)], [.int v2])) rfl ?_
    refine e_ifz 105 rfl rfl rfl (fun c7 => ?_) (fun c7 => ?_)
    · exact qE_sub (qsubL [0, 1] rfl (ks := [0, 1, 2, 3]) rfl (by decide))
    · refine e_L 2 (f' := (102, [(0, .ref 70), (1, .int v1), (2, .int v2), (3, .int v3)], [.int v1, .ref 70])) rfl ?_
      refine e_vV 182 rfl rfl ix_X10_noteEnd rfl (q_recvOf lc_70 rfl) (Nat.le_of_ble_eq_true rfl) (fun s9 e10 => ?_)
      exact qE_sub (qsubL [0, 1] rfl (ks := [0, 1, 2, 3]) rfl (by decide))
  · refine e_L 1 (f' := (46, [(0, .ref 70), (1, .int v1), (2, .int v2), (3, .int v3)], [.ref 70])) rfl ?_
    refine e_gR (q := 93) 10 7 rfl rfl lc_70 lr_70_7 ?_
    refine e_L 2 (f' := (51, [(0, .ref 70), (1, .int v1), (2, .int v2), (3, .int v3)], [.int v1, .ref 93, .int v1, .ref 93])) rfl ?_
    refine qle_gd fun h11 => ?_
    refine e_ial (n := 20000) (k := v1.toNatClampNeg) rfl lc_93 ln_93 h11 rfl ?_
    refine e_L 2 (f' := (54, [(0, .ref 70), (1, .int v1), (2, .int v2), (3, .int v3)], [.ref 70, .int (1 : Int32), .int (s.1 93 v1.toNatClampNeg), .int v1, .ref 93])) rfl ?_
    refine e_gR (q := 71) 10 0 rfl rfl lc_70 lr_70_0 ?_
    refine e_gR (q := 74) 3 2 rfl rfl lc_71 lr_71_2 ?_
    refine e_L 1 (f' := (61, [(0, .ref 70), (1, .int v1), (2, .int v2), (3, .int v3)], [.int v3, .ref 74, .int (1 : Int32), .int (s.1 93 v1.toNatClampNeg), .int v1, .ref 93])) rfl ?_
    refine qle_gd fun h12 => ?_
    refine e_ial (n := 40) (k := v3.toNatClampNeg) rfl lc_74 ln_74 h12 rfl ?_
    refine e_L 1 (f' := (64, [(0, .ref 70), (1, .int v1), (2, .int v2), (3, .int v3)], [.int (10 : Int32), .int (s.1 74 v3.toNatClampNeg), .int (1 : Int32), .int (s.1 93 v1.toNatClampNeg), .int v1, .ref 93])) rfl ?_
    refine e_div rfl (by decide) ?_
    refine e_L 2 (f' := (67, [(0, .ref 70), (1, .int v1), (2, .int v2), (3, .int v3)], [.int ((s.1 93 v1.toNatClampNeg) ||| ((1 : Int32) <<< (((s.1 74 v3.toNatClampNeg) / (10 : Int32)) &&& 31))), .int v1, .ref 93])) rfl ?_
    refine e_ias (n := 20000) (k := v1.toNatClampNeg) rfl lc_93 ln_93 h11 rfl ?_
    refine e_nS fun s13 => ?_
    refine e_L 2 (f' := (40, [(3, .int (v3 + (1 : Int32))), (0, .ref 70), (1, .int v1), (2, .int v2)], [])) rfl ?_
    exact qE_sub (qsubL [1, 2, 3, 0] rfl (ks := [3, 0, 1, 2]) rfl (by decide))
set_option maxRecDepth 100000 in
set_option maxHeartbeats 4000000 in
theorem le_X10_lookAround_105 (en : pN) (d : Nat) (v1 : Int32) (s : qS) : qle (if (s.1 70 18) = (0 : Int32) then some (some (.int (-1 : Int32)), s) else gd (p_inB v1 20000 = true) (if ¬ ((s.1 93 v1.toNatClampNeg) &&& (16 : Int32)) = (0 : Int32) then some (some (.int (-1 : Int32)), s) else bI (qev en d 179 [.ref 70] s) (fun w4 s5 => some (some (.int w4), s5)))) (L_X10_lookAround_105 en d v1 s) := by
  show qle _ (qE (qev en d) en (some .int) tb_X10_lookAround (105, [(0, .ref 70), (1, .int v1)], []) s)
  refine e_L 1 (f' := (106, [(0, .ref 70), (1, .int v1)], [.ref 70])) rfl ?_
  refine e_gI 10 18 rfl rfl lc_70 ?_
  refine e_ifz 131 rfl rfl rfl (fun c1 => ?_) (fun c1 => ?_)
  · refine e_L 1 (f' := (132, [(0, .ref 70), (1, .int v1)], [.int (-1 : Int32)])) rfl ?_
    exact e_rI rfl rfl
  · refine e_L 1 (f' := (113, [(0, .ref 70), (1, .int v1)], [.ref 70])) rfl ?_
    refine e_gR (q := 93) 10 7 rfl rfl lc_70 lr_70_7 ?_
    refine e_L 1 (f' := (117, [(0, .ref 70), (1, .int v1)], [.int v1, .ref 93])) rfl ?_
    refine qle_gd fun h2 => ?_
    refine e_ial (n := 20000) (k := v1.toNatClampNeg) rfl lc_93 ln_93 h2 rfl ?_
    refine e_L 2 (f' := (121, [(0, .ref 70), (1, .int v1)], [.int ((s.1 93 v1.toNatClampNeg) &&& (16 : Int32))])) rfl ?_
    refine e_ifz 131 rfl rfl rfl (fun c3 => ?_) (fun c3 => ?_)
    · refine e_L 1 (f' := (132, [(0, .ref 70), (1, .int v1)], [.int (-1 : Int32)])) rfl ?_
      exact e_rI rfl rfl
    · refine e_L 1 (f' := (125, [(0, .ref 70), (1, .int v1)], [.ref 70])) rfl ?_
      refine e_vI 179 rfl rfl ix_X10_quietStep rfl (q_recvOf lc_70 rfl) (Nat.le_of_ble_eq_true rfl) (fun w4 s5 e6 => ?_)
      refine e_L 1 (f' := (132, [(0, .ref 70), (1, .int v1)], [.int w4])) rfl ?_
      exact e_rI rfl rfl
set_option maxRecDepth 100000 in
set_option maxHeartbeats 4000000 in
theorem le_X10_lookAround (en : pN) (d : Nat) (a1 : Int32) (s : qS) : qle (bV (qev en d 39 [.ref 71, .ref 84, .int (a1 * (s.1 83 4))] s) (fun s2 => bV (qev en d 40 [.ref 71] s2) (fun s5 => bI (qev en d 42 [.ref 71] s5) (fun w7 s8 => L_X10_lookAround_40 en d a1 w7 (0 : Int32) s8)))) (qev en (d + 1) 178 [.ref 70, .int a1] s) := by
  refine e_enter ix_X10_lookAround (Nat.le_of_ble_eq_true rfl) ?_
  show qle _ (qE (qev en d) en (some .int) tb_X10_lookAround (0, [(0, .ref 70), (1, .int a1)], []) s)
  refine e_L 1 (f' := (1, [(0, .ref 70), (1, .int a1)], [.ref 70])) rfl ?_
  refine e_gR (q := 71) 10 0 rfl rfl lc_70 lr_70_0 ?_
  refine e_L 1 (f' := (5, [(0, .ref 70), (1, .int a1)], [.ref 70, .ref 71])) rfl ?_
  refine e_gR (q := 83) 10 2 rfl rfl lc_70 lr_70_2 ?_
  refine e_gR (q := 84) 7 0 rfl rfl lc_83 lr_83_0 ?_
  refine e_L 2 (f' := (13, [(0, .ref 70), (1, .int a1)], [.ref 70, .int a1, .ref 84, .ref 71])) rfl ?_
  refine e_gR (q := 83) 10 2 rfl rfl lc_70 lr_70_2 ?_
  refine e_gI 7 4 rfl rfl lc_83 ?_
  refine e_L 1 (f' := (20, [(0, .ref 70), (1, .int a1)], [.int (a1 * (s.1 83 4)), .ref 84, .ref 71])) rfl ?_
  refine e_vV 39 rfl rfl ix_X3_unpack rfl (q_recvOf lc_71 rfl) (Nat.le_of_ble_eq_true rfl) (fun s2 e3 => ?_)
  refine e_L 1 (f' := (24, [(0, .ref 70), (1, .int a1)], [.ref 70])) rfl ?_
  refine e_gR (q := 71) 10 0 rfl rfl lc_70 lr_70_0 ?_
  refine e_vV 40 rfl rfl ix_X3_keep rfl (q_recvOf lc_71 rfl) (Nat.le_of_ble_eq_true rfl) (fun s5 e6 => ?_)
  refine e_L 1 (f' := (31, [(0, .ref 70), (1, .int a1)], [.ref 70])) rfl ?_
  refine e_gR (q := 71) 10 0 rfl rfl lc_70 lr_70_0 ?_
  refine e_vI 42 rfl rfl ix_X3_listReady rfl (q_recvOf lc_71 rfl) (Nat.le_of_ble_eq_true rfl) (fun w7 s8 e9 => ?_)
  refine e_L 3 (f' := (40, [(3, .int (0 : Int32)), (2, .int w7), (0, .ref 70), (1, .int a1)], [])) rfl ?_
  exact qE_sub (qsubL [2, 3, 1, 0] rfl (ks := [3, 2, 0, 1]) rfl (by decide))
noncomputable def L_X10_quietStep_2 (en : pN) (d : Nat) (v1 : Int32) (s : qS) : Option qR := qE (qev en d) en (some .int) tb_X10_quietStep (2, [(0, .ref 70), (1, .int v1)], []) s
set_option maxRecDepth 100000 in
set_option maxHeartbeats 4000000 in
theorem le_X10_quietStep_2 (en : pN) (d : Nat) (v1 : Int32) (s : qS) : qle (gd (s.2.2 71 7 ≠ 0 ∧ lc (s.2.2 71 7 - 1) = 5) (nm (s.2.2 71 7 - 1) (fun q2 => if (s.1 q2 11) ≤ v1 then some (some (.int (-1 : Int32)), s) else gd (p_inB ((0 : Int32) + v1) 236 = true) (if ¬ (s.1 72 ((0 : Int32) + v1).toNatClampNeg) = (1 : Int32) then L_X10_quietStep_2 en d (v1 + (1 : Int32)) s else gd (s.2.2 71 7 ≠ 0 ∧ lc (s.2.2 71 7 - 1) = 5) (nm (s.2.2 71 7 - 1) (fun q7 => gd (p_inB ((4 : Int32) + v1) 236 = true) (gd (p_inB (s.1 72 ((4 : Int32) + v1).toNatClampNeg) 100 = true) (nm (s.1 (q7 + 7) (s.1 72 ((4 : Int32) + v1).toNatClampNeg).toNatClampNeg) (fun z10 => if z10 = (0 : Int32) then some (some (.int (v1 * (10 : Int32))), s) else if z10 < (13 : Int32) then L_X10_quietStep_2 en d (v1 + (1 : Int32)) s else if (17 : Int32) < z10 then L_X10_quietStep_2 en d (v1 + (1 : Int32)) s else some (some (.int (v1 * (10 : Int32))), s)))))))))) (L_X10_quietStep_2 en d v1 s) := by
  show qle _ (qE (qev en d) en (some .int) tb_X10_quietStep (2, [(0, .ref 70), (1, .int v1)], []) s)
  refine e_L 2 (f' := (4, [(0, .ref 70), (1, .int v1)], [.ref 70, .int v1])) rfl ?_
  refine e_gR (q := 71) 10 0 rfl rfl lc_70 lr_70_0 ?_
  refine qle_gd fun h1 => ?_
  refine e_gM 3 7 rfl rfl lc_71 h1.1 ?_
  refine e_nR (ci := 5) h1.2 fun q2 h_q2 => ?_
  refine e_gI 5 11 rfl rfl h_q2 ?_
  refine e_icmp 83 rfl rfl rfl (fun c3 => ?_) (fun c3 => ?_)
  · refine e_L 1 (f' := (84, [(0, .ref 70), (1, .int v1)], [.int (-1 : Int32)])) rfl ?_
    exact e_rI rfl rfl
  · refine e_L 1 (f' := (17, [(0, .ref 70), (1, .int v1)], [.ref 70])) rfl ?_
    refine e_gR (q := 71) 10 0 rfl rfl lc_70 lr_70_0 ?_
    refine e_gR (q := 72) 3 0 rfl rfl lc_71 lr_71_0 ?_
    refine e_L 3 (f' := (26, [(0, .ref 70), (1, .int v1)], [.int ((0 : Int32) + v1), .ref 72])) rfl ?_
    refine qle_gd fun h4 => ?_
    refine e_ial (n := 236) (k := ((0 : Int32) + v1).toNatClampNeg) rfl lc_72 ln_72 h4 rfl ?_
    refine e_L 1 (f' := (28, [(0, .ref 70), (1, .int v1)], [.int (1 : Int32), .int (s.1 72 ((0 : Int32) + v1).toNatClampNeg)])) rfl ?_
    refine e_icmp 77 rfl rfl rfl (fun c5 => ?_) (fun c5 => ?_)
    · refine e_L 2 (f' := (2, [(1, .int (v1 + (1 : Int32))), (0, .ref 70)], [])) rfl ?_
      exact qE_sub (qsubL [1, 0] rfl (ks := [1, 0]) rfl (by decide))
    · refine e_L 1 (f' := (32, [(0, .ref 70), (1, .int v1)], [.ref 70])) rfl ?_
      refine e_gR (q := 71) 10 0 rfl rfl lc_70 lr_70_0 ?_
      refine qle_gd fun h6 => ?_
      refine e_gM 3 7 rfl rfl lc_71 h6.1 ?_
      refine e_nR (ci := 5) h6.2 fun q7 h_q7 => ?_
      refine e_gR (q := (q7 + 6)) 5 6 rfl rfl h_q7 (fo_5_6 h_q7) ?_
      refine e_L 1 (f' := (42, [(0, .ref 70), (1, .int v1)], [.int (0 : Int32), .ref (q7 + 6)])) rfl ?_
      refine e_aal (n := 18) (q := (q7 + 7)) rfl (fc_5_6 h_q7) (fl_5_6 h_q7) (by decide +kernel) (pe_0 h_q7) ?_
      refine e_L 1 (f' := (44, [(0, .ref 70), (1, .int v1)], [.ref 70, .ref (q7 + 7)])) rfl ?_
      refine e_gR (q := 71) 10 0 rfl rfl lc_70 lr_70_0 ?_
      refine e_gR (q := 72) 3 0 rfl rfl lc_71 lr_71_0 ?_
      refine e_L 3 (f' := (53, [(0, .ref 70), (1, .int v1)], [.int ((4 : Int32) + v1), .ref 72, .ref (q7 + 7)])) rfl ?_
      refine qle_gd fun h8 => ?_
      refine e_ial (n := 236) (k := ((4 : Int32) + v1).toNatClampNeg) rfl lc_72 ln_72 h8 rfl ?_
      refine qle_gd fun h9 => ?_
      refine e_ial (n := 100) (k := (s.1 72 ((4 : Int32) + v1).toNatClampNeg).toNatClampNeg) rfl (pe_c_0 h_q7) (pe_l_0 h_q7) h9 rfl ?_
      refine e_nI fun z10 => ?_
      refine e_L 2 (f' := (57, [(2, .int z10), (0, .ref 70), (1, .int v1)], [.int z10])) rfl ?_
      refine e_ifz 72 rfl rfl rfl (fun c11 => ?_) (fun c11 => ?_)
      · refine e_L 3 (f' := (76, [(2, .int z10), (0, .ref 70), (1, .int v1)], [.int (v1 * (10 : Int32))])) rfl ?_
        exact e_rI rfl rfl
      · refine e_L 2 (f' := (63, [(2, .int z10), (0, .ref 70), (1, .int v1)], [.int (13 : Int32), .int z10])) rfl ?_
        refine e_icmp 77 rfl rfl rfl (fun c12 => ?_) (fun c12 => ?_)
        · refine e_L 2 (f' := (2, [(1, .int (v1 + (1 : Int32))), (2, .int z10), (0, .ref 70)], [])) rfl ?_
          exact qE_sub (qsubL [2, 0] rfl (ks := [1, 2, 0]) rfl (by decide))
        · refine e_L 2 (f' := (69, [(2, .int z10), (0, .ref 70), (1, .int v1)], [.int (17 : Int32), .int z10])) rfl ?_
          refine e_icmp 77 rfl rfl rfl (fun c13 => ?_) (fun c13 => ?_)
          · refine e_L 2 (f' := (2, [(1, .int (v1 + (1 : Int32))), (2, .int z10), (0, .ref 70)], [])) rfl ?_
            exact qE_sub (qsubL [2, 0] rfl (ks := [1, 2, 0]) rfl (by decide))
          · refine e_L 3 (f' := (76, [(2, .int z10), (0, .ref 70), (1, .int v1)], [.int (v1 * (10 : Int32))])) rfl ?_
            exact e_rI rfl rfl
set_option maxRecDepth 100000 in
set_option maxHeartbeats 4000000 in
theorem le_X10_quietStep (en : pN) (d : Nat) (s : qS) : qle (L_X10_quietStep_2 en d (0 : Int32) s) (qev en (d + 1) 179 [.ref 70] s) := by
  refine e_enter ix_X10_quietStep (Nat.le_of_ble_eq_true rfl) ?_
  show qle _ (qE (qev en d) en (some .int) tb_X10_quietStep (0, [(0, .ref 70)], []) s)
  refine e_L 2 (f' := (2, [(1, .int (0 : Int32)), (0, .ref 70)], [])) rfl ?_
  exact qE_sub (qsubL [1, 0] rfl (ks := [1, 0]) rfl (by decide))
noncomputable def L_X10_tryStep_37 (en : pN) (d : Nat) (v1 : Int32) (v3 : Int32) (v4 : Int32) (s : qS) : Option qR := qE (qev en d) en (some .boolean) tb_X10_tryStep (37, [(0, .ref 70), (1, .int v1), (3, .int v3), (4, .int v4)], []) s
noncomputable def L_X10_tryStep_152 (en : pN) (d : Nat) (v6 : Int32) (v7 : Int32) (vs1 : Int32) (vs2 : Int32) (s : qS) : Option qR := qE (qev en d) en (some .boolean) tb_X10_tryStep (152, [(0, .ref 70), (6, .int v6), (7, .int v7)], [.int vs2, .int vs1, .ref 93]) s
noncomputable def L_X10_tryStep_153 (en : pN) (d : Nat) (v6 : Int32) (v7 : Int32) (s : qS) : Option qR := qE (qev en d) en (some .boolean) tb_X10_tryStep (153, [(0, .ref 70), (6, .int v6), (7, .int v7)], []) s
set_option maxRecDepth 100000 in
set_option maxHeartbeats 4000000 in
theorem le_X10_tryStep_37 (en : pN) (d : Nat) (v1 : Int32) (v3 : Int32) (v4 : Int32) (s : qS) : qle (bV (qev en d 52 [.ref 71, .int v3, .int v4] s) (fun s2 => bV (qev en d 38 [.ref 71, .ref 94] s2) (fun s5 => bI (qev en d 150 [.ref 83, .ref 94, .int (0 : Int32)] s5) (fun w7 s8 => if w7 < (0 : Int32) then some (some (.int (0 : Int32)), s8) else if (s8.1 70 13) < (200000 : Int32) then nm ((v3 <<< ((4 : Int32) &&& 31)) ||| v4) (fun z12 => if ¬ w7 = (s5.1 83 3) then L_X10_tryStep_153 en d w7 z12 s8 else gd (p_inB w7 20000 = true) (nm (uI s8 91 (w7.toNatClampNeg) ((v1 <<< ((6 : Int32) &&& 31)) ||| z12)) (fun s15 => bI (qev en d 181 [.ref 70, .int (s15.1 71 9)] s15) (fun w16 s17 => if w16 = (0 : Int32) then L_X10_tryStep_152 en d w7 z12 w7 (0 : Int32) s17 else L_X10_tryStep_152 en d w7 z12 w7 (16 : Int32) s17)))) else some (some (.int (0 : Int32)), s8))))) (L_X10_tryStep_37 en d v1 v3 v4 s) := by
  show qle _ (qE (qev en d) en (some .boolean) tb_X10_tryStep (37, [(0, .ref 70), (1, .int v1), (3, .int v3), (4, .int v4)], []) s)
  refine e_L 1 (f' := (38, [(0, .ref 70), (1, .int v1), (3, .int v3), (4, .int v4)], [.ref 70])) rfl ?_
  refine e_gR (q := 71) 10 0 rfl rfl lc_70 lr_70_0 ?_
  refine e_L 2 (f' := (44, [(0, .ref 70), (1, .int v1), (3, .int v3), (4, .int v4)], [.int v4, .int v3, .ref 71])) rfl ?_
  refine e_vV 52 rfl rfl ix_X3_take rfl (q_recvOf lc_71 rfl) (Nat.le_of_ble_eq_true rfl) (fun s2 e3 => ?_)
  refine e_L 1 (f' := (48, [(0, .ref 70), (1, .int v1), (3, .int v3), (4, .int v4)], [.ref 70])) rfl ?_
  refine e_gR (q := 71) 10 0 rfl rfl lc_70 lr_70_0 ?_
  refine e_L 1 (f' := (52, [(0, .ref 70), (1, .int v1), (3, .int v3), (4, .int v4)], [.ref 70, .ref 71])) rfl ?_
  refine e_gR (q := 94) 10 8 rfl rfl lc_70 lr_70_8 ?_
  refine e_vV 38 rfl rfl ix_X3_pack rfl (q_recvOf lc_71 rfl) (Nat.le_of_ble_eq_true rfl) (fun s5 e6 => ?_)
  refine e_L 1 (f' := (59, [(0, .ref 70), (1, .int v1), (3, .int v3), (4, .int v4)], [.ref 70])) rfl ?_
  refine e_gR (q := 83) 10 2 rfl rfl lc_70 lr_70_2 ?_
  refine e_gI 7 3 rfl rfl lc_83 ?_
  refine e_L 2 (f' := (68, [(5, .int (s5.1 83 3)), (0, .ref 70), (1, .int v1), (3, .int v3), (4, .int v4)], [.ref 70])) rfl ?_
  refine e_gR (q := 83) 10 2 rfl rfl lc_70 lr_70_2 ?_
  refine e_L 1 (f' := (72, [(5, .int (s5.1 83 3)), (0, .ref 70), (1, .int v1), (3, .int v3), (4, .int v4)], [.ref 70, .ref 83])) rfl ?_
  refine e_gR (q := 94) 10 8 rfl rfl lc_70 lr_70_8 ?_
  refine e_L 1 (f' := (76, [(5, .int (s5.1 83 3)), (0, .ref 70), (1, .int v1), (3, .int v3), (4, .int v4)], [.int (0 : Int32), .ref 94, .ref 83])) rfl ?_
  refine e_vI 150 rfl rfl ix_X7_put rfl (q_recvOf lc_83 rfl) (Nat.le_of_ble_eq_true rfl) (fun w7 s8 e9 => ?_)
  refine e_L 2 (f' := (83, [(6, .int w7), (5, .int (s5.1 83 3)), (0, .ref 70), (1, .int v1), (3, .int v3), (4, .int v4)], [.int w7])) rfl ?_
  refine e_ifz 95 rfl rfl rfl (fun c10 => ?_) (fun c10 => ?_)
  · refine e_L 1 (f' := (96, [(6, .int w7), (5, .int (s5.1 83 3)), (0, .ref 70), (1, .int v1), (3, .int v3), (4, .int v4)], [.int (0 : Int32)])) rfl ?_
    exact e_rZ rfl rfl (by decide)
  · refine e_L 1 (f' := (87, [(6, .int w7), (5, .int (s5.1 83 3)), (0, .ref 70), (1, .int v1), (3, .int v3), (4, .int v4)], [.ref 70])) rfl ?_
    refine e_gI 10 13 rfl rfl lc_70 ?_
    refine e_ldcI (v := (200000 : Int32)) rfl rfl (by decide +kernel) ?_
    refine e_icmp 97 rfl rfl rfl (fun c11 => ?_) (fun c11 => ?_)
    · refine e_L 5 (f' := (103, [(6, .int w7), (5, .int (s5.1 83 3)), (0, .ref 70), (1, .int v1), (3, .int v3), (4, .int v4)], [.int ((v3 <<< ((4 : Int32) &&& 31)) ||| v4)])) rfl ?_
      refine e_nI fun z12 => ?_
      refine e_L 3 (f' := (109, [(7, .int z12), (6, .int w7), (5, .int (s5.1 83 3)), (0, .ref 70), (1, .int v1), (3, .int v3), (4, .int v4)], [.int (s5.1 83 3), .int w7])) rfl ?_
      refine e_icmp 153 rfl rfl rfl (fun c13 => ?_) (fun c13 => ?_)
      · exact qE_sub (qsubL [3, 1, 0] rfl (ks := [7, 6, 5, 0, 1, 3, 4]) rfl (by decide))
      · refine e_L 1 (f' := (113, [(7, .int z12), (6, .int w7), (5, .int (s5.1 83 3)), (0, .ref 70), (1, .int v1), (3, .int v3), (4, .int v4)], [.ref 70])) rfl ?_
        refine e_gR (q := 91) 10 5 rfl rfl lc_70 lr_70_5 ?_
        refine e_L 6 (f' := (125, [(7, .int z12), (6, .int w7), (5, .int (s5.1 83 3)), (0, .ref 70), (1, .int v1), (3, .int v3), (4, .int v4)], [.int ((v1 <<< ((6 : Int32) &&& 31)) ||| z12), .int w7, .ref 91])) rfl ?_
        refine qle_gd fun h14 => ?_
        refine e_ias (n := 20000) (k := w7.toNatClampNeg) rfl lc_91 ln_91 h14 rfl ?_
        refine e_nS fun s15 => ?_
        refine e_L 1 (f' := (127, [(7, .int z12), (6, .int w7), (5, .int (s5.1 83 3)), (0, .ref 70), (1, .int v1), (3, .int v3), (4, .int v4)], [.ref 70])) rfl ?_
        refine e_gR (q := 93) 10 7 rfl rfl lc_70 lr_70_7 ?_
        refine e_L 3 (f' := (134, [(7, .int z12), (6, .int w7), (5, .int (s5.1 83 3)), (0, .ref 70), (1, .int v1), (3, .int v3), (4, .int v4)], [.ref 70, .ref 70, .int w7, .ref 93])) rfl ?_
        refine e_gR (q := 71) 10 0 rfl rfl lc_70 lr_70_0 ?_
        refine e_gI 3 9 rfl rfl lc_71 ?_
        refine e_vI 181 rfl rfl ix_X10_isWhile rfl (q_recvOf lc_70 rfl) (Nat.le_of_ble_eq_true rfl) (fun w16 s17 e18 => ?_)
        refine e_ifz 151 rfl rfl rfl (fun c19 => ?_) (fun c19 => ?_)
        · refine e_L 1 (f' := (152, [(7, .int z12), (6, .int w7), (5, .int (s5.1 83 3)), (0, .ref 70), (1, .int v1), (3, .int v3), (4, .int v4)], [.int (0 : Int32), .int w7, .ref 93])) rfl ?_
          exact qE_sub (qsubL [3, 1, 0] rfl (ks := [7, 6, 5, 0, 1, 3, 4]) rfl (by decide))
        · refine e_L 2 (f' := (152, [(7, .int z12), (6, .int w7), (5, .int (s5.1 83 3)), (0, .ref 70), (1, .int v1), (3, .int v3), (4, .int v4)], [.int (16 : Int32), .int w7, .ref 93])) rfl ?_
          exact qE_sub (qsubL [3, 1, 0] rfl (ks := [7, 6, 5, 0, 1, 3, 4]) rfl (by decide))
    · refine e_L 1 (f' := (96, [(6, .int w7), (5, .int (s5.1 83 3)), (0, .ref 70), (1, .int v1), (3, .int v3), (4, .int v4)], [.int (0 : Int32)])) rfl ?_
      exact e_rZ rfl rfl (by decide)
set_option maxRecDepth 100000 in
set_option maxHeartbeats 4000000 in
theorem le_X10_tryStep_152 (en : pN) (d : Nat) (v6 : Int32) (v7 : Int32) (vs1 : Int32) (vs2 : Int32) (s : qS) : qle (gd (p_inB vs1 20000 = true) (nm (uI s 93 (vs1.toNatClampNeg) vs2) (fun s2 => L_X10_tryStep_153 en d v6 v7 s2))) (L_X10_tryStep_152 en d v6 v7 vs1 vs2 s) := by
  show qle _ (qE (qev en d) en (some .boolean) tb_X10_tryStep (152, [(0, .ref 70), (6, .int v6), (7, .int v7)], [.int vs2, .int vs1, .ref 93]) s)
  refine qle_gd fun h1 => ?_
  refine e_ias (n := 20000) (k := vs1.toNatClampNeg) rfl lc_93 ln_93 h1 rfl ?_
  refine e_nS fun s2 => ?_
  exact qE_sub (qsubL [0, 1, 2] rfl (ks := [0, 6, 7]) rfl (by decide))
set_option maxRecDepth 100000 in
set_option maxHeartbeats 4000000 in
theorem le_X10_tryStep_153 (en : pN) (d : Nat) (v6 : Int32) (v7 : Int32) (s : qS) : qle (gd (p_inB (s.1 70 13) 200000 = true) (nm (uI s 90 ((s.1 70 13).toNatClampNeg) ((v6 <<< ((6 : Int32) &&& 31)) ||| v7)) (fun s2 => nm (uI s2 70 13 ((s2.1 70 13) + (1 : Int32))) (fun s3 => some (some (.int (1 : Int32)), s3))))) (L_X10_tryStep_153 en d v6 v7 s) := by
  show qle _ (qE (qev en d) en (some .boolean) tb_X10_tryStep (153, [(0, .ref 70), (6, .int v6), (7, .int v7)], []) s)
  refine e_L 1 (f' := (154, [(0, .ref 70), (6, .int v6), (7, .int v7)], [.ref 70])) rfl ?_
  refine e_gR (q := 90) 10 4 rfl rfl lc_70 lr_70_4 ?_
  refine e_L 1 (f' := (158, [(0, .ref 70), (6, .int v6), (7, .int v7)], [.ref 70, .ref 90])) rfl ?_
  refine e_gI 10 13 rfl rfl lc_70 ?_
  refine e_L 5 (f' := (169, [(0, .ref 70), (6, .int v6), (7, .int v7)], [.int ((v6 <<< ((6 : Int32) &&& 31)) ||| v7), .int (s.1 70 13), .ref 90])) rfl ?_
  refine qle_gd fun h1 => ?_
  refine e_ias (n := 200000) (k := (s.1 70 13).toNatClampNeg) rfl lc_90 ln_90 h1 rfl ?_
  refine e_nS fun s2 => ?_
  refine e_L 2 (f' := (172, [(0, .ref 70), (6, .int v6), (7, .int v7)], [.ref 70, .ref 70])) rfl ?_
  refine e_gI 10 13 rfl rfl lc_70 ?_
  refine e_L 2 (f' := (177, [(0, .ref 70), (6, .int v6), (7, .int v7)], [.int ((s2.1 70 13) + (1 : Int32)), .ref 70])) rfl ?_
  refine e_pI 10 13 rfl rfl lc_70 rfl ?_
  refine e_nS fun s3 => ?_
  refine e_L 1 (f' := (181, [(0, .ref 70), (6, .int v6), (7, .int v7)], [.int (1 : Int32)])) rfl ?_
  exact e_rZ rfl rfl (by decide)
set_option maxRecDepth 100000 in
set_option maxHeartbeats 4000000 in
theorem le_X10_tryStep (en : pN) (d : Nat) (a1 : Int32) (a2 : Int32) (s : qS) : qle (nm (a2 - a2 / (10 : Int32) * (10 : Int32)) (fun z1 => bV (qev en d 41 [.ref 71] s) (fun s3 => if z1 = (9 : Int32) then L_X10_tryStep_37 en d a1 (a2 / (10 : Int32)) z1 s3 else bV (qev en d 5 [.ref 76, .ref 71, .int (a2 / (10 : Int32))] s3) (fun s7 => L_X10_tryStep_37 en d a1 (a2 / (10 : Int32)) z1 s7)))) (qev en (d + 1) 180 [.ref 70, .int a1, .int a2] s) := by
  refine e_enter ix_X10_tryStep (Nat.le_of_ble_eq_true rfl) ?_
  show qle _ (qE (qev en d) en (some .boolean) tb_X10_tryStep (0, [(0, .ref 70), (1, .int a1), (2, .int a2)], []) s)
  refine e_L 2 (f' := (3, [(0, .ref 70), (1, .int a1), (2, .int a2)], [.int (10 : Int32), .int a2])) rfl ?_
  refine e_div rfl (by decide) ?_
  refine e_L 3 (f' := (8, [(3, .int (a2 / (10 : Int32))), (0, .ref 70), (1, .int a1), (2, .int a2)], [.int (10 : Int32), .int a2])) rfl ?_
  refine e_rem rfl (by decide) ?_
  refine e_nI fun z1 => ?_
  refine e_L 2 (f' := (12, [(4, .int z1), (3, .int (a2 / (10 : Int32))), (0, .ref 70), (1, .int a1), (2, .int a2)], [.ref 70])) rfl ?_
  refine e_gR (q := 71) 10 0 rfl rfl lc_70 lr_70_0 ?_
  refine e_vV 41 rfl rfl ix_X3_comeBack rfl (q_recvOf lc_71 rfl) (Nat.le_of_ble_eq_true rfl) (fun s3 e4 => ?_)
  refine e_L 2 (f' := (22, [(4, .int z1), (3, .int (a2 / (10 : Int32))), (0, .ref 70), (1, .int a1), (2, .int a2)], [.int (9 : Int32), .int z1])) rfl ?_
  refine e_icmp 37 rfl rfl rfl (fun c5 => ?_) (fun c5 => ?_)
  · exact qE_sub (qsubL [2, 3, 1, 0] rfl (ks := [4, 3, 0, 1, 2]) rfl (by decide))
  · refine e_L 1 (f' := (26, [(4, .int z1), (3, .int (a2 / (10 : Int32))), (0, .ref 70), (1, .int a1), (2, .int a2)], [.ref 70])) rfl ?_
    refine e_gR (q := 76) 10 1 rfl rfl lc_70 lr_70_1 ?_
    refine e_L 1 (f' := (30, [(4, .int z1), (3, .int (a2 / (10 : Int32))), (0, .ref 70), (1, .int a1), (2, .int a2)], [.ref 70, .ref 76])) rfl ?_
    refine e_gR (q := 71) 10 0 rfl rfl lc_70 lr_70_0 ?_
    refine e_L 1 (f' := (34, [(4, .int z1), (3, .int (a2 / (10 : Int32))), (0, .ref 70), (1, .int a1), (2, .int a2)], [.int (a2 / (10 : Int32)), .ref 71, .ref 76])) rfl ?_
    refine e_vV 5 rfl rfl ix_X0_noteTaking rfl (q_recvOf lc_76 rfl) (Nat.le_of_ble_eq_true rfl) (fun s7 e8 => ?_)
    exact qE_sub (qsubL [2, 3, 1, 0] rfl (ks := [4, 3, 0, 1, 2]) rfl (by decide))
set_option maxRecDepth 100000 in
set_option maxHeartbeats 4000000 in
theorem le_X10_isWhile (en : pN) (d : Nat) (a1 : Int32) (s : qS) : qle (if a1 < (0 : Int32) then some (some (.int (0 : Int32)), s) else gd (s.2.2 71 7 ≠ 0 ∧ lc (s.2.2 71 7 - 1) = 5) (nm (s.2.2 71 7 - 1) (fun q3 => gd (p_inB a1 100 = true) (if ¬ (s.1 (q3 + 7) a1.toNatClampNeg) = (18 : Int32) then some (some (.int (0 : Int32)), s) else some (some (.int (1 : Int32)), s))))) (qev en (d + 1) 181 [.ref 70, .int a1] s) := by
  refine e_enter ix_X10_isWhile (Nat.le_of_ble_eq_true rfl) ?_
  show qle _ (qE (qev en d) en (some .boolean) tb_X10_isWhile (0, [(0, .ref 70), (1, .int a1)], []) s)
  refine e_L 1 (f' := (1, [(0, .ref 70), (1, .int a1)], [.int a1])) rfl ?_
  refine e_ifz 27 rfl rfl rfl (fun c1 => ?_) (fun c1 => ?_)
  · refine e_L 1 (f' := (28, [(0, .ref 70), (1, .int a1)], [.int (0 : Int32)])) rfl ?_
    exact e_rZ rfl rfl (by decide)
  · refine e_L 1 (f' := (5, [(0, .ref 70), (1, .int a1)], [.ref 70])) rfl ?_
    refine e_gR (q := 71) 10 0 rfl rfl lc_70 lr_70_0 ?_
    refine qle_gd fun h2 => ?_
    refine e_gM 3 7 rfl rfl lc_71 h2.1 ?_
    refine e_nR (ci := 5) h2.2 fun q3 h_q3 => ?_
    refine e_gR (q := (q3 + 6)) 5 6 rfl rfl h_q3 (fo_5_6 h_q3) ?_
    refine e_L 1 (f' := (15, [(0, .ref 70), (1, .int a1)], [.int (0 : Int32), .ref (q3 + 6)])) rfl ?_
    refine e_aal (n := 18) (q := (q3 + 7)) rfl (fc_5_6 h_q3) (fl_5_6 h_q3) (by decide +kernel) (pe_0 h_q3) ?_
    refine e_L 1 (f' := (17, [(0, .ref 70), (1, .int a1)], [.int a1, .ref (q3 + 7)])) rfl ?_
    refine qle_gd fun h4 => ?_
    refine e_ial (n := 100) (k := a1.toNatClampNeg) rfl (pe_c_0 h_q3) (pe_l_0 h_q3) h4 rfl ?_
    refine e_L 1 (f' := (20, [(0, .ref 70), (1, .int a1)], [.int (18 : Int32), .int (s.1 (q3 + 7) a1.toNatClampNeg)])) rfl ?_
    refine e_icmp 27 rfl rfl rfl (fun c5 => ?_) (fun c5 => ?_)
    · refine e_L 1 (f' := (28, [(0, .ref 70), (1, .int a1)], [.int (0 : Int32)])) rfl ?_
      exact e_rZ rfl rfl (by decide)
    · refine e_L 2 (f' := (28, [(0, .ref 70), (1, .int a1)], [.int (1 : Int32)])) rfl ?_
      exact e_rZ rfl rfl (by decide)
noncomputable def L_X10_noteEnd_47 (en : pN) (d : Nat) (v1 : Int32) (s : qS) : Option qR := qE (qev en d) en none tb_X10_noteEnd (47, [(0, .ref 70), (1, .int v1)], []) s
set_option maxRecDepth 100000 in
set_option maxHeartbeats 4000000 in
theorem le_X10_noteEnd_47 (en : pN) (d : Nat) (v1 : Int32) (s : qS) : qle (gd (p_inB v1 20000 = true) (bI (qev en d 151 [.ref 87, .int (v1 * (s.1 83 4))] s) (fun w2 s3 => nm (uI s3 93 (v1.toNatClampNeg) ((s.1 93 v1.toNatClampNeg) ||| ((w2 + (1 : Int32)) <<< ((8 : Int32) &&& 31)))) (fun s5 => some (none, s5))))) (L_X10_noteEnd_47 en d v1 s) := by
  show qle _ (qE (qev en d) en none tb_X10_noteEnd (47, [(0, .ref 70), (1, .int v1)], []) s)
  refine e_L 1 (f' := (48, [(0, .ref 70), (1, .int v1)], [.ref 70])) rfl ?_
  refine e_gR (q := 93) 10 7 rfl rfl lc_70 lr_70_7 ?_
  refine e_L 2 (f' := (53, [(0, .ref 70), (1, .int v1)], [.int v1, .ref 93, .int v1, .ref 93])) rfl ?_
  refine qle_gd fun h1 => ?_
  refine e_ial (n := 20000) (k := v1.toNatClampNeg) rfl lc_93 ln_93 h1 rfl ?_
  refine e_L 1 (f' := (55, [(0, .ref 70), (1, .int v1)], [.ref 70, .int (s.1 93 v1.toNatClampNeg), .int v1, .ref 93])) rfl ?_
  refine e_gR (q := 87) 10 3 rfl rfl lc_70 lr_70_3 ?_
  refine e_L 2 (f' := (60, [(0, .ref 70), (1, .int v1)], [.ref 70, .int v1, .ref 87, .int (s.1 93 v1.toNatClampNeg), .int v1, .ref 93])) rfl ?_
  refine e_gR (q := 83) 10 2 rfl rfl lc_70 lr_70_2 ?_
  refine e_gI 7 4 rfl rfl lc_83 ?_
  refine e_L 1 (f' := (67, [(0, .ref 70), (1, .int v1)], [.int (v1 * (s.1 83 4)), .ref 87, .int (s.1 93 v1.toNatClampNeg), .int v1, .ref 93])) rfl ?_
  refine e_vI 151 rfl rfl ix_X7_refer rfl (q_recvOf lc_87 rfl) (Nat.le_of_ble_eq_true rfl) (fun w2 s3 e4 => ?_)
  refine e_L 5 (f' := (76, [(0, .ref 70), (1, .int v1)], [.int ((s.1 93 v1.toNatClampNeg) ||| ((w2 + (1 : Int32)) <<< ((8 : Int32) &&& 31))), .int v1, .ref 93])) rfl ?_
  refine e_ias (n := 20000) (k := v1.toNatClampNeg) rfl lc_93 ln_93 h1 rfl ?_
  refine e_nS fun s5 => ?_
  exact e_rV rfl rfl
set_option maxRecDepth 100000 in
set_option maxHeartbeats 4000000 in
theorem le_X10_noteEnd (en : pN) (d : Nat) (a1 : Int32) (s : qS) : qle (nm (uI s 70 14 ((s.1 70 14) + (1 : Int32))) (fun s1 => if (s1.1 72 233) = (0 : Int32) then L_X10_noteEnd_47 en d a1 s1 else gd (p_inB a1 20000 = true) (nm (uI s1 93 (a1.toNatClampNeg) ((s1.1 93 a1.toNatClampNeg) ||| (32 : Int32))) (fun s4 => bV (qev en d 7 [.ref 76, .ref 71, .int a1] s4) (fun s6 => L_X10_noteEnd_47 en d a1 s6))))) (qev en (d + 1) 182 [.ref 70, .int a1] s) := by
  refine e_enter ix_X10_noteEnd (Nat.le_of_ble_eq_true rfl) ?_
  show qle _ (qE (qev en d) en none tb_X10_noteEnd (0, [(0, .ref 70), (1, .int a1)], []) s)
  refine e_L 2 (f' := (2, [(0, .ref 70), (1, .int a1)], [.ref 70, .ref 70])) rfl ?_
  refine e_gI 10 14 rfl rfl lc_70 ?_
  refine e_L 2 (f' := (7, [(0, .ref 70), (1, .int a1)], [.int ((s.1 70 14) + (1 : Int32)), .ref 70])) rfl ?_
  refine e_pI 10 14 rfl rfl lc_70 rfl ?_
  refine e_nS fun s1 => ?_
  refine e_L 1 (f' := (11, [(0, .ref 70), (1, .int a1)], [.ref 70])) rfl ?_
  refine e_gR (q := 71) 10 0 rfl rfl lc_70 lr_70_0 ?_
  refine e_gR (q := 72) 3 0 rfl rfl lc_71 lr_71_0 ?_
  refine e_L 1 (f' := (20, [(0, .ref 70), (1, .int a1)], [.int (233 : Int32), .ref 72])) rfl ?_
  refine e_ial (n := 236) (k := 233) rfl lc_72 ln_72 (by decide +kernel) (by decide +kernel) ?_
  refine e_ifz 47 rfl rfl rfl (fun c2 => ?_) (fun c2 => ?_)
  · exact qE_sub (qsubL [0, 1] rfl (ks := [0, 1]) rfl (by decide))
  · refine e_L 1 (f' := (25, [(0, .ref 70), (1, .int a1)], [.ref 70])) rfl ?_
    refine e_gR (q := 93) 10 7 rfl rfl lc_70 lr_70_7 ?_
    refine e_L 2 (f' := (30, [(0, .ref 70), (1, .int a1)], [.int a1, .ref 93, .int a1, .ref 93])) rfl ?_
    refine qle_gd fun h3 => ?_
    refine e_ial (n := 20000) (k := a1.toNatClampNeg) rfl lc_93 ln_93 h3 rfl ?_
    refine e_L 2 (f' := (34, [(0, .ref 70), (1, .int a1)], [.int ((s1.1 93 a1.toNatClampNeg) ||| (32 : Int32)), .int a1, .ref 93])) rfl ?_
    refine e_ias (n := 20000) (k := a1.toNatClampNeg) rfl lc_93 ln_93 h3 rfl ?_
    refine e_nS fun s4 => ?_
    refine e_L 1 (f' := (36, [(0, .ref 70), (1, .int a1)], [.ref 70])) rfl ?_
    refine e_gR (q := 76) 10 1 rfl rfl lc_70 lr_70_1 ?_
    refine e_L 1 (f' := (40, [(0, .ref 70), (1, .int a1)], [.ref 70, .ref 76])) rfl ?_
    refine e_gR (q := 71) 10 0 rfl rfl lc_70 lr_70_0 ?_
    refine e_L 1 (f' := (44, [(0, .ref 70), (1, .int a1)], [.int a1, .ref 71, .ref 76])) rfl ?_
    refine e_vV 7 rfl rfl ix_X0_seeStuck rfl (q_recvOf lc_76 rfl) (Nat.le_of_ble_eq_true rfl) (fun s6 e7 => ?_)
    exact qE_sub (qsubL [0, 1] rfl (ks := [0, 1]) rfl (by decide))
set_option maxRecDepth 100000 in
set_option maxHeartbeats 4000000 in
theorem le_X10_hasOutcome (en : pN) (d : Nat) (a1 : Int32) (s : qS) : qle (if (s.1 70 17) = (0 : Int32) then some (some (.int (0 : Int32)), s) else if a1 < (0 : Int32) then some (some (.int (0 : Int32)), s) else if (s.1 87 3) ≤ a1 then some (some (.int (0 : Int32)), s) else some (some (.int (1 : Int32)), s)) (qev en (d + 1) 184 [.ref 70, .int a1] s) := by
  refine e_enter ix_X10_hasOutcome (Nat.le_of_ble_eq_true rfl) ?_
  show qle _ (qE (qev en d) en (some .boolean) tb_X10_hasOutcome (0, [(0, .ref 70), (1, .int a1)], []) s)
  refine e_L 1 (f' := (1, [(0, .ref 70), (1, .int a1)], [.ref 70])) rfl ?_
  refine e_gI 10 17 rfl rfl lc_70 ?_
  refine e_ifz 26 rfl rfl rfl (fun c1 => ?_) (fun c1 => ?_)
  · refine e_L 1 (f' := (27, [(0, .ref 70), (1, .int a1)], [.int (0 : Int32)])) rfl ?_
    exact e_rZ rfl rfl (by decide)
  · refine e_L 1 (f' := (8, [(0, .ref 70), (1, .int a1)], [.int a1])) rfl ?_
    refine e_ifz 26 rfl rfl rfl (fun c2 => ?_) (fun c2 => ?_)
    · refine e_L 1 (f' := (27, [(0, .ref 70), (1, .int a1)], [.int (0 : Int32)])) rfl ?_
      exact e_rZ rfl rfl (by decide)
    · refine e_L 2 (f' := (13, [(0, .ref 70), (1, .int a1)], [.ref 70, .int a1])) rfl ?_
      refine e_gR (q := 87) 10 3 rfl rfl lc_70 lr_70_3 ?_
      refine e_gI 7 3 rfl rfl lc_87 ?_
      refine e_icmp 26 rfl rfl rfl (fun c3 => ?_) (fun c3 => ?_)
      · refine e_L 1 (f' := (27, [(0, .ref 70), (1, .int a1)], [.int (0 : Int32)])) rfl ?_
        exact e_rZ rfl rfl (by decide)
      · refine e_L 2 (f' := (27, [(0, .ref 70), (1, .int a1)], [.int (1 : Int32)])) rfl ?_
        exact e_rZ rfl rfl (by decide)
set_option maxRecDepth 100000 in
set_option maxHeartbeats 4000000 in
theorem le_X10_stateOfOutcome (en : pN) (d : Nat) (a1 : Int32) (s : qS) : qle (if (s.1 83 4) ≤ (0 : Int32) then some (some (.int (0 : Int32)), s) else gd (p_inB a1 20000 = true) (gd (¬ (s.1 83 4) = 0) (some (some (.int ((s.1 88 a1.toNatClampNeg) / (s.1 83 4))), s)))) (qev en (d + 1) 185 [.ref 70, .int a1] s) := by
  refine e_enter ix_X10_stateOfOutcome (Nat.le_of_ble_eq_true rfl) ?_
  show qle _ (qE (qev en d) en (some .int) tb_X10_stateOfOutcome (0, [(0, .ref 70), (1, .int a1)], []) s)
  refine e_L 1 (f' := (1, [(0, .ref 70), (1, .int a1)], [.ref 70])) rfl ?_
  refine e_gR (q := 83) 10 2 rfl rfl lc_70 lr_70_2 ?_
  refine e_gI 7 4 rfl rfl lc_83 ?_
  refine e_ifz 30 rfl rfl rfl (fun c1 => ?_) (fun c1 => ?_)
  · refine e_L 1 (f' := (31, [(0, .ref 70), (1, .int a1)], [.int (0 : Int32)])) rfl ?_
    exact e_rI rfl rfl
  · refine e_L 1 (f' := (11, [(0, .ref 70), (1, .int a1)], [.ref 70])) rfl ?_
    refine e_gR (q := 87) 10 3 rfl rfl lc_70 lr_70_3 ?_
    refine e_gR (q := 88) 7 1 rfl rfl lc_87 lr_87_1 ?_
    refine e_L 1 (f' := (18, [(0, .ref 70), (1, .int a1)], [.int a1, .ref 88])) rfl ?_
    refine qle_gd fun h2 => ?_
    refine e_ial (n := 20000) (k := a1.toNatClampNeg) rfl lc_88 ln_88 h2 rfl ?_
    refine e_L 1 (f' := (20, [(0, .ref 70), (1, .int a1)], [.ref 70, .int (s.1 88 a1.toNatClampNeg)])) rfl ?_
    refine e_gR (q := 83) 10 2 rfl rfl lc_70 lr_70_2 ?_
    refine e_gI 7 4 rfl rfl lc_83 ?_
    refine qle_gd fun h3 => ?_
    refine e_div rfl h3 ?_
    refine e_L 1 (f' := (31, [(0, .ref 70), (1, .int a1)], [.int ((s.1 88 a1.toNatClampNeg) / (s.1 83 4))])) rfl ?_
    exact e_rI rfl rfl
set_option maxRecDepth 100000 in
set_option maxHeartbeats 4000000 in
theorem le_X10_slotOfOutcome (en : pN) (d : Nat) (a1 : Int32) (a2 : Int32) (s : qS) : qle (gd (p_inB a1 20000 = true) (bV (qev en d 39 [.ref 71, .ref 84, .int (s.1 88 a1.toNatClampNeg)] s) (fun s3 => gd (p_inB a2 236 = true) (some (some (.int (s3.1 72 a2.toNatClampNeg)), s3))))) (qev en (d + 1) 186 [.ref 70, .int a1, .int a2] s) := by
  refine e_enter ix_X10_slotOfOutcome (Nat.le_of_ble_eq_true rfl) ?_
  show qle _ (qE (qev en d) en (some .int) tb_X10_slotOfOutcome (0, [(0, .ref 70), (1, .int a1), (2, .int a2)], []) s)
  refine e_L 1 (f' := (1, [(0, .ref 70), (1, .int a1), (2, .int a2)], [.ref 70])) rfl ?_
  refine e_gR (q := 71) 10 0 rfl rfl lc_70 lr_70_0 ?_
  refine e_L 1 (f' := (5, [(0, .ref 70), (1, .int a1), (2, .int a2)], [.ref 70, .ref 71])) rfl ?_
  refine e_gR (q := 83) 10 2 rfl rfl lc_70 lr_70_2 ?_
  refine e_gR (q := 84) 7 0 rfl rfl lc_83 lr_83_0 ?_
  refine e_L 1 (f' := (12, [(0, .ref 70), (1, .int a1), (2, .int a2)], [.ref 70, .ref 84, .ref 71])) rfl ?_
  refine e_gR (q := 87) 10 3 rfl rfl lc_70 lr_70_3 ?_
  refine e_gR (q := 88) 7 1 rfl rfl lc_87 lr_87_1 ?_
  refine e_L 1 (f' := (19, [(0, .ref 70), (1, .int a1), (2, .int a2)], [.int a1, .ref 88, .ref 84, .ref 71])) rfl ?_
  refine qle_gd fun h1 => ?_
  refine e_ial (n := 20000) (k := a1.toNatClampNeg) rfl lc_88 ln_88 h1 rfl ?_
  refine e_vV 39 rfl rfl ix_X3_unpack rfl (q_recvOf lc_71 rfl) (Nat.le_of_ble_eq_true rfl) (fun s3 e4 => ?_)
  refine e_L 1 (f' := (24, [(0, .ref 70), (1, .int a1), (2, .int a2)], [.ref 70])) rfl ?_
  refine e_gR (q := 71) 10 0 rfl rfl lc_70 lr_70_0 ?_
  refine e_gR (q := 72) 3 0 rfl rfl lc_71 lr_71_0 ?_
  refine e_L 1 (f' := (31, [(0, .ref 70), (1, .int a1), (2, .int a2)], [.int a2, .ref 72])) rfl ?_
  refine qle_gd fun h5 => ?_
  refine e_ial (n := 236) (k := a2.toNatClampNeg) rfl lc_72 ln_72 h5 rfl ?_
  exact e_rI rfl rfl
set_option maxRecDepth 100000 in
set_option maxHeartbeats 4000000 in
theorem le_X10_stateOf (en : pN) (d : Nat) (a1 : Int32) (s : qS) : qle (some (some (.int (a1 >>> ((6 : Int32) &&& 31))), s)) (qev en (d + 1) 187 [.int a1] s) := by
  refine e_enter ix_X10_stateOf (Nat.le_of_ble_eq_true rfl) ?_
  show qle _ (qE (qev en d) en (some .int) tb_X10_stateOf (0, [(0, .int a1)], []) s)
  refine e_L 3 (f' := (4, [(0, .int a1)], [.int (a1 >>> ((6 : Int32) &&& 31))])) rfl ?_
  exact e_rI rfl rfl
set_option maxRecDepth 100000 in
set_option maxHeartbeats 4000000 in
theorem le_X10_threadOf (en : pN) (d : Nat) (a1 : Int32) (s : qS) : qle (some (some (.int ((a1 >>> ((4 : Int32) &&& 31)) &&& (3 : Int32))), s)) (qev en (d + 1) 188 [.int a1] s) := by
  refine e_enter ix_X10_threadOf (Nat.le_of_ble_eq_true rfl) ?_
  show qle _ (qE (qev en d) en (some .int) tb_X10_threadOf (0, [(0, .int a1)], []) s)
  refine e_L 5 (f' := (5, [(0, .int a1)], [.int ((a1 >>> ((4 : Int32) &&& 31)) &&& (3 : Int32))])) rfl ?_
  exact e_rI rfl rfl
noncomputable def L_X10_fewestSwitches_16 (en : pN) (d : Nat) (v1 : Int32) (s : qS) : Option qR := qE (qev en d) en (some .int) tb_X10_fewestSwitches (16, [(0, .ref 70), (1, .int v1)], []) s
noncomputable def L_X10_fewestSwitches_34 (en : pN) (d : Nat) (v1 : Int32) (v3 : Int32) (v4 : Int32) (s : qS) : Option qR := qE (qev en d) en (some .int) tb_X10_fewestSwitches (34, [(0, .ref 70), (1, .int v1), (3, .int v3), (4, .int v4)], []) s
noncomputable def L_X10_fewestSwitches_49 (en : pN) (d : Nat) (v1 : Int32) (v3 : Int32) (v4 : Int32) (v5 : Int32) (s : qS) : Option qR := qE (qev en d) en (some .int) tb_X10_fewestSwitches (49, [(0, .ref 70), (1, .int v1), (3, .int v3), (4, .int v4), (5, .int v5)], []) s
set_option maxRecDepth 100000 in
set_option maxHeartbeats 4000000 in
theorem le_X10_fewestSwitches_16 (en : pN) (d : Nat) (v1 : Int32) (s : qS) : qle (bI (qev en d 185 [.ref 70, .int v1] s) (fun w1 s2 => if ¬ w1 = (0 : Int32) then L_X10_fewestSwitches_34 en d v1 (200000 : Int32) w1 s2 else some (some (.int (0 : Int32)), s2))) (L_X10_fewestSwitches_16 en d v1 s) := by
  show qle _ (qE (qev en d) en (some .int) tb_X10_fewestSwitches (16, [(0, .ref 70), (1, .int v1)], []) s)
  refine e_L 2 (f' := (18, [(0, .ref 70), (1, .int v1)], [.int v1, .ref 70])) rfl ?_
  refine e_vI 185 rfl rfl ix_X10_stateOfOutcome rfl (q_recvOf lc_70 rfl) (Nat.le_of_ble_eq_true rfl) (fun w1 s2 e3 => ?_)
  refine e_L 2 (f' := (23, [(2, .int w1), (0, .ref 70), (1, .int v1)], [.int w1])) rfl ?_
  refine e_ifz 28 rfl rfl rfl (fun c4 => ?_) (fun c4 => ?_)
  · refine e_ldcI (v := (200000 : Int32)) rfl rfl (by decide +kernel) ?_
    refine e_L 3 (f' := (34, [(4, .int w1), (3, .int (200000 : Int32)), (2, .int w1), (0, .ref 70), (1, .int v1)], [])) rfl ?_
    exact qE_sub (qsubL [3, 4, 1, 0] rfl (ks := [4, 3, 2, 0, 1]) rfl (by decide))
  · refine e_L 1 (f' := (27, [(2, .int w1), (0, .ref 70), (1, .int v1)], [.int (0 : Int32)])) rfl ?_
    exact e_rI rfl rfl
set_option maxRecDepth 100000 in
set_option maxHeartbeats 4000000 in
theorem le_X10_fewestSwitches_34 (en : pN) (d : Nat) (v1 : Int32) (v3 : Int32) (v4 : Int32) (s : qS) : qle (if (s.1 83 3) ≤ v4 then some (some (.int v3), s) else L_X10_fewestSwitches_49 en d v1 v3 v4 (0 : Int32) s) (L_X10_fewestSwitches_34 en d v1 v3 v4 s) := by
  show qle _ (qE (qev en d) en (some .int) tb_X10_fewestSwitches (34, [(0, .ref 70), (1, .int v1), (3, .int v3), (4, .int v4)], []) s)
  refine e_L 2 (f' := (37, [(0, .ref 70), (1, .int v1), (3, .int v3), (4, .int v4)], [.ref 70, .int v4])) rfl ?_
  refine e_gR (q := 83) 10 2 rfl rfl lc_70 lr_70_2 ?_
  refine e_gI 7 3 rfl rfl lc_83 ?_
  refine e_icmp 100 rfl rfl rfl (fun c1 => ?_) (fun c1 => ?_)
  · refine e_L 1 (f' := (101, [(0, .ref 70), (1, .int v1), (3, .int v3), (4, .int v4)], [.int v3])) rfl ?_
    exact e_rI rfl rfl
  · refine e_L 2 (f' := (49, [(5, .int (0 : Int32)), (0, .ref 70), (1, .int v1), (3, .int v3), (4, .int v4)], [])) rfl ?_
    exact qE_sub (qsubL [1, 2, 3, 4, 0] rfl (ks := [5, 0, 1, 3, 4]) rfl (by decide))
set_option maxRecDepth 100000 in
set_option maxHeartbeats 4000000 in
theorem le_X10_fewestSwitches_49 (en : pN) (d : Nat) (v1 : Int32) (v3 : Int32) (v4 : Int32) (v5 : Int32) (s : qS) : qle (if (4 : Int32) ≤ v5 then L_X10_fewestSwitches_34 en d v1 v3 (v4 + (1 : Int32)) s else gd (p_inB v4 20000 = true) (if ¬ ((s.1 93 v4.toNatClampNeg) >>> ((8 : Int32) &&& 31)) = (v1 + (1 : Int32)) then L_X10_fewestSwitches_34 en d v1 v3 (v4 + (1 : Int32)) s else gd (p_inB ((v4 * (4 : Int32)) + v5) 80000 = true) (bI (qev en d 412 [.int v3, .int (s.1 96 ((v4 * (4 : Int32)) + v5).toNatClampNeg)] s) (fun w5 s6 => L_X10_fewestSwitches_49 en d v1 w5 v4 (v5 + (1 : Int32)) s6)))) (L_X10_fewestSwitches_49 en d v1 v3 v4 v5 s) := by
  show qle _ (qE (qev en d) en (some .int) tb_X10_fewestSwitches (49, [(0, .ref 70), (1, .int v1), (3, .int v3), (4, .int v4), (5, .int v5)], []) s)
  refine e_L 2 (f' := (52, [(0, .ref 70), (1, .int v1), (3, .int v3), (4, .int v4), (5, .int v5)], [.int (4 : Int32), .int v5])) rfl ?_
  refine e_icmp 94 rfl rfl rfl (fun c1 => ?_) (fun c1 => ?_)
  · refine e_L 2 (f' := (34, [(4, .int (v4 + (1 : Int32))), (0, .ref 70), (1, .int v1), (3, .int v3), (5, .int v5)], [])) rfl ?_
    exact qE_sub (qsubL [1, 2, 3, 0] rfl (ks := [4, 0, 1, 3, 5]) rfl (by decide))
  · refine e_L 1 (f' := (56, [(0, .ref 70), (1, .int v1), (3, .int v3), (4, .int v4), (5, .int v5)], [.ref 70])) rfl ?_
    refine e_gR (q := 93) 10 7 rfl rfl lc_70 lr_70_7 ?_
    refine e_L 1 (f' := (61, [(0, .ref 70), (1, .int v1), (3, .int v3), (4, .int v4), (5, .int v5)], [.int v4, .ref 93])) rfl ?_
    refine qle_gd fun h2 => ?_
    refine e_ial (n := 20000) (k := v4.toNatClampNeg) rfl lc_93 ln_93 h2 rfl ?_
    refine e_L 5 (f' := (68, [(0, .ref 70), (1, .int v1), (3, .int v3), (4, .int v4), (5, .int v5)], [.int (v1 + (1 : Int32)), .int ((s.1 93 v4.toNatClampNeg) >>> ((8 : Int32) &&& 31))])) rfl ?_
    refine e_icmp 94 rfl rfl rfl (fun c3 => ?_) (fun c3 => ?_)
    · refine e_L 2 (f' := (34, [(4, .int (v4 + (1 : Int32))), (0, .ref 70), (1, .int v1), (3, .int v3), (5, .int v5)], [])) rfl ?_
      exact qE_sub (qsubL [1, 2, 3, 0] rfl (ks := [4, 0, 1, 3, 5]) rfl (by decide))
    · refine e_L 2 (f' := (73, [(0, .ref 70), (1, .int v1), (3, .int v3), (4, .int v4), (5, .int v5)], [.ref 70, .int v3])) rfl ?_
      refine e_gR (q := 96) 10 10 rfl rfl lc_70 lr_70_10 ?_
      refine e_L 5 (f' := (83, [(0, .ref 70), (1, .int v1), (3, .int v3), (4, .int v4), (5, .int v5)], [.int ((v4 * (4 : Int32)) + v5), .ref 96, .int v3])) rfl ?_
      refine qle_gd fun h4 => ?_
      refine e_ial (n := 80000) (k := ((v4 * (4 : Int32)) + v5).toNatClampNeg) rfl lc_96 ln_96 h4 rfl ?_
      refine e_sI 412 rfl rfl rfl ix_J9_min_7cf53 rfl (Nat.le_of_ble_eq_true rfl) (fun w5 s6 e7 => ?_)
      refine e_L 3 (f' := (49, [(5, .int (v5 + (1 : Int32))), (3, .int w5), (0, .ref 70), (1, .int v1), (4, .int v4)], [])) rfl ?_
      exact qE_sub (qsubL [2, 3, 1, 4, 0] rfl (ks := [5, 3, 0, 1, 4]) rfl (by decide))
set_option maxRecDepth 100000 in
set_option maxHeartbeats 4000000 in
theorem le_X10_fewestSwitches (en : pN) (d : Nat) (a1 : Int32) (s : qS) : qle (if ¬ (s.1 70 19) = (0 : Int32) then L_X10_fewestSwitches_16 en d a1 s else bV (qev en d 193 [.ref 70] s) (fun s3 => nm (uI s3 70 19 (1 : Int32)) (fun s5 => L_X10_fewestSwitches_16 en d a1 s5))) (qev en (d + 1) 192 [.ref 70, .int a1] s) := by
  refine e_enter ix_X10_fewestSwitches (Nat.le_of_ble_eq_true rfl) ?_
  show qle _ (qE (qev en d) en (some .int) tb_X10_fewestSwitches (0, [(0, .ref 70), (1, .int a1)], []) s)
  refine e_L 1 (f' := (1, [(0, .ref 70), (1, .int a1)], [.ref 70])) rfl ?_
  refine e_gI 10 19 rfl rfl lc_70 ?_
  refine e_ifz 16 rfl rfl rfl (fun c1 => ?_) (fun c1 => ?_)
  · exact qE_sub (qsubL [0, 1] rfl (ks := [0, 1]) rfl (by decide))
  · refine e_L 1 (f' := (8, [(0, .ref 70), (1, .int a1)], [.ref 70])) rfl ?_
    refine e_vV 193 rfl rfl ix_X10_countSwitches rfl (q_recvOf lc_70 rfl) (Nat.le_of_ble_eq_true rfl) (fun s3 e4 => ?_)
    refine e_L 2 (f' := (13, [(0, .ref 70), (1, .int a1)], [.int (1 : Int32), .ref 70])) rfl ?_
    refine e_pI 10 19 rfl rfl lc_70 (by decide +kernel) ?_
    refine e_nS fun s5 => ?_
    exact qE_sub (qsubL [0, 1] rfl (ks := [0, 1]) rfl (by decide))
noncomputable def L_X10_countSwitches_21 (en : pN) (d : Nat) (v1 : Int32) (s : qS) : Option qR := qE (qev en d) en none tb_X10_countSwitches (21, [(0, .ref 70), (1, .int v1)], []) s
noncomputable def L_X10_countSwitches_66 (en : pN) (d : Nat) (v1 : Int32) (s : qS) : Option qR := qE (qev en d) en none tb_X10_countSwitches (66, [(0, .ref 70), (1, .int v1)], []) s
noncomputable def L_X10_countSwitches_86 (en : pN) (d : Nat) (v1 : Int32) (v2 : Int32) (s : qS) : Option qR := qE (qev en d) en none tb_X10_countSwitches (86, [(0, .ref 70), (1, .int v1), (2, .int v2)], []) s
noncomputable def L_X10_countSwitches_135 (en : pN) (d : Nat) (v1 : Int32) (s : qS) : Option qR := qE (qev en d) en none tb_X10_countSwitches (135, [(0, .ref 70), (1, .int v1)], []) s
set_option maxRecDepth 100000 in
set_option maxHeartbeats 4000000 in
theorem le_X10_countSwitches_21 (en : pN) (d : Nat) (v1 : Int32) (s : qS) : qle (if (s.1 92 1) ≤ v1 then L_X10_countSwitches_66 en d (0 : Int32) s else gd (p_inB v1 200000 = true) (bI (qev en d 187 [.int (s.1 90 v1.toNatClampNeg)] s) (fun w3 s4 => bI (qev en d 188 [.int (s4.1 90 v1.toNatClampNeg)] s4) (fun w6 s7 => bV (qev en d 195 [.ref 70, .int ((w3 * (4 : Int32)) + w6), .int (0 : Int32), .int (0 : Int32)] s7) (fun s10 => L_X10_countSwitches_21 en d (v1 + (1 : Int32)) s10))))) (L_X10_countSwitches_21 en d v1 s) := by
  show qle _ (qE (qev en d) en none tb_X10_countSwitches (21, [(0, .ref 70), (1, .int v1)], []) s)
  refine e_L 2 (f' := (23, [(0, .ref 70), (1, .int v1)], [.ref 70, .int v1])) rfl ?_
  refine e_gR (q := 92) 10 6 rfl rfl lc_70 lr_70_6 ?_
  refine e_L 1 (f' := (27, [(0, .ref 70), (1, .int v1)], [.int (1 : Int32), .ref 92, .int v1])) rfl ?_
  refine e_ial (n := 20001) (k := 1) rfl lc_92 ln_92 (by decide +kernel) (by decide +kernel) ?_
  refine e_icmp 64 rfl rfl rfl (fun c1 => ?_) (fun c1 => ?_)
  · refine e_L 2 (f' := (66, [(1, .int (0 : Int32)), (0, .ref 70)], [])) rfl ?_
    exact qE_sub (qsubL [1, 0] rfl (ks := [1, 0]) rfl (by decide))
  · refine e_L 2 (f' := (33, [(0, .ref 70), (1, .int v1)], [.ref 70, .ref 70])) rfl ?_
    refine e_gR (q := 90) 10 4 rfl rfl lc_70 lr_70_4 ?_
    refine e_L 1 (f' := (37, [(0, .ref 70), (1, .int v1)], [.int v1, .ref 90, .ref 70])) rfl ?_
    refine qle_gd fun h2 => ?_
    refine e_ial (n := 200000) (k := v1.toNatClampNeg) rfl lc_90 ln_90 h2 rfl ?_
    refine e_sI 187 rfl rfl rfl ix_X10_stateOf rfl (Nat.le_of_ble_eq_true rfl) (fun w3 s4 e5 => ?_)
    refine e_L 3 (f' := (44, [(0, .ref 70), (1, .int v1)], [.ref 70, .int (w3 * (4 : Int32)), .ref 70])) rfl ?_
    refine e_gR (q := 90) 10 4 rfl rfl lc_70 lr_70_4 ?_
    refine e_L 1 (f' := (48, [(0, .ref 70), (1, .int v1)], [.int v1, .ref 90, .int (w3 * (4 : Int32)), .ref 70])) rfl ?_
    refine e_ial (n := 200000) (k := v1.toNatClampNeg) rfl lc_90 ln_90 h2 rfl ?_
    refine e_sI 188 rfl rfl rfl ix_X10_threadOf rfl (Nat.le_of_ble_eq_true rfl) (fun w6 s7 e8 => ?_)
    refine e_L 3 (f' := (55, [(0, .ref 70), (1, .int v1)], [.int (0 : Int32), .int (0 : Int32), .int ((w3 * (4 : Int32)) + w6), .ref 70])) rfl ?_
    refine e_vV 195 rfl rfl ix_X10_reach rfl (q_recvOf lc_70 rfl) (Nat.le_of_ble_eq_true rfl) (fun s10 e11 => ?_)
    refine e_L 2 (f' := (21, [(1, .int (v1 + (1 : Int32))), (0, .ref 70)], [])) rfl ?_
    exact qE_sub (qsubL [1, 0] rfl (ks := [1, 0]) rfl (by decide))
set_option maxRecDepth 100000 in
set_option maxHeartbeats 4000000 in
theorem le_X10_countSwitches_66 (en : pN) (d : Nat) (v1 : Int32) (s : qS) : qle (if (200000 : Int32) ≤ v1 then some (none, s) else if (s.1 70 15) ≤ (0 : Int32) then some (none, s) else nm (uI s 70 16 (0 : Int32)) (fun s3 => L_X10_countSwitches_86 en d v1 (0 : Int32) s3)) (L_X10_countSwitches_66 en d v1 s) := by
  show qle _ (qE (qev en d) en none tb_X10_countSwitches (66, [(0, .ref 70), (1, .int v1)], []) s)
  refine e_L 1 (f' := (67, [(0, .ref 70), (1, .int v1)], [.int v1])) rfl ?_
  refine e_ldcI (v := (200000 : Int32)) rfl rfl (by decide +kernel) ?_
  refine e_icmp 166 rfl rfl rfl (fun c1 => ?_) (fun c1 => ?_)
  · exact e_rV rfl rfl
  · refine e_L 1 (f' := (73, [(0, .ref 70), (1, .int v1)], [.ref 70])) rfl ?_
    refine e_gI 10 15 rfl rfl lc_70 ?_
    refine e_ifz 166 rfl rfl rfl (fun c2 => ?_) (fun c2 => ?_)
    · exact e_rV rfl rfl
    · refine e_L 2 (f' := (81, [(0, .ref 70), (1, .int v1)], [.int (0 : Int32), .ref 70])) rfl ?_
      refine e_pI 10 16 rfl rfl lc_70 rfl ?_
      refine e_nS fun s3 => ?_
      refine e_L 2 (f' := (86, [(2, .int (0 : Int32)), (0, .ref 70), (1, .int v1)], [])) rfl ?_
      exact qE_sub (qsubL [1, 2, 0] rfl (ks := [2, 0, 1]) rfl (by decide))
set_option maxRecDepth 100000 in
set_option maxHeartbeats 4000000 in
theorem le_X10_countSwitches_86 (en : pN) (d : Nat) (v1 : Int32) (v2 : Int32) (s : qS) : qle (if (80000 : Int32) ≤ v2 then L_X10_countSwitches_135 en d v1 s else if (s.1 70 15) ≤ v2 then L_X10_countSwitches_135 en d v1 s else gd (p_inB v2 80000 = true) (gd (p_inB (s.1 97 v2.toNatClampNeg) 80000 = true) (if ¬ (s.1 96 (s.1 97 v2.toNatClampNeg).toNatClampNeg) = v1 then L_X10_countSwitches_86 en d v1 (v2 + (1 : Int32)) s else bV (qev en d 194 [.ref 70, .int (s.1 97 v2.toNatClampNeg), .int v1] s) (fun s7 => L_X10_countSwitches_86 en d v1 (v2 + (1 : Int32)) s7)))) (L_X10_countSwitches_86 en d v1 v2 s) := by
  show qle _ (qE (qev en d) en none tb_X10_countSwitches (86, [(0, .ref 70), (1, .int v1), (2, .int v2)], []) s)
  refine e_L 2 (f' := (88, [(0, .ref 70), (1, .int v1), (2, .int v2)], [.ref 70, .int v2])) rfl ?_
  refine e_gR (q := 97) 10 11 rfl rfl lc_70 lr_70_11 ?_
  refine e_alen (v := (80000 : Int32)) rfl (by rw [lc_97]; decide) (by rw [ln_97]; decide +kernel) ?_
  refine e_icmp 135 rfl rfl rfl (fun c1 => ?_) (fun c1 => ?_)
  · exact qE_sub (qsubL [0, 1] rfl (ks := [0, 1, 2]) rfl (by decide))
  · refine e_L 2 (f' := (97, [(0, .ref 70), (1, .int v1), (2, .int v2)], [.ref 70, .int v2])) rfl ?_
    refine e_gI 10 15 rfl rfl lc_70 ?_
    refine e_icmp 135 rfl rfl rfl (fun c2 => ?_) (fun c2 => ?_)
    · exact qE_sub (qsubL [0, 1] rfl (ks := [0, 1, 2]) rfl (by decide))
    · refine e_L 1 (f' := (104, [(0, .ref 70), (1, .int v1), (2, .int v2)], [.ref 70])) rfl ?_
      refine e_gR (q := 96) 10 10 rfl rfl lc_70 lr_70_10 ?_
      refine e_L 1 (f' := (108, [(0, .ref 70), (1, .int v1), (2, .int v2)], [.ref 70, .ref 96])) rfl ?_
      refine e_gR (q := 97) 10 11 rfl rfl lc_70 lr_70_11 ?_
      refine e_L 1 (f' := (112, [(0, .ref 70), (1, .int v1), (2, .int v2)], [.int v2, .ref 97, .ref 96])) rfl ?_
      refine qle_gd fun h3 => ?_
      refine e_ial (n := 80000) (k := v2.toNatClampNeg) rfl lc_97 ln_97 h3 rfl ?_
      refine qle_gd fun h4 => ?_
      refine e_ial (n := 80000) (k := (s.1 97 v2.toNatClampNeg).toNatClampNeg) rfl lc_96 ln_96 h4 rfl ?_
      refine e_L 1 (f' := (115, [(0, .ref 70), (1, .int v1), (2, .int v2)], [.int v1, .int (s.1 96 (s.1 97 v2.toNatClampNeg).toNatClampNeg)])) rfl ?_
      refine e_icmp 129 rfl rfl rfl (fun c5 => ?_) (fun c5 => ?_)
      · refine e_L 2 (f' := (86, [(2, .int (v2 + (1 : Int32))), (0, .ref 70), (1, .int v1)], [])) rfl ?_
        exact qE_sub (qsubL [1, 2, 0] rfl (ks := [2, 0, 1]) rfl (by decide))
      · refine e_L 2 (f' := (120, [(0, .ref 70), (1, .int v1), (2, .int v2)], [.ref 70, .ref 70])) rfl ?_
        refine e_gR (q := 97) 10 11 rfl rfl lc_70 lr_70_11 ?_
        refine e_L 1 (f' := (124, [(0, .ref 70), (1, .int v1), (2, .int v2)], [.int v2, .ref 97, .ref 70])) rfl ?_
        refine e_ial (n := 80000) (k := v2.toNatClampNeg) rfl lc_97 ln_97 h3 rfl ?_
        refine e_L 1 (f' := (126, [(0, .ref 70), (1, .int v1), (2, .int v2)], [.int v1, .int (s.1 97 v2.toNatClampNeg), .ref 70])) rfl ?_
        refine e_vV 194 rfl rfl ix_X10_leaveFrom rfl (q_recvOf lc_70 rfl) (Nat.le_of_ble_eq_true rfl) (fun s7 e8 => ?_)
        refine e_L 2 (f' := (86, [(2, .int (v2 + (1 : Int32))), (0, .ref 70), (1, .int v1)], [])) rfl ?_
        exact qE_sub (qsubL [1, 2, 0] rfl (ks := [2, 0, 1]) rfl (by decide))
set_option maxRecDepth 100000 in
set_option maxHeartbeats 4000000 in
theorem le_X10_countSwitches_135 (en : pN) (d : Nat) (v1 : Int32) (s : qS) : qle (nm (uI s 70 15 (s.1 70 16)) (fun s1 => gd (cpG (0 : Int32) (0 : Int32) (s1.1 70 16) 80000 80000) (nm (uIr s1 97 (va_cpy (s1.1 98) (s1.1 97) (0 : Int32).toNatClampNeg (0 : Int32).toNatClampNeg (s1.1 70 16).toNatClampNeg)) (fun s3 => L_X10_countSwitches_66 en d (v1 + (1 : Int32)) s3)))) (L_X10_countSwitches_135 en d v1 s) := by
  show qle _ (qE (qev en d) en none tb_X10_countSwitches (135, [(0, .ref 70), (1, .int v1)], []) s)
  refine e_L 2 (f' := (137, [(0, .ref 70), (1, .int v1)], [.ref 70, .ref 70])) rfl ?_
  refine e_gI 10 16 rfl rfl lc_70 ?_
  refine e_pI 10 15 rfl rfl lc_70 rfl ?_
  refine e_nS fun s1 => ?_
  refine e_L 1 (f' := (144, [(0, .ref 70), (1, .int v1)], [.ref 70])) rfl ?_
  refine e_gR (q := 98) 10 12 rfl rfl lc_70 lr_70_12 ?_
  refine e_L 2 (f' := (149, [(0, .ref 70), (1, .int v1)], [.ref 70, .int (0 : Int32), .ref 98])) rfl ?_
  refine e_gR (q := 97) 10 11 rfl rfl lc_70 lr_70_11 ?_
  refine e_L 2 (f' := (154, [(0, .ref 70), (1, .int v1)], [.ref 70, .int (0 : Int32), .ref 97, .int (0 : Int32), .ref 98])) rfl ?_
  refine e_gI 10 16 rfl rfl lc_70 ?_
  refine qle_gd fun h2 => ?_
  refine e_cpI (n0 := 80000) (n1 := 80000) rfl rfl (Nat.le_of_ble_eq_true rfl) ⟨lc_98, lc_97⟩ ln_98 ln_97 h2 ?_
  refine e_nS fun s3 => ?_
  refine e_L 2 (f' := (66, [(1, .int (v1 + (1 : Int32))), (0, .ref 70)], [])) rfl ?_
  exact qE_sub (qsubL [1, 0] rfl (ks := [1, 0]) rfl (by decide))
set_option maxRecDepth 100000 in
set_option maxHeartbeats 4000000 in
theorem le_X10_countSwitches (en : pN) (d : Nat) (s : qS) : qle (bV (qev en d 435 [.ref 96, .int (200000 : Int32)] s) (fun s2 => nm (uI s2 70 15 (0 : Int32)) (fun s4 => L_X10_countSwitches_21 en d (s4.1 92 0) s4))) (qev en (d + 1) 193 [.ref 70] s) := by
  refine e_enter ix_X10_countSwitches (Nat.le_of_ble_eq_true rfl) ?_
  show qle _ (qE (qev en d) en none tb_X10_countSwitches (0, [(0, .ref 70)], []) s)
  refine e_L 1 (f' := (1, [(0, .ref 70)], [.ref 70])) rfl ?_
  refine e_gR (q := 96) 10 10 rfl rfl lc_70 lr_70_10 ?_
  refine e_ldcI (v := (200000 : Int32)) rfl rfl (by decide +kernel) ?_
  refine e_sV 435 rfl rfl rfl ix_J7_fill_53178 rfl (Nat.le_of_ble_eq_true rfl) (fun s2 e3 => ?_)
  refine e_L 2 (f' := (11, [(0, .ref 70)], [.int (0 : Int32), .ref 70])) rfl ?_
  refine e_pI 10 15 rfl rfl lc_70 rfl ?_
  refine e_nS fun s4 => ?_
  refine e_L 1 (f' := (15, [(0, .ref 70)], [.ref 70])) rfl ?_
  refine e_gR (q := 92) 10 6 rfl rfl lc_70 lr_70_6 ?_
  refine e_L 1 (f' := (19, [(0, .ref 70)], [.int (0 : Int32), .ref 92])) rfl ?_
  refine e_ial (n := 20001) (k := 0) rfl lc_92 ln_92 (by decide +kernel) (by decide +kernel) ?_
  refine e_L 1 (f' := (21, [(1, .int (s4.1 92 0)), (0, .ref 70)], [])) rfl ?_
  exact qE_sub (qsubL [1, 0] rfl (ks := [1, 0]) rfl (by decide))
noncomputable def L_X10_leaveFrom_28 (en : pN) (d : Nat) (v2 : Int32) (v3 : Int32) (v4 : Int32) (vs0 : Int32) (s : qS) : Option qR := qE (qev en d) en none tb_X10_leaveFrom (28, [(0, .ref 70), (2, .int v2), (3, .int v3), (4, .int v4)], [.int vs0]) s
noncomputable def L_X10_leaveFrom_38 (en : pN) (d : Nat) (v2 : Int32) (v3 : Int32) (v4 : Int32) (v5 : Int32) (v6 : Int32) (s : qS) : Option qR := qE (qev en d) en none tb_X10_leaveFrom (38, [(0, .ref 70), (2, .int v2), (3, .int v3), (4, .int v4), (5, .int v5), (6, .int v6)], []) s
noncomputable def L_X10_leaveFrom_97 (en : pN) (d : Nat) (v2 : Int32) (v3 : Int32) (v4 : Int32) (v5 : Int32) (v6 : Int32) (vs1 : Int32) (vs2 : Int32) (vs3 : Int32) (s : qS) : Option qR := qE (qev en d) en none tb_X10_leaveFrom (97, [(0, .ref 70), (2, .int v2), (3, .int v3), (4, .int v4), (5, .int v5), (6, .int v6)], [.int vs3, .int vs2, .int vs1, .ref 70]) s
set_option maxRecDepth 100000 in
set_option maxHeartbeats 4000000 in
theorem le_X10_leaveFrom_28 (en : pN) (d : Nat) (v2 : Int32) (v3 : Int32) (v4 : Int32) (vs0 : Int32) (s : qS) : qle (gd (p_inB v3 20001 = true) (nm (s.1 92 v3.toNatClampNeg) (fun z2 => L_X10_leaveFrom_38 en d v2 v3 v4 vs0 z2 s))) (L_X10_leaveFrom_28 en d v2 v3 v4 vs0 s) := by
  show qle _ (qE (qev en d) en none tb_X10_leaveFrom (28, [(0, .ref 70), (2, .int v2), (3, .int v3), (4, .int v4)], [.int vs0]) s)
  refine e_L 2 (f' := (31, [(5, .int vs0), (0, .ref 70), (2, .int v2), (3, .int v3), (4, .int v4)], [.ref 70])) rfl ?_
  refine e_gR (q := 92) 10 6 rfl rfl lc_70 lr_70_6 ?_
  refine e_L 1 (f' := (35, [(5, .int vs0), (0, .ref 70), (2, .int v2), (3, .int v3), (4, .int v4)], [.int v3, .ref 92])) rfl ?_
  refine qle_gd fun h1 => ?_
  refine e_ial (n := 20001) (k := v3.toNatClampNeg) rfl lc_92 ln_92 h1 rfl ?_
  refine e_nI fun z2 => ?_
  refine e_L 1 (f' := (38, [(6, .int z2), (5, .int vs0), (0, .ref 70), (2, .int v2), (3, .int v3), (4, .int v4)], [])) rfl ?_
  exact qE_sub (qsubL [2, 3, 4, 5, 1, 0] rfl (ks := [6, 5, 0, 2, 3, 4]) rfl (by decide))
set_option maxRecDepth 100000 in
set_option maxHeartbeats 4000000 in
theorem le_X10_leaveFrom_38 (en : pN) (d : Nat) (v2 : Int32) (v3 : Int32) (v4 : Int32) (v5 : Int32) (v6 : Int32) (s : qS) : qle (gd (p_inB (v3 + (1 : Int32)) 20001 = true) (if (s.1 92 (v3 + (1 : Int32)).toNatClampNeg) ≤ v6 then some (none, s) else gd (p_inB v6 200000 = true) (bI (qev en d 188 [.int (s.1 90 v6.toNatClampNeg)] s) (fun w4 s5 => bI (qev en d 187 [.int (s5.1 90 v6.toNatClampNeg)] s5) (fun w7 s8 => if w4 = v4 then L_X10_leaveFrom_97 en d v2 v3 v4 v5 v6 ((w7 * (4 : Int32)) + w4) v2 (0 : Int32) s8 else if v5 = (0 : Int32) then L_X10_leaveFrom_97 en d v2 v3 v4 v5 v6 ((w7 * (4 : Int32)) + w4) v2 (0 : Int32) s8 else L_X10_leaveFrom_97 en d v2 v3 v4 v5 v6 ((w7 * (4 : Int32)) + w4) v2 (1 : Int32) s8))))) (L_X10_leaveFrom_38 en d v2 v3 v4 v5 v6 s) := by
  show qle _ (qE (qev en d) en none tb_X10_leaveFrom (38, [(0, .ref 70), (2, .int v2), (3, .int v3), (4, .int v4), (5, .int v5), (6, .int v6)], []) s)
  refine e_L 2 (f' := (41, [(0, .ref 70), (2, .int v2), (3, .int v3), (4, .int v4), (5, .int v5), (6, .int v6)], [.ref 70, .int v6])) rfl ?_
  refine e_gR (q := 92) 10 6 rfl rfl lc_70 lr_70_6 ?_
  refine e_L 3 (f' := (47, [(0, .ref 70), (2, .int v2), (3, .int v3), (4, .int v4), (5, .int v5), (6, .int v6)], [.int (v3 + (1 : Int32)), .ref 92, .int v6])) rfl ?_
  refine qle_gd fun h1 => ?_
  refine e_ial (n := 20001) (k := (v3 + (1 : Int32)).toNatClampNeg) rfl lc_92 ln_92 h1 rfl ?_
  refine e_icmp 106 rfl rfl rfl (fun c2 => ?_) (fun c2 => ?_)
  · exact e_rV rfl rfl
  · refine e_L 1 (f' := (52, [(0, .ref 70), (2, .int v2), (3, .int v3), (4, .int v4), (5, .int v5), (6, .int v6)], [.ref 70])) rfl ?_
    refine e_gR (q := 90) 10 4 rfl rfl lc_70 lr_70_4 ?_
    refine e_L 1 (f' := (57, [(0, .ref 70), (2, .int v2), (3, .int v3), (4, .int v4), (5, .int v5), (6, .int v6)], [.int v6, .ref 90])) rfl ?_
    refine qle_gd fun h3 => ?_
    refine e_ial (n := 200000) (k := v6.toNatClampNeg) rfl lc_90 ln_90 h3 rfl ?_
    refine e_sI 188 rfl rfl rfl ix_X10_threadOf rfl (Nat.le_of_ble_eq_true rfl) (fun w4 s5 e6 => ?_)
    refine e_L 3 (f' := (65, [(7, .int w4), (0, .ref 70), (2, .int v2), (3, .int v3), (4, .int v4), (5, .int v5), (6, .int v6)], [.ref 70, .ref 70])) rfl ?_
    refine e_gR (q := 90) 10 4 rfl rfl lc_70 lr_70_4 ?_
    refine e_L 1 (f' := (70, [(7, .int w4), (0, .ref 70), (2, .int v2), (3, .int v3), (4, .int v4), (5, .int v5), (6, .int v6)], [.int v6, .ref 90, .ref 70])) rfl ?_
    refine e_ial (n := 200000) (k := v6.toNatClampNeg) rfl lc_90 ln_90 h3 rfl ?_
    refine e_sI 187 rfl rfl rfl ix_X10_stateOf rfl (Nat.le_of_ble_eq_true rfl) (fun w7 s8 e9 => ?_)
    refine e_L 7 (f' := (84, [(7, .int w4), (0, .ref 70), (2, .int v2), (3, .int v3), (4, .int v4), (5, .int v5), (6, .int v6)], [.int v4, .int w4, .int v2, .int ((w7 * (4 : Int32)) + w4), .ref 70])) rfl ?_
    refine e_icmp 96 rfl rfl rfl (fun c10 => ?_) (fun c10 => ?_)
    · refine e_L 1 (f' := (97, [(7, .int w4), (0, .ref 70), (2, .int v2), (3, .int v3), (4, .int v4), (5, .int v5), (6, .int v6)], [.int (0 : Int32), .int v2, .int ((w7 * (4 : Int32)) + w4), .ref 70])) rfl ?_
      exact qE_sub (qsubL [1, 2, 3, 4, 5, 6] rfl (ks := [7, 0, 2, 3, 4, 5, 6]) rfl (by decide))
    · refine e_L 1 (f' := (89, [(7, .int w4), (0, .ref 70), (2, .int v2), (3, .int v3), (4, .int v4), (5, .int v5), (6, .int v6)], [.int v5, .int v2, .int ((w7 * (4 : Int32)) + w4), .ref 70])) rfl ?_
      refine e_ifz 96 rfl rfl rfl (fun c11 => ?_) (fun c11 => ?_)
      · refine e_L 1 (f' := (97, [(7, .int w4), (0, .ref 70), (2, .int v2), (3, .int v3), (4, .int v4), (5, .int v5), (6, .int v6)], [.int (0 : Int32), .int v2, .int ((w7 * (4 : Int32)) + w4), .ref 70])) rfl ?_
        exact qE_sub (qsubL [1, 2, 3, 4, 5, 6] rfl (ks := [7, 0, 2, 3, 4, 5, 6]) rfl (by decide))
      · refine e_L 2 (f' := (97, [(7, .int w4), (0, .ref 70), (2, .int v2), (3, .int v3), (4, .int v4), (5, .int v5), (6, .int v6)], [.int (1 : Int32), .int v2, .int ((w7 * (4 : Int32)) + w4), .ref 70])) rfl ?_
        exact qE_sub (qsubL [1, 2, 3, 4, 5, 6] rfl (ks := [7, 0, 2, 3, 4, 5, 6]) rfl (by decide))
set_option maxRecDepth 100000 in
set_option maxHeartbeats 4000000 in
theorem le_X10_leaveFrom_97 (en : pN) (d : Nat) (v2 : Int32) (v3 : Int32) (v4 : Int32) (v5 : Int32) (v6 : Int32) (vs1 : Int32) (vs2 : Int32) (vs3 : Int32) (s : qS) : qle (bV (qev en d 195 [.ref 70, .int vs1, .int vs2, .int vs3] s) (fun s2 => L_X10_leaveFrom_38 en d v2 v3 v4 v5 (v6 + (1 : Int32)) s2)) (L_X10_leaveFrom_97 en d v2 v3 v4 v5 v6 vs1 vs2 vs3 s) := by
  show qle _ (qE (qev en d) en none tb_X10_leaveFrom (97, [(0, .ref 70), (2, .int v2), (3, .int v3), (4, .int v4), (5, .int v5), (6, .int v6)], [.int vs3, .int vs2, .int vs1, .ref 70]) s)
  refine e_vV 195 rfl rfl ix_X10_reach rfl (q_recvOf lc_70 rfl) (Nat.le_of_ble_eq_true rfl) (fun s2 e3 => ?_)
  refine e_L 2 (f' := (38, [(6, .int (v6 + (1 : Int32))), (0, .ref 70), (2, .int v2), (3, .int v3), (4, .int v4), (5, .int v5)], [])) rfl ?_
  exact qE_sub (qsubL [1, 2, 3, 4, 5, 0] rfl (ks := [6, 0, 2, 3, 4, 5]) rfl (by decide))
set_option maxRecDepth 100000 in
set_option maxHeartbeats 4000000 in
theorem le_X10_leaveFrom (en : pN) (d : Nat) (a1 : Int32) (a2 : Int32) (s : qS) : qle (nm (a1 - a1 / (4 : Int32) * (4 : Int32)) (fun z1 => gd (p_inB (a1 / (4 : Int32)) 20000 = true) (if (((s.1 93 (a1 / (4 : Int32)).toNatClampNeg) >>> (z1 &&& 31)) &&& (1 : Int32)) = (0 : Int32) then L_X10_leaveFrom_28 en d a2 (a1 / (4 : Int32)) z1 (0 : Int32) s else L_X10_leaveFrom_28 en d a2 (a1 / (4 : Int32)) z1 (1 : Int32) s))) (qev en (d + 1) 194 [.ref 70, .int a1, .int a2] s) := by
  refine e_enter ix_X10_leaveFrom (Nat.le_of_ble_eq_true rfl) ?_
  show qle _ (qE (qev en d) en none tb_X10_leaveFrom (0, [(0, .ref 70), (1, .int a1), (2, .int a2)], []) s)
  refine e_L 2 (f' := (2, [(0, .ref 70), (1, .int a1), (2, .int a2)], [.int (4 : Int32), .int a1])) rfl ?_
  refine e_div rfl (by decide) ?_
  refine e_L 3 (f' := (6, [(3, .int (a1 / (4 : Int32))), (0, .ref 70), (1, .int a1), (2, .int a2)], [.int (4 : Int32), .int a1])) rfl ?_
  refine e_rem rfl (by decide) ?_
  refine e_nI fun z1 => ?_
  refine e_L 2 (f' := (10, [(4, .int z1), (3, .int (a1 / (4 : Int32))), (0, .ref 70), (1, .int a1), (2, .int a2)], [.ref 70])) rfl ?_
  refine e_gR (q := 93) 10 7 rfl rfl lc_70 lr_70_7 ?_
  refine e_L 1 (f' := (14, [(4, .int z1), (3, .int (a1 / (4 : Int32))), (0, .ref 70), (1, .int a1), (2, .int a2)], [.int (a1 / (4 : Int32)), .ref 93])) rfl ?_
  refine qle_gd fun h2 => ?_
  refine e_ial (n := 20000) (k := (a1 / (4 : Int32)).toNatClampNeg) rfl lc_93 ln_93 h2 rfl ?_
  refine e_L 4 (f' := (20, [(4, .int z1), (3, .int (a1 / (4 : Int32))), (0, .ref 70), (1, .int a1), (2, .int a2)], [.int (((s.1 93 (a1 / (4 : Int32)).toNatClampNeg) >>> (z1 &&& 31)) &&& (1 : Int32))])) rfl ?_
  refine e_ifz 27 rfl rfl rfl (fun c3 => ?_) (fun c3 => ?_)
  · refine e_L 1 (f' := (28, [(4, .int z1), (3, .int (a1 / (4 : Int32))), (0, .ref 70), (1, .int a1), (2, .int a2)], [.int (0 : Int32)])) rfl ?_
    exact qE_sub (qsubL [2, 4, 1, 0] rfl (ks := [4, 3, 0, 1, 2]) rfl (by decide))
  · refine e_L 2 (f' := (28, [(4, .int z1), (3, .int (a1 / (4 : Int32))), (0, .ref 70), (1, .int a1), (2, .int a2)], [.int (1 : Int32)])) rfl ?_
    exact qE_sub (qsubL [2, 4, 1, 0] rfl (ks := [4, 3, 0, 1, 2]) rfl (by decide))
set_option maxRecDepth 100000 in
set_option maxHeartbeats 4000000 in
theorem le_X10_reach (en : pN) (d : Nat) (a1 : Int32) (a2 : Int32) (a3 : Int32) (s : qS) : qle (gd (p_inB a1 80000 = true) (if (a2 + a3) < (s.1 96 a1.toNatClampNeg) then nm (uI s 96 (a1.toNatClampNeg) (a2 + a3)) (fun s3 => if ¬ a3 = (0 : Int32) then gd (p_inB (s3.1 70 16) 80000 = true) (nm (uI s3 98 ((s3.1 70 16).toNatClampNeg) a1) (fun s6 => nm (uI s6 70 16 ((s6.1 70 16) + (1 : Int32))) (fun s7 => some (none, s7)))) else gd (p_inB (s3.1 70 15) 80000 = true) (nm (uI s3 97 ((s3.1 70 15).toNatClampNeg) a1) (fun s9 => nm (uI s9 70 15 ((s9.1 70 15) + (1 : Int32))) (fun s10 => some (none, s10))))) else some (none, s))) (qev en (d + 1) 195 [.ref 70, .int a1, .int a2, .int a3] s) := by
  refine e_enter ix_X10_reach (Nat.le_of_ble_eq_true rfl) ?_
  show qle _ (qE (qev en d) en none tb_X10_reach (0, [(0, .ref 70), (1, .int a1), (2, .int a2), (3, .int a3)], []) s)
  refine e_L 1 (f' := (1, [(0, .ref 70), (1, .int a1), (2, .int a2), (3, .int a3)], [.ref 70])) rfl ?_
  refine e_gR (q := 96) 10 10 rfl rfl lc_70 lr_70_10 ?_
  refine e_L 1 (f' := (5, [(0, .ref 70), (1, .int a1), (2, .int a2), (3, .int a3)], [.int a1, .ref 96])) rfl ?_
  refine qle_gd fun h1 => ?_
  refine e_ial (n := 80000) (k := a1.toNatClampNeg) rfl lc_96 ln_96 h1 rfl ?_
  refine e_L 3 (f' := (9, [(0, .ref 70), (1, .int a1), (2, .int a2), (3, .int a3)], [.int (a2 + a3), .int (s.1 96 a1.toNatClampNeg)])) rfl ?_
  refine e_icmp 13 rfl rfl rfl (fun c2 => ?_) (fun c2 => ?_)
  · refine e_L 1 (f' := (14, [(0, .ref 70), (1, .int a1), (2, .int a2), (3, .int a3)], [.ref 70])) rfl ?_
    refine e_gR (q := 96) 10 10 rfl rfl lc_70 lr_70_10 ?_
    refine e_L 4 (f' := (21, [(0, .ref 70), (1, .int a1), (2, .int a2), (3, .int a3)], [.int (a2 + a3), .int a1, .ref 96])) rfl ?_
    refine e_ias (n := 80000) (k := a1.toNatClampNeg) rfl lc_96 ln_96 h1 rfl ?_
    refine e_nS fun s3 => ?_
    refine e_L 1 (f' := (23, [(0, .ref 70), (1, .int a1), (2, .int a2), (3, .int a3)], [.int a3])) rfl ?_
    refine e_ifz 49 rfl rfl rfl (fun c4 => ?_) (fun c4 => ?_)
    · refine e_L 1 (f' := (50, [(0, .ref 70), (1, .int a1), (2, .int a2), (3, .int a3)], [.ref 70])) rfl ?_
      refine e_gR (q := 98) 10 12 rfl rfl lc_70 lr_70_12 ?_
      refine e_L 1 (f' := (54, [(0, .ref 70), (1, .int a1), (2, .int a2), (3, .int a3)], [.ref 70, .ref 98])) rfl ?_
      refine e_gI 10 16 rfl rfl lc_70 ?_
      refine e_L 1 (f' := (58, [(0, .ref 70), (1, .int a1), (2, .int a2), (3, .int a3)], [.int a1, .int (s3.1 70 16), .ref 98])) rfl ?_
      refine qle_gd fun h5 => ?_
      refine e_ias (n := 80000) (k := (s3.1 70 16).toNatClampNeg) rfl lc_98 ln_98 h5 rfl ?_
      refine e_nS fun s6 => ?_
      refine e_L 2 (f' := (61, [(0, .ref 70), (1, .int a1), (2, .int a2), (3, .int a3)], [.ref 70, .ref 70])) rfl ?_
      refine e_gI 10 16 rfl rfl lc_70 ?_
      refine e_L 2 (f' := (66, [(0, .ref 70), (1, .int a1), (2, .int a2), (3, .int a3)], [.int ((s6.1 70 16) + (1 : Int32)), .ref 70])) rfl ?_
      refine e_pI 10 16 rfl rfl lc_70 rfl ?_
      refine e_nS fun s7 => ?_
      exact e_rV rfl rfl
    · refine e_L 1 (f' := (27, [(0, .ref 70), (1, .int a1), (2, .int a2), (3, .int a3)], [.ref 70])) rfl ?_
      refine e_gR (q := 97) 10 11 rfl rfl lc_70 lr_70_11 ?_
      refine e_L 1 (f' := (31, [(0, .ref 70), (1, .int a1), (2, .int a2), (3, .int a3)], [.ref 70, .ref 97])) rfl ?_
      refine e_gI 10 15 rfl rfl lc_70 ?_
      refine e_L 1 (f' := (35, [(0, .ref 70), (1, .int a1), (2, .int a2), (3, .int a3)], [.int a1, .int (s3.1 70 15), .ref 97])) rfl ?_
      refine qle_gd fun h8 => ?_
      refine e_ias (n := 80000) (k := (s3.1 70 15).toNatClampNeg) rfl lc_97 ln_97 h8 rfl ?_
      refine e_nS fun s9 => ?_
      refine e_L 2 (f' := (38, [(0, .ref 70), (1, .int a1), (2, .int a2), (3, .int a3)], [.ref 70, .ref 70])) rfl ?_
      refine e_gI 10 15 rfl rfl lc_70 ?_
      refine e_L 2 (f' := (43, [(0, .ref 70), (1, .int a1), (2, .int a2), (3, .int a3)], [.int ((s9.1 70 15) + (1 : Int32)), .ref 70])) rfl ?_
      refine e_pI 10 15 rfl rfl lc_70 rfl ?_
      refine e_nS fun s10 => ?_
      refine e_L 1 (f' := (69, [(0, .ref 70), (1, .int a1), (2, .int a2), (3, .int a3)], [])) rfl ?_
      exact e_rV rfl rfl
  · exact e_rV rfl rfl
noncomputable def L_X10_countChances_6 (en : pN) (d : Nat) (v1 : Int32) (v2 : Int32) (v3 : Int32) (v4 : Int32) (v5 : Int32) (s : qS) : Option qR := qE (qev en d) en (some .int) tb_X10_countChances (6, [(0, .ref 70), (1, .int v1), (2, .int v2), (3, .int v3), (4, .int v4), (5, .int v5)], []) s
noncomputable def L_X10_countChances_44 (en : pN) (d : Nat) (v1 : Int32) (v2 : Int32) (v3 : Int32) (v4 : Int32) (vs0 : Int32) (s : qS) : Option qR := qE (qev en d) en (some .int) tb_X10_countChances (44, [(0, .ref 70), (1, .int v1), (2, .int v2), (3, .int v3), (4, .int v4)], [.int vs0]) s
noncomputable def L_X10_countChances_64 (en : pN) (d : Nat) (v1 : Int32) (v2 : Int32) (v4 : Int32) (v5 : Int32) (v6 : Int32) (v7 : Int32) (v8 : Int32) (s : qS) : Option qR := qE (qev en d) en (some .int) tb_X10_countChances (64, [(0, .ref 70), (1, .int v1), (2, .int v2), (4, .int v4), (5, .int v5), (6, .int v6), (7, .int v7), (8, .int v8)], []) s
noncomputable def L_X10_countChances_83 (en : pN) (d : Nat) (v1 : Int32) (v2 : Int32) (v4 : Int32) (v5 : Int32) (v6 : Int32) (v7 : Int32) (v8 : Int32) (v9 : Int32) (s : qS) : Option qR := qE (qev en d) en (some .int) tb_X10_countChances (83, [(0, .ref 70), (1, .int v1), (2, .int v2), (4, .int v4), (5, .int v5), (6, .int v6), (7, .int v7), (8, .int v8), (9, .int v9)], []) s
noncomputable def L_X10_countChances_103 (en : pN) (d : Nat) (v1 : Int32) (v2 : Int32) (v4 : Int32) (v5 : Int32) (v6 : Int32) (v7 : Int32) (v8 : Int32) (v9 : Int32) (v10 : Int32) (s : qS) : Option qR := qE (qev en d) en (some .int) tb_X10_countChances (103, [(0, .ref 70), (1, .int v1), (2, .int v2), (4, .int v4), (5, .int v5), (6, .int v6), (7, .int v7), (8, .int v8), (9, .int v9), (10, .int v10)], []) s
set_option maxRecDepth 100000 in
set_option maxHeartbeats 4000000 in
theorem le_X10_countChances_6 (en : pN) (d : Nat) (v1 : Int32) (v2 : Int32) (v3 : Int32) (v4 : Int32) (v5 : Int32) (s : qS) : qle (gd (s.2.2 71 7 ≠ 0 ∧ lc (s.2.2 71 7 - 1) = 5) (nm (s.2.2 71 7 - 1) (fun q2 => if (s.1 q2 11) < v5 then if v2 ≤ (1 : Int32) then L_X10_countChances_44 en d v1 v2 v3 v4 (0 : Int32) s else L_X10_countChances_44 en d v1 v2 v3 v4 v3 s else L_X10_countChances_6 en d v1 v2 v3 (v4 * v5) (v5 + (1 : Int32)) s))) (L_X10_countChances_6 en d v1 v2 v3 v4 v5 s) := by
  show qle _ (qE (qev en d) en (some .int) tb_X10_countChances (6, [(0, .ref 70), (1, .int v1), (2, .int v2), (3, .int v3), (4, .int v4), (5, .int v5)], []) s)
  refine e_L 2 (f' := (9, [(0, .ref 70), (1, .int v1), (2, .int v2), (3, .int v3), (4, .int v4), (5, .int v5)], [.ref 70, .int v5])) rfl ?_
  refine e_gR (q := 71) 10 0 rfl rfl lc_70 lr_70_0 ?_
  refine qle_gd fun h1 => ?_
  refine e_gM 3 7 rfl rfl lc_71 h1.1 ?_
  refine e_nR (ci := 5) h1.2 fun q2 h_q2 => ?_
  refine e_gI 5 11 rfl rfl h_q2 ?_
  refine e_icmp 34 rfl rfl rfl (fun c3 => ?_) (fun c3 => ?_)
  · refine e_L 2 (f' := (36, [(0, .ref 70), (1, .int v1), (2, .int v2), (3, .int v3), (4, .int v4), (5, .int v5)], [.int (1 : Int32), .int v2])) rfl ?_
    refine e_icmp 43 rfl rfl rfl (fun c4 => ?_) (fun c4 => ?_)
    · refine e_L 1 (f' := (44, [(0, .ref 70), (1, .int v1), (2, .int v2), (3, .int v3), (4, .int v4), (5, .int v5)], [.int (0 : Int32)])) rfl ?_
      exact qE_sub (qsubL [0, 1, 2, 3, 4] rfl (ks := [0, 1, 2, 3, 4, 5]) rfl (by decide))
    · refine e_L 2 (f' := (44, [(0, .ref 70), (1, .int v1), (2, .int v2), (3, .int v3), (4, .int v4), (5, .int v5)], [.int v3])) rfl ?_
      exact qE_sub (qsubL [0, 1, 2, 3, 4] rfl (ks := [0, 1, 2, 3, 4, 5]) rfl (by decide))
  · refine e_L 6 (f' := (6, [(5, .int (v5 + (1 : Int32))), (4, .int (v4 * v5)), (0, .ref 70), (1, .int v1), (2, .int v2), (3, .int v3)], [])) rfl ?_
    exact qE_sub (qsubL [2, 3, 4, 5, 1, 0] rfl (ks := [5, 4, 0, 1, 2, 3]) rfl (by decide))
set_option maxRecDepth 100000 in
set_option maxHeartbeats 4000000 in
theorem le_X10_countChances_44 (en : pN) (d : Nat) (v1 : Int32) (v2 : Int32) (v3 : Int32) (v4 : Int32) (vs0 : Int32) (s : qS) : qle (if v2 ≤ (2 : Int32) then L_X10_countChances_64 en d v1 v2 v4 vs0 (0 : Int32) (0 : Int32) (0 : Int32) s else L_X10_countChances_64 en d v1 v2 v4 vs0 v3 (0 : Int32) (0 : Int32) s) (L_X10_countChances_44 en d v1 v2 v3 v4 vs0 s) := by
  show qle _ (qE (qev en d) en (some .int) tb_X10_countChances (44, [(0, .ref 70), (1, .int v1), (2, .int v2), (3, .int v3), (4, .int v4)], [.int vs0]) s)
  refine e_L 3 (f' := (48, [(5, .int vs0), (0, .ref 70), (1, .int v1), (2, .int v2), (3, .int v3), (4, .int v4)], [.int (2 : Int32), .int v2])) rfl ?_
  refine e_icmp 55 rfl rfl rfl (fun c1 => ?_) (fun c1 => ?_)
  · refine e_L 6 (f' := (64, [(8, .int (0 : Int32)), (7, .int (0 : Int32)), (6, .int (0 : Int32)), (5, .int vs0), (0, .ref 70), (1, .int v1), (2, .int v2), (3, .int v3), (4, .int v4)], [])) rfl ?_
    exact qE_sub (qsubL [4, 5, 6, 8, 3, 2, 1, 0] rfl (ks := [8, 7, 6, 5, 0, 1, 2, 3, 4]) rfl (by decide))
  · refine e_L 7 (f' := (64, [(8, .int (0 : Int32)), (7, .int (0 : Int32)), (6, .int v3), (5, .int vs0), (0, .ref 70), (1, .int v1), (2, .int v2), (3, .int v3), (4, .int v4)], [])) rfl ?_
    exact qE_sub (qsubL [4, 5, 6, 8, 3, 2, 1, 0] rfl (ks := [8, 7, 6, 5, 0, 1, 2, 3, 4]) rfl (by decide))
set_option maxRecDepth 100000 in
set_option maxHeartbeats 4000000 in
theorem le_X10_countChances_64 (en : pN) (d : Nat) (v1 : Int32) (v2 : Int32) (v4 : Int32) (v5 : Int32) (v6 : Int32) (v7 : Int32) (v8 : Int32) (s : qS) : qle (if v4 ≤ v8 then some (some (.int v7), s) else if v2 ≤ (1 : Int32) then L_X10_countChances_83 en d v1 v2 v4 v5 v6 v7 v8 (0 : Int32) s else L_X10_countChances_83 en d v1 v2 v4 v5 v6 v7 v8 (1 : Int32) s) (L_X10_countChances_64 en d v1 v2 v4 v5 v6 v7 v8 s) := by
  show qle _ (qE (qev en d) en (some .int) tb_X10_countChances (64, [(0, .ref 70), (1, .int v1), (2, .int v2), (4, .int v4), (5, .int v5), (6, .int v6), (7, .int v7), (8, .int v8)], []) s)
  refine e_L 2 (f' := (68, [(0, .ref 70), (1, .int v1), (2, .int v2), (4, .int v4), (5, .int v5), (6, .int v6), (7, .int v7), (8, .int v8)], [.int v4, .int v8])) rfl ?_
  refine e_icmp 164 rfl rfl rfl (fun c1 => ?_) (fun c1 => ?_)
  · refine e_L 1 (f' := (166, [(0, .ref 70), (1, .int v1), (2, .int v2), (4, .int v4), (5, .int v5), (6, .int v6), (7, .int v7), (8, .int v8)], [.int v7])) rfl ?_
    exact e_rI rfl rfl
  · refine e_L 2 (f' := (73, [(0, .ref 70), (1, .int v1), (2, .int v2), (4, .int v4), (5, .int v5), (6, .int v6), (7, .int v7), (8, .int v8)], [.int (1 : Int32), .int v2])) rfl ?_
    refine e_icmp 80 rfl rfl rfl (fun c2 => ?_) (fun c2 => ?_)
    · refine e_L 2 (f' := (83, [(9, .int (0 : Int32)), (0, .ref 70), (1, .int v1), (2, .int v2), (4, .int v4), (5, .int v5), (6, .int v6), (7, .int v7), (8, .int v8)], [])) rfl ?_
      exact qE_sub (qsubL [1, 2, 3, 4, 5, 6, 7, 8, 0] rfl (ks := [9, 0, 1, 2, 4, 5, 6, 7, 8]) rfl (by decide))
    · refine e_L 3 (f' := (83, [(9, .int (1 : Int32)), (0, .ref 70), (1, .int v1), (2, .int v2), (4, .int v4), (5, .int v5), (6, .int v6), (7, .int v7), (8, .int v8)], [])) rfl ?_
      exact qE_sub (qsubL [1, 2, 3, 4, 5, 6, 7, 8, 0] rfl (ks := [9, 0, 1, 2, 4, 5, 6, 7, 8]) rfl (by decide))
set_option maxRecDepth 100000 in
set_option maxHeartbeats 4000000 in
theorem le_X10_countChances_83 (en : pN) (d : Nat) (v1 : Int32) (v2 : Int32) (v4 : Int32) (v5 : Int32) (v6 : Int32) (v7 : Int32) (v8 : Int32) (v9 : Int32) (s : qS) : qle (if v5 < v9 then L_X10_countChances_64 en d v1 v2 v4 v5 v6 v7 (v8 + (1 : Int32)) s else if v2 ≤ (2 : Int32) then L_X10_countChances_103 en d v1 v2 v4 v5 v6 v7 v8 v9 (0 : Int32) s else L_X10_countChances_103 en d v1 v2 v4 v5 v6 v7 v8 v9 v9 s) (L_X10_countChances_83 en d v1 v2 v4 v5 v6 v7 v8 v9 s) := by
  show qle _ (qE (qev en d) en (some .int) tb_X10_countChances (83, [(0, .ref 70), (1, .int v1), (2, .int v2), (4, .int v4), (5, .int v5), (6, .int v6), (7, .int v7), (8, .int v8), (9, .int v9)], []) s)
  refine e_L 2 (f' := (87, [(0, .ref 70), (1, .int v1), (2, .int v2), (4, .int v4), (5, .int v5), (6, .int v6), (7, .int v7), (8, .int v8), (9, .int v9)], [.int v5, .int v9])) rfl ?_
  refine e_icmp 158 rfl rfl rfl (fun c1 => ?_) (fun c1 => ?_)
  · refine e_L 2 (f' := (64, [(8, .int (v8 + (1 : Int32))), (0, .ref 70), (1, .int v1), (2, .int v2), (4, .int v4), (5, .int v5), (6, .int v6), (7, .int v7), (9, .int v9)], [])) rfl ?_
    exact qE_sub (qsubL [1, 2, 3, 4, 5, 6, 7, 0] rfl (ks := [8, 0, 1, 2, 4, 5, 6, 7, 9]) rfl (by decide))
  · refine e_L 2 (f' := (92, [(0, .ref 70), (1, .int v1), (2, .int v2), (4, .int v4), (5, .int v5), (6, .int v6), (7, .int v7), (8, .int v8), (9, .int v9)], [.int (2 : Int32), .int v2])) rfl ?_
    refine e_icmp 100 rfl rfl rfl (fun c2 => ?_) (fun c2 => ?_)
    · refine e_L 2 (f' := (103, [(10, .int (0 : Int32)), (0, .ref 70), (1, .int v1), (2, .int v2), (4, .int v4), (5, .int v5), (6, .int v6), (7, .int v7), (8, .int v8), (9, .int v9)], [])) rfl ?_
      exact qE_sub (qsubL [1, 2, 3, 4, 5, 6, 7, 8, 9, 0] rfl (ks := [10, 0, 1, 2, 4, 5, 6, 7, 8, 9]) rfl (by decide))
    · refine e_L 3 (f' := (103, [(10, .int v9), (0, .ref 70), (1, .int v1), (2, .int v2), (4, .int v4), (5, .int v5), (6, .int v6), (7, .int v7), (8, .int v8), (9, .int v9)], [])) rfl ?_
      exact qE_sub (qsubL [1, 2, 3, 4, 5, 6, 7, 8, 9, 0] rfl (ks := [10, 0, 1, 2, 4, 5, 6, 7, 8, 9]) rfl (by decide))
set_option maxRecDepth 100000 in
set_option maxHeartbeats 4000000 in
theorem le_X10_countChances_103 (en : pN) (d : Nat) (v1 : Int32) (v2 : Int32) (v4 : Int32) (v5 : Int32) (v6 : Int32) (v7 : Int32) (v8 : Int32) (v9 : Int32) (v10 : Int32) (s : qS) : qle (if v6 < v10 then L_X10_countChances_83 en d v1 v2 v4 v5 v6 v7 v8 (v9 + (1 : Int32)) s else bI (qev en d 197 [.ref 70, .int v8, .int v9, .int v10] s) (fun w2 s3 => if ¬ w2 = v1 then L_X10_countChances_103 en d v1 v2 v4 v5 v6 v7 v8 v9 (v10 + (1 : Int32)) s3 else if v2 ≤ (2 : Int32) then L_X10_countChances_103 en d v1 v2 v4 v5 v6 (v7 + (1 : Int32)) v8 v9 (v10 + (1 : Int32)) s3 else if v10 = v9 then L_X10_countChances_103 en d v1 v2 v4 v5 v6 (v7 + (1 : Int32)) v8 v9 (v10 + (1 : Int32)) s3 else L_X10_countChances_103 en d v1 v2 v4 v5 v6 (v7 + (2 : Int32)) v8 v9 (v10 + (1 : Int32)) s3)) (L_X10_countChances_103 en d v1 v2 v4 v5 v6 v7 v8 v9 v10 s) := by
  show qle _ (qE (qev en d) en (some .int) tb_X10_countChances (103, [(0, .ref 70), (1, .int v1), (2, .int v2), (4, .int v4), (5, .int v5), (6, .int v6), (7, .int v7), (8, .int v8), (9, .int v9), (10, .int v10)], []) s)
  refine e_L 2 (f' := (107, [(0, .ref 70), (1, .int v1), (2, .int v2), (4, .int v4), (5, .int v5), (6, .int v6), (7, .int v7), (8, .int v8), (9, .int v9), (10, .int v10)], [.int v6, .int v10])) rfl ?_
  refine e_icmp 152 rfl rfl rfl (fun c1 => ?_) (fun c1 => ?_)
  · refine e_L 2 (f' := (83, [(9, .int (v9 + (1 : Int32))), (0, .ref 70), (1, .int v1), (2, .int v2), (4, .int v4), (5, .int v5), (6, .int v6), (7, .int v7), (8, .int v8), (10, .int v10)], [])) rfl ?_
    exact qE_sub (qsubL [1, 2, 3, 4, 5, 6, 7, 8, 0] rfl (ks := [9, 0, 1, 2, 4, 5, 6, 7, 8, 10]) rfl (by decide))
  · refine e_L 4 (f' := (117, [(0, .ref 70), (1, .int v1), (2, .int v2), (4, .int v4), (5, .int v5), (6, .int v6), (7, .int v7), (8, .int v8), (9, .int v9), (10, .int v10)], [.int v10, .int v9, .int v8, .ref 70])) rfl ?_
    refine e_vI 197 rfl rfl ix_X10_drawnOutcome rfl (q_recvOf lc_70 rfl) (Nat.le_of_ble_eq_true rfl) (fun w2 s3 e4 => ?_)
    refine e_L 1 (f' := (121, [(0, .ref 70), (1, .int v1), (2, .int v2), (4, .int v4), (5, .int v5), (6, .int v6), (7, .int v7), (8, .int v8), (9, .int v9), (10, .int v10)], [.int v1, .int w2])) rfl ?_
    refine e_icmp 146 rfl rfl rfl (fun c5 => ?_) (fun c5 => ?_)
    · refine e_L 2 (f' := (103, [(10, .int (v10 + (1 : Int32))), (0, .ref 70), (1, .int v1), (2, .int v2), (4, .int v4), (5, .int v5), (6, .int v6), (7, .int v7), (8, .int v8), (9, .int v9)], [])) rfl ?_
      exact qE_sub (qsubL [1, 2, 3, 4, 5, 6, 7, 8, 9, 0] rfl (ks := [10, 0, 1, 2, 4, 5, 6, 7, 8, 9]) rfl (by decide))
    · refine e_L 3 (f' := (128, [(0, .ref 70), (1, .int v1), (2, .int v2), (4, .int v4), (5, .int v5), (6, .int v6), (7, .int v7), (8, .int v8), (9, .int v9), (10, .int v10)], [.int (2 : Int32), .int v2, .int v7])) rfl ?_
      refine e_icmp 142 rfl rfl rfl (fun c6 => ?_) (fun c6 => ?_)
      · refine e_L 5 (f' := (103, [(10, .int (v10 + (1 : Int32))), (7, .int (v7 + (1 : Int32))), (0, .ref 70), (1, .int v1), (2, .int v2), (4, .int v4), (5, .int v5), (6, .int v6), (8, .int v8), (9, .int v9)], [])) rfl ?_
        exact qE_sub (qsubL [2, 3, 4, 5, 6, 7, 1, 8, 9, 0] rfl (ks := [10, 7, 0, 1, 2, 4, 5, 6, 8, 9]) rfl (by decide))
      · refine e_L 2 (f' := (135, [(0, .ref 70), (1, .int v1), (2, .int v2), (4, .int v4), (5, .int v5), (6, .int v6), (7, .int v7), (8, .int v8), (9, .int v9), (10, .int v10)], [.int v9, .int v10, .int v7])) rfl ?_
        refine e_icmp 142 rfl rfl rfl (fun c7 => ?_) (fun c7 => ?_)
        · refine e_L 5 (f' := (103, [(10, .int (v10 + (1 : Int32))), (7, .int (v7 + (1 : Int32))), (0, .ref 70), (1, .int v1), (2, .int v2), (4, .int v4), (5, .int v5), (6, .int v6), (8, .int v8), (9, .int v9)], [])) rfl ?_
          exact qE_sub (qsubL [2, 3, 4, 5, 6, 7, 1, 8, 9, 0] rfl (ks := [10, 7, 0, 1, 2, 4, 5, 6, 8, 9]) rfl (by decide))
        · refine e_L 6 (f' := (103, [(10, .int (v10 + (1 : Int32))), (7, .int (v7 + (2 : Int32))), (0, .ref 70), (1, .int v1), (2, .int v2), (4, .int v4), (5, .int v5), (6, .int v6), (8, .int v8), (9, .int v9)], [])) rfl ?_
          exact qE_sub (qsubL [2, 3, 4, 5, 6, 7, 1, 8, 9, 0] rfl (ks := [10, 7, 0, 1, 2, 4, 5, 6, 8, 9]) rfl (by decide))
set_option maxRecDepth 100000 in
set_option maxHeartbeats 4000000 in
theorem le_X10_countChances (en : pN) (d : Nat) (a1 : Int32) (a2 : Int32) (a3 : Int32) (s : qS) : qle (L_X10_countChances_6 en d a1 a2 a3 (1 : Int32) (2 : Int32) s) (qev en (d + 1) 196 [.ref 70, .int a1, .int a2, .int a3] s) := by
  refine e_enter ix_X10_countChances (Nat.le_of_ble_eq_true rfl) ?_
  show qle _ (qE (qev en d) en (some .int) tb_X10_countChances (0, [(0, .ref 70), (1, .int a1), (2, .int a2), (3, .int a3)], []) s)
  refine e_L 4 (f' := (6, [(5, .int (2 : Int32)), (4, .int (1 : Int32)), (0, .ref 70), (1, .int a1), (2, .int a2), (3, .int a3)], [])) rfl ?_
  exact qE_sub (qsubL [2, 3, 4, 5, 1, 0] rfl (ks := [5, 4, 0, 1, 2, 3]) rfl (by decide))
noncomputable def L_X10_drawnOutcome_23 (en : pN) (d : Nat) (v2 : Int32) (v3 : Int32) (v4 : Int32) (s : qS) : Option qR := qE (qev en d) en (some .int) tb_X10_drawnOutcome (23, [(0, .ref 70), (2, .int v2), (3, .int v3), (4, .int v4)], []) s
noncomputable def L_X10_drawnOutcome_97 (en : pN) (d : Nat) (v2 : Int32) (v3 : Int32) (v4 : Int32) (v5 : Int32) (s : qS) : Option qR := qE (qev en d) en (some .int) tb_X10_drawnOutcome (97, [(0, .ref 70), (2, .int v2), (3, .int v3), (4, .int v4), (5, .int v5)], []) s
set_option maxRecDepth 100000 in
set_option maxHeartbeats 4000000 in
theorem le_X10_drawnOutcome_23 (en : pN) (d : Nat) (v2 : Int32) (v3 : Int32) (v4 : Int32) (s : qS) : qle (if (200 : Int32) < v4 then some (some (.int (-1 : Int32)), s) else bI (qev en d 199 [.ref 70] s) (fun w2 s3 => if (0 : Int32) ≤ w2 then gd (p_inB w2 4 = true) (bV (qev en d 52 [.ref 71, .int (s3.1 95 w2.toNatClampNeg), .int (0 : Int32)] s3) (fun s8 => if (v4 + (1 : Int32)) = v2 then L_X10_drawnOutcome_97 en d v2 v3 v4 w2 s8 else if ¬ (v4 + (1 : Int32)) = v3 then L_X10_drawnOutcome_23 en d v2 v3 (v4 + (1 : Int32)) s8 else L_X10_drawnOutcome_97 en d v2 v3 v4 w2 s8)) else bV (qev en d 38 [.ref 71, .ref 94] s3) (fun s13 => bI (qev en d 149 [.ref 87, .ref 94, .int (0 : Int32)] s13) (fun w15 s16 => some (some (.int w15), s16))))) (L_X10_drawnOutcome_23 en d v2 v3 v4 s) := by
  show qle _ (qE (qev en d) en (some .int) tb_X10_drawnOutcome (23, [(0, .ref 70), (2, .int v2), (3, .int v3), (4, .int v4)], []) s)
  refine e_L 2 (f' := (28, [(0, .ref 70), (2, .int v2), (3, .int v3), (4, .int v4)], [.int (200 : Int32), .int v4])) rfl ?_
  refine e_icmp 109 rfl rfl rfl (fun c1 => ?_) (fun c1 => ?_)
  · refine e_L 1 (f' := (110, [(0, .ref 70), (2, .int v2), (3, .int v3), (4, .int v4)], [.int (-1 : Int32)])) rfl ?_
    exact e_rI rfl rfl
  · refine e_L 1 (f' := (32, [(0, .ref 70), (2, .int v2), (3, .int v3), (4, .int v4)], [.ref 70])) rfl ?_
    refine e_vI 199 rfl rfl ix_X10_firstReady rfl (q_recvOf lc_70 rfl) (Nat.le_of_ble_eq_true rfl) (fun w2 s3 e4 => ?_)
    refine e_L 2 (f' := (39, [(5, .int w2), (0, .ref 70), (2, .int v2), (3, .int v3), (4, .int v4)], [.int w2])) rfl ?_
    refine e_ifz 66 rfl rfl rfl (fun c5 => ?_) (fun c5 => ?_)
    · refine e_L 1 (f' := (67, [(5, .int w2), (0, .ref 70), (2, .int v2), (3, .int v3), (4, .int v4)], [.ref 70])) rfl ?_
      refine e_gR (q := 71) 10 0 rfl rfl lc_70 lr_70_0 ?_
      refine e_L 1 (f' := (71, [(5, .int w2), (0, .ref 70), (2, .int v2), (3, .int v3), (4, .int v4)], [.ref 70, .ref 71])) rfl ?_
      refine e_gR (q := 95) 10 9 rfl rfl lc_70 lr_70_9 ?_
      refine e_L 1 (f' := (76, [(5, .int w2), (0, .ref 70), (2, .int v2), (3, .int v3), (4, .int v4)], [.int w2, .ref 95, .ref 71])) rfl ?_
      refine qle_gd fun h6 => ?_
      refine e_ial (n := 4) (k := w2.toNatClampNeg) rfl lc_95 ln_95 h6 rfl ?_
      refine e_L 1 (f' := (78, [(5, .int w2), (0, .ref 70), (2, .int v2), (3, .int v3), (4, .int v4)], [.int (0 : Int32), .int (s3.1 95 w2.toNatClampNeg), .ref 71])) rfl ?_
      refine e_vV 52 rfl rfl ix_X3_take rfl (q_recvOf lc_71 rfl) (Nat.le_of_ble_eq_true rfl) (fun s8 e9 => ?_)
      refine e_L 4 (f' := (86, [(5, .int w2), (0, .ref 70), (2, .int v2), (3, .int v3), (4, .int v4)], [.int v2, .int (v4 + (1 : Int32))])) rfl ?_
      refine e_icmp 97 rfl rfl rfl (fun c10 => ?_) (fun c10 => ?_)
      · exact qE_sub (qsubL [1, 2, 3, 4, 0] rfl (ks := [5, 0, 2, 3, 4]) rfl (by decide))
      · refine e_L 4 (f' := (94, [(5, .int w2), (0, .ref 70), (2, .int v2), (3, .int v3), (4, .int v4)], [.int v3, .int (v4 + (1 : Int32))])) rfl ?_
        refine e_icmp 103 rfl rfl rfl (fun c11 => ?_) (fun c11 => ?_)
        · refine e_L 2 (f' := (23, [(4, .int (v4 + (1 : Int32))), (5, .int w2), (0, .ref 70), (2, .int v2), (3, .int v3)], [])) rfl ?_
          exact qE_sub (qsubL [2, 3, 4, 0] rfl (ks := [4, 5, 0, 2, 3]) rfl (by decide))
        · exact qE_sub (qsubL [1, 2, 3, 4, 0] rfl (ks := [5, 0, 2, 3, 4]) rfl (by decide))
    · refine e_L 1 (f' := (43, [(5, .int w2), (0, .ref 70), (2, .int v2), (3, .int v3), (4, .int v4)], [.ref 70])) rfl ?_
      refine e_gR (q := 71) 10 0 rfl rfl lc_70 lr_70_0 ?_
      refine e_L 1 (f' := (47, [(5, .int w2), (0, .ref 70), (2, .int v2), (3, .int v3), (4, .int v4)], [.ref 70, .ref 71])) rfl ?_
      refine e_gR (q := 94) 10 8 rfl rfl lc_70 lr_70_8 ?_
      refine e_vV 38 rfl rfl ix_X3_pack rfl (q_recvOf lc_71 rfl) (Nat.le_of_ble_eq_true rfl) (fun s13 e14 => ?_)
      refine e_L 1 (f' := (54, [(5, .int w2), (0, .ref 70), (2, .int v2), (3, .int v3), (4, .int v4)], [.ref 70])) rfl ?_
      refine e_gR (q := 87) 10 3 rfl rfl lc_70 lr_70_3 ?_
      refine e_L 1 (f' := (58, [(5, .int w2), (0, .ref 70), (2, .int v2), (3, .int v3), (4, .int v4)], [.ref 70, .ref 87])) rfl ?_
      refine e_gR (q := 94) 10 8 rfl rfl lc_70 lr_70_8 ?_
      refine e_L 1 (f' := (62, [(5, .int w2), (0, .ref 70), (2, .int v2), (3, .int v3), (4, .int v4)], [.int (0 : Int32), .ref 94, .ref 87])) rfl ?_
      refine e_vI 149 rfl rfl ix_X7_numberOf rfl (q_recvOf lc_87 rfl) (Nat.le_of_ble_eq_true rfl) (fun w15 s16 e17 => ?_)
      exact e_rI rfl rfl
set_option maxRecDepth 100000 in
set_option maxHeartbeats 4000000 in
theorem le_X10_drawnOutcome_97 (en : pN) (d : Nat) (v2 : Int32) (v3 : Int32) (v4 : Int32) (v5 : Int32) (s : qS) : qle (bV (qev en d 200 [.ref 70, .int v5] s) (fun s2 => L_X10_drawnOutcome_23 en d v2 v3 (v4 + (1 : Int32)) s2)) (L_X10_drawnOutcome_97 en d v2 v3 v4 v5 s) := by
  show qle _ (qE (qev en d) en (some .int) tb_X10_drawnOutcome (97, [(0, .ref 70), (2, .int v2), (3, .int v3), (4, .int v4), (5, .int v5)], []) s)
  refine e_L 2 (f' := (100, [(0, .ref 70), (2, .int v2), (3, .int v3), (4, .int v4), (5, .int v5)], [.int v5, .ref 70])) rfl ?_
  refine e_vV 200 rfl rfl ix_X10_lower rfl (q_recvOf lc_70 rfl) (Nat.le_of_ble_eq_true rfl) (fun s2 e3 => ?_)
  refine e_L 2 (f' := (23, [(4, .int (v4 + (1 : Int32))), (0, .ref 70), (2, .int v2), (3, .int v3), (5, .int v5)], [])) rfl ?_
  exact qE_sub (qsubL [1, 2, 3, 0] rfl (ks := [4, 0, 2, 3, 5]) rfl (by decide))
set_option maxRecDepth 100000 in
set_option maxHeartbeats 4000000 in
theorem le_X10_drawnOutcome (en : pN) (d : Nat) (a1 : Int32) (a2 : Int32) (a3 : Int32) (s : qS) : qle (bV (qev en d 198 [.ref 70, .int a1] s) (fun s2 => gd (s2.2.2 71 7 ≠ 0 ∧ lc (s2.2.2 71 7 - 1) = 5) (nm (s2.2.2 71 7 - 1) (fun q5 => bV (qev en d 33 [.ref 71, .ref q5, .int (0 : Int32)] s2) (fun s7 => L_X10_drawnOutcome_23 en d a2 a3 (0 : Int32) s7))))) (qev en (d + 1) 197 [.ref 70, .int a1, .int a2, .int a3] s) := by
  refine e_enter ix_X10_drawnOutcome (Nat.le_of_ble_eq_true rfl) ?_
  show qle _ (qE (qev en d) en (some .int) tb_X10_drawnOutcome (0, [(0, .ref 70), (1, .int a1), (2, .int a2), (3, .int a3)], []) s)
  refine e_L 2 (f' := (2, [(0, .ref 70), (1, .int a1), (2, .int a2), (3, .int a3)], [.int a1, .ref 70])) rfl ?_
  refine e_vV 198 rfl rfl ix_X10_arrange rfl (q_recvOf lc_70 rfl) (Nat.le_of_ble_eq_true rfl) (fun s2 e3 => ?_)
  refine e_L 1 (f' := (6, [(0, .ref 70), (1, .int a1), (2, .int a2), (3, .int a3)], [.ref 70])) rfl ?_
  refine e_gR (q := 71) 10 0 rfl rfl lc_70 lr_70_0 ?_
  refine e_L 1 (f' := (10, [(0, .ref 70), (1, .int a1), (2, .int a2), (3, .int a3)], [.ref 70, .ref 71])) rfl ?_
  refine e_gR (q := 71) 10 0 rfl rfl lc_70 lr_70_0 ?_
  refine qle_gd fun h4 => ?_
  refine e_gM 3 7 rfl rfl lc_71 h4.1 ?_
  refine e_nR (ci := 5) h4.2 fun q5 h_q5 => ?_
  refine e_L 1 (f' := (17, [(0, .ref 70), (1, .int a1), (2, .int a2), (3, .int a3)], [.int (0 : Int32), .ref q5, .ref 71])) rfl ?_
  refine e_vV 33 rfl rfl ix_X3_enterFirst rfl (q_recvOf lc_71 rfl) (Nat.le_of_ble_eq_true rfl) (fun s7 e8 => ?_)
  refine e_L 2 (f' := (23, [(4, .int (0 : Int32)), (0, .ref 70), (1, .int a1), (2, .int a2), (3, .int a3)], [])) rfl ?_
  exact qE_sub (qsubL [1, 3, 4, 0] rfl (ks := [4, 0, 1, 2, 3]) rfl (by decide))
noncomputable def L_X10_arrange_16 (en : pN) (d : Nat) (v2 : Int32) (v3 : Int32) (v4 : Int32) (s : qS) : Option qR := qE (qev en d) en none tb_X10_arrange (16, [(0, .ref 70), (2, .int v2), (3, .int v3), (4, .int v4)], []) s
set_option maxRecDepth 100000 in
set_option maxHeartbeats 4000000 in
theorem le_X10_arrange_16 (en : pN) (d : Nat) (v2 : Int32) (v3 : Int32) (v4 : Int32) (s : qS) : qle (if v2 ≤ v4 then some (none, s) else gd (¬ (v4 + (1 : Int32)) = 0) (nm (v3 - v3 / (v4 + (1 : Int32)) * (v4 + (1 : Int32))) (fun z3 => gd (¬ (v4 + (1 : Int32)) = 0) (nm (v3 / (v4 + (1 : Int32))) (fun z5 => gd (cpG z3 (z3 + (1 : Int32)) (v4 - z3) 4 4) (nm (uIr s 95 (va_cpy (s.1 95) (s.1 95) z3.toNatClampNeg (z3 + (1 : Int32)).toNatClampNeg (v4 - z3).toNatClampNeg)) (fun s7 => gd (p_inB z3 4 = true) (nm (uI s7 95 (z3.toNatClampNeg) v4) (fun s9 => L_X10_arrange_16 en d v2 z5 (v4 + (1 : Int32)) s9))))))))) (L_X10_arrange_16 en d v2 v3 v4 s) := by
  show qle _ (qE (qev en d) en none tb_X10_arrange (16, [(0, .ref 70), (2, .int v2), (3, .int v3), (4, .int v4)], []) s)
  refine e_L 2 (f' := (19, [(0, .ref 70), (2, .int v2), (3, .int v3), (4, .int v4)], [.int v2, .int v4])) rfl ?_
  refine e_icmp 74 rfl rfl rfl (fun c1 => ?_) (fun c1 => ?_)
  · exact e_rV rfl rfl
  · refine e_L 4 (f' := (27, [(0, .ref 70), (2, .int v2), (3, .int v3), (4, .int v4)], [.int (v4 + (1 : Int32)), .int v3])) rfl ?_
    refine qle_gd fun h2 => ?_
    refine e_rem rfl h2 ?_
    refine e_nI fun z3 => ?_
    refine e_L 5 (f' := (35, [(5, .int z3), (0, .ref 70), (2, .int v2), (3, .int v3), (4, .int v4)], [.int (v4 + (1 : Int32)), .int v3])) rfl ?_
    refine qle_gd fun h4 => ?_
    refine e_div rfl h4 ?_
    refine e_nI fun z5 => ?_
    refine e_L 2 (f' := (38, [(3, .int z5), (5, .int z3), (0, .ref 70), (2, .int v2), (4, .int v4)], [.ref 70])) rfl ?_
    refine e_gR (q := 95) 10 9 rfl rfl lc_70 lr_70_9 ?_
    refine e_L 2 (f' := (44, [(3, .int z5), (5, .int z3), (0, .ref 70), (2, .int v2), (4, .int v4)], [.ref 70, .int z3, .ref 95])) rfl ?_
    refine e_gR (q := 95) 10 9 rfl rfl lc_70 lr_70_9 ?_
    refine e_L 6 (f' := (56, [(3, .int z5), (5, .int z3), (0, .ref 70), (2, .int v2), (4, .int v4)], [.int (v4 - z3), .int (z3 + (1 : Int32)), .ref 95, .int z3, .ref 95])) rfl ?_
    refine qle_gd fun h6 => ?_
    refine e_cpI (n0 := 4) (n1 := 4) rfl rfl (Nat.le_of_ble_eq_true rfl) ⟨lc_95, lc_95⟩ ln_95 ln_95 h6 ?_
    refine e_nS fun s7 => ?_
    refine e_L 1 (f' := (60, [(3, .int z5), (5, .int z3), (0, .ref 70), (2, .int v2), (4, .int v4)], [.ref 70])) rfl ?_
    refine e_gR (q := 95) 10 9 rfl rfl lc_70 lr_70_9 ?_
    refine e_L 2 (f' := (67, [(3, .int z5), (5, .int z3), (0, .ref 70), (2, .int v2), (4, .int v4)], [.int v4, .int z3, .ref 95])) rfl ?_
    refine qle_gd fun h8 => ?_
    refine e_ias (n := 4) (k := z3.toNatClampNeg) rfl lc_95 ln_95 h8 rfl ?_
    refine e_nS fun s9 => ?_
    refine e_L 2 (f' := (16, [(4, .int (v4 + (1 : Int32))), (3, .int z5), (5, .int z3), (0, .ref 70), (2, .int v2)], [])) rfl ?_
    exact qE_sub (qsubL [3, 4, 1, 0] rfl (ks := [4, 3, 5, 0, 2]) rfl (by decide))
set_option maxRecDepth 100000 in
set_option maxHeartbeats 4000000 in
theorem le_X10_arrange (en : pN) (d : Nat) (a1 : Int32) (s : qS) : qle (gd (s.2.2 71 7 ≠ 0 ∧ lc (s.2.2 71 7 - 1) = 5) (nm (s.2.2 71 7 - 1) (fun q2 => L_X10_arrange_16 en d (s.1 q2 11) a1 (0 : Int32) s))) (qev en (d + 1) 198 [.ref 70, .int a1] s) := by
  refine e_enter ix_X10_arrange (Nat.le_of_ble_eq_true rfl) ?_
  show qle _ (qE (qev en d) en none tb_X10_arrange (0, [(0, .ref 70), (1, .int a1)], []) s)
  refine e_L 1 (f' := (1, [(0, .ref 70), (1, .int a1)], [.ref 70])) rfl ?_
  refine e_gR (q := 71) 10 0 rfl rfl lc_70 lr_70_0 ?_
  refine qle_gd fun h1 => ?_
  refine e_gM 3 7 rfl rfl lc_71 h1.1 ?_
  refine e_nR (ci := 5) h1.2 fun q2 h_q2 => ?_
  refine e_gI 5 11 rfl rfl h_q2 ?_
  refine e_L 5 (f' := (16, [(4, .int (0 : Int32)), (3, .int a1), (2, .int (s.1 q2 11)), (0, .ref 70), (1, .int a1)], [])) rfl ?_
  exact qE_sub (qsubL [3, 2, 1, 0] rfl (ks := [4, 3, 2, 0, 1]) rfl (by decide))
noncomputable def L_X10_firstReady_2 (en : pN) (d : Nat) (v1 : Int32) (s : qS) : Option qR := qE (qev en d) en (some .int) tb_X10_firstReady (2, [(0, .ref 70), (1, .int v1)], []) s
set_option maxRecDepth 100000 in
set_option maxHeartbeats 4000000 in
theorem le_X10_firstReady_2 (en : pN) (d : Nat) (v1 : Int32) (s : qS) : qle (gd (s.2.2 71 7 ≠ 0 ∧ lc (s.2.2 71 7 - 1) = 5) (nm (s.2.2 71 7 - 1) (fun q2 => if (s.1 q2 11) ≤ v1 then some (some (.int (-1 : Int32)), s) else gd (p_inB v1 4 = true) (bI (qev en d 44 [.ref 71, .int (s.1 95 v1.toNatClampNeg)] s) (fun w5 s6 => if w5 ≤ (0 : Int32) then L_X10_firstReady_2 en d (v1 + (1 : Int32)) s6 else some (some (.int v1), s6)))))) (L_X10_firstReady_2 en d v1 s) := by
  show qle _ (qE (qev en d) en (some .int) tb_X10_firstReady (2, [(0, .ref 70), (1, .int v1)], []) s)
  refine e_L 2 (f' := (4, [(0, .ref 70), (1, .int v1)], [.ref 70, .int v1])) rfl ?_
  refine e_gR (q := 71) 10 0 rfl rfl lc_70 lr_70_0 ?_
  refine qle_gd fun h1 => ?_
  refine e_gM 3 7 rfl rfl lc_71 h1.1 ?_
  refine e_nR (ci := 5) h1.2 fun q2 h_q2 => ?_
  refine e_gI 5 11 rfl rfl h_q2 ?_
  refine e_icmp 40 rfl rfl rfl (fun c3 => ?_) (fun c3 => ?_)
  · refine e_L 1 (f' := (41, [(0, .ref 70), (1, .int v1)], [.int (-1 : Int32)])) rfl ?_
    exact e_rI rfl rfl
  · refine e_L 1 (f' := (17, [(0, .ref 70), (1, .int v1)], [.ref 70])) rfl ?_
    refine e_gR (q := 71) 10 0 rfl rfl lc_70 lr_70_0 ?_
    refine e_L 1 (f' := (21, [(0, .ref 70), (1, .int v1)], [.ref 70, .ref 71])) rfl ?_
    refine e_gR (q := 95) 10 9 rfl rfl lc_70 lr_70_9 ?_
    refine e_L 1 (f' := (25, [(0, .ref 70), (1, .int v1)], [.int v1, .ref 95, .ref 71])) rfl ?_
    refine qle_gd fun h4 => ?_
    refine e_ial (n := 4) (k := v1.toNatClampNeg) rfl lc_95 ln_95 h4 rfl ?_
    refine e_vI 44 rfl rfl ix_X3_choices rfl (q_recvOf lc_71 rfl) (Nat.le_of_ble_eq_true rfl) (fun w5 s6 e7 => ?_)
    refine e_ifz 34 rfl rfl rfl (fun c8 => ?_) (fun c8 => ?_)
    · refine e_L 2 (f' := (2, [(1, .int (v1 + (1 : Int32))), (0, .ref 70)], [])) rfl ?_
      exact qE_sub (qsubL [1, 0] rfl (ks := [1, 0]) rfl (by decide))
    · refine e_L 1 (f' := (33, [(0, .ref 70), (1, .int v1)], [.int v1])) rfl ?_
      exact e_rI rfl rfl
set_option maxRecDepth 100000 in
set_option maxHeartbeats 4000000 in
theorem le_X10_firstReady (en : pN) (d : Nat) (s : qS) : qle (L_X10_firstReady_2 en d (0 : Int32) s) (qev en (d + 1) 199 [.ref 70] s) := by
  refine e_enter ix_X10_firstReady (Nat.le_of_ble_eq_true rfl) ?_
  show qle _ (qE (qev en d) en (some .int) tb_X10_firstReady (0, [(0, .ref 70)], []) s)
  refine e_L 2 (f' := (2, [(1, .int (0 : Int32)), (0, .ref 70)], [])) rfl ?_
  exact qE_sub (qsubL [1, 0] rfl (ks := [1, 0]) rfl (by decide))
set_option maxRecDepth 100000 in
set_option maxHeartbeats 4000000 in
theorem le_X10_lower (en : pN) (d : Nat) (a1 : Int32) (s : qS) : qle (gd (s.2.2 71 7 ≠ 0 ∧ lc (s.2.2 71 7 - 1) = 5) (nm (s.2.2 71 7 - 1) (fun q2 => nm ((s.1 q2 11) - (1 : Int32)) (fun z3 => gd (p_inB a1 4 = true) (nm (s.1 95 a1.toNatClampNeg) (fun z5 => gd (cpG (a1 + (1 : Int32)) a1 (z3 - a1) 4 4) (nm (uIr s 95 (va_cpy (s.1 95) (s.1 95) (a1 + (1 : Int32)).toNatClampNeg a1.toNatClampNeg (z3 - a1).toNatClampNeg)) (fun s7 => gd (p_inB z3 4 = true) (nm (uI s7 95 (z3.toNatClampNeg) z5) (fun s9 => some (none, s9))))))))))) (qev en (d + 1) 200 [.ref 70, .int a1] s) := by
  refine e_enter ix_X10_lower (Nat.le_of_ble_eq_true rfl) ?_
  show qle _ (qE (qev en d) en none tb_X10_lower (0, [(0, .ref 70), (1, .int a1)], []) s)
  refine e_L 1 (f' := (1, [(0, .ref 70), (1, .int a1)], [.ref 70])) rfl ?_
  refine e_gR (q := 71) 10 0 rfl rfl lc_70 lr_70_0 ?_
  refine qle_gd fun h1 => ?_
  refine e_gM 3 7 rfl rfl lc_71 h1.1 ?_
  refine e_nR (ci := 5) h1.2 fun q2 h_q2 => ?_
  refine e_gI 5 11 rfl rfl h_q2 ?_
  refine e_L 2 (f' := (12, [(0, .ref 70), (1, .int a1)], [.int ((s.1 q2 11) - (1 : Int32))])) rfl ?_
  refine e_nI fun z3 => ?_
  refine e_L 2 (f' := (14, [(2, .int z3), (0, .ref 70), (1, .int a1)], [.ref 70])) rfl ?_
  refine e_gR (q := 95) 10 9 rfl rfl lc_70 lr_70_9 ?_
  refine e_L 1 (f' := (18, [(2, .int z3), (0, .ref 70), (1, .int a1)], [.int a1, .ref 95])) rfl ?_
  refine qle_gd fun h4 => ?_
  refine e_ial (n := 4) (k := a1.toNatClampNeg) rfl lc_95 ln_95 h4 rfl ?_
  refine e_nI fun z5 => ?_
  refine e_L 2 (f' := (21, [(3, .int z5), (2, .int z3), (0, .ref 70), (1, .int a1)], [.ref 70])) rfl ?_
  refine e_gR (q := 95) 10 9 rfl rfl lc_70 lr_70_9 ?_
  refine e_L 4 (f' := (28, [(3, .int z5), (2, .int z3), (0, .ref 70), (1, .int a1)], [.ref 70, .int (a1 + (1 : Int32)), .ref 95])) rfl ?_
  refine e_gR (q := 95) 10 9 rfl rfl lc_70 lr_70_9 ?_
  refine e_L 4 (f' := (35, [(3, .int z5), (2, .int z3), (0, .ref 70), (1, .int a1)], [.int (z3 - a1), .int a1, .ref 95, .int (a1 + (1 : Int32)), .ref 95])) rfl ?_
  refine qle_gd fun h6 => ?_
  refine e_cpI (n0 := 4) (n1 := 4) rfl rfl (Nat.le_of_ble_eq_true rfl) ⟨lc_95, lc_95⟩ ln_95 ln_95 h6 ?_
  refine e_nS fun s7 => ?_
  refine e_L 1 (f' := (39, [(3, .int z5), (2, .int z3), (0, .ref 70), (1, .int a1)], [.ref 70])) rfl ?_
  refine e_gR (q := 95) 10 9 rfl rfl lc_70 lr_70_9 ?_
  refine e_L 2 (f' := (44, [(3, .int z5), (2, .int z3), (0, .ref 70), (1, .int a1)], [.int z5, .int z3, .ref 95])) rfl ?_
  refine qle_gd fun h8 => ?_
  refine e_ias (n := 4) (k := z3.toNatClampNeg) rfl lc_95 ln_95 h8 rfl ?_
  refine e_nS fun s9 => ?_
  exact e_rV rfl rfl
set_option maxRecDepth 100000 in
set_option maxHeartbeats 4000000 in
theorem le_X11_feed (en : pN) (d : Nat) (a1 : Int32) (a2 : Int32) (a3 : Int32) (a4 : Int32) (a5 : Int32) (s : qS) : qle (if (s.1 1 5) ≤ (3980 : Int32) then bV (qev en d 165 [.ref 1, .int a1] s) (fun s3 => bV (qev en d 165 [.ref 1, .int a2] s3) (fun s6 => bV (qev en d 165 [.ref 1, .int a3] s6) (fun s9 => bV (qev en d 165 [.ref 1, .int a4] s9) (fun s12 => bV (qev en d 165 [.ref 1, .int a5] s12) (fun s15 => some (some (.int (s15.1 1 5)), s15)))))) else some (some (.int (-3 : Int32)), s)) (qev en (d + 1) 202 [.ref 0, .int a1, .int a2, .int a3, .int a4, .int a5] s) := by
  refine e_enter ix_X11_feed (Nat.le_of_ble_eq_true rfl) ?_
  show qle _ (qE (qev en d) en (some .int) tb_X11_feed (0, [(0, .ref 0), (1, .int a1), (2, .int a2), (3, .int a3), (4, .int a4), (5, .int a5)], []) s)
  refine e_L 1 (f' := (1, [(0, .ref 0), (1, .int a1), (2, .int a2), (3, .int a3), (4, .int a4), (5, .int a5)], [.ref 0])) rfl ?_
  refine e_gR (q := 1) 11 0 rfl rfl lc_0 lr_0_0 ?_
  refine e_gI 9 5 rfl rfl lc_1 ?_
  refine e_L 1 (f' := (10, [(0, .ref 0), (1, .int a1), (2, .int a2), (3, .int a3), (4, .int a4), (5, .int a5)], [.int (3980 : Int32), .int (s.1 1 5)])) rfl ?_
  refine e_icmp 16 rfl rfl rfl (fun c1 => ?_) (fun c1 => ?_)
  · refine e_L 1 (f' := (17, [(0, .ref 0), (1, .int a1), (2, .int a2), (3, .int a3), (4, .int a4), (5, .int a5)], [.ref 0])) rfl ?_
    refine e_gR (q := 1) 11 0 rfl rfl lc_0 lr_0_0 ?_
    refine e_L 1 (f' := (21, [(0, .ref 0), (1, .int a1), (2, .int a2), (3, .int a3), (4, .int a4), (5, .int a5)], [.int a1, .ref 1])) rfl ?_
    refine e_vV 165 rfl rfl ix_X9_append rfl (q_recvOf lc_1 rfl) (Nat.le_of_ble_eq_true rfl) (fun s3 e4 => ?_)
    refine e_L 1 (f' := (25, [(0, .ref 0), (1, .int a1), (2, .int a2), (3, .int a3), (4, .int a4), (5, .int a5)], [.ref 0])) rfl ?_
    refine e_gR (q := 1) 11 0 rfl rfl lc_0 lr_0_0 ?_
    refine e_L 1 (f' := (29, [(0, .ref 0), (1, .int a1), (2, .int a2), (3, .int a3), (4, .int a4), (5, .int a5)], [.int a2, .ref 1])) rfl ?_
    refine e_vV 165 rfl rfl ix_X9_append rfl (q_recvOf lc_1 rfl) (Nat.le_of_ble_eq_true rfl) (fun s6 e7 => ?_)
    refine e_L 1 (f' := (33, [(0, .ref 0), (1, .int a1), (2, .int a2), (3, .int a3), (4, .int a4), (5, .int a5)], [.ref 0])) rfl ?_
    refine e_gR (q := 1) 11 0 rfl rfl lc_0 lr_0_0 ?_
    refine e_L 1 (f' := (37, [(0, .ref 0), (1, .int a1), (2, .int a2), (3, .int a3), (4, .int a4), (5, .int a5)], [.int a3, .ref 1])) rfl ?_
    refine e_vV 165 rfl rfl ix_X9_append rfl (q_recvOf lc_1 rfl) (Nat.le_of_ble_eq_true rfl) (fun s9 e10 => ?_)
    refine e_L 1 (f' := (41, [(0, .ref 0), (1, .int a1), (2, .int a2), (3, .int a3), (4, .int a4), (5, .int a5)], [.ref 0])) rfl ?_
    refine e_gR (q := 1) 11 0 rfl rfl lc_0 lr_0_0 ?_
    refine e_L 1 (f' := (46, [(0, .ref 0), (1, .int a1), (2, .int a2), (3, .int a3), (4, .int a4), (5, .int a5)], [.int a4, .ref 1])) rfl ?_
    refine e_vV 165 rfl rfl ix_X9_append rfl (q_recvOf lc_1 rfl) (Nat.le_of_ble_eq_true rfl) (fun s12 e13 => ?_)
    refine e_L 1 (f' := (50, [(0, .ref 0), (1, .int a1), (2, .int a2), (3, .int a3), (4, .int a4), (5, .int a5)], [.ref 0])) rfl ?_
    refine e_gR (q := 1) 11 0 rfl rfl lc_0 lr_0_0 ?_
    refine e_L 1 (f' := (55, [(0, .ref 0), (1, .int a1), (2, .int a2), (3, .int a3), (4, .int a4), (5, .int a5)], [.int a5, .ref 1])) rfl ?_
    refine e_vV 165 rfl rfl ix_X9_append rfl (q_recvOf lc_1 rfl) (Nat.le_of_ble_eq_true rfl) (fun s15 e16 => ?_)
    refine e_L 1 (f' := (59, [(0, .ref 0), (1, .int a1), (2, .int a2), (3, .int a3), (4, .int a4), (5, .int a5)], [.ref 0])) rfl ?_
    refine e_gR (q := 1) 11 0 rfl rfl lc_0 lr_0_0 ?_
    refine e_gI 9 5 rfl rfl lc_1 ?_
    exact e_rI rfl rfl
  · refine e_L 1 (f' := (15, [(0, .ref 0), (1, .int a1), (2, .int a2), (3, .int a3), (4, .int a4), (5, .int a5)], [.int (-3 : Int32)])) rfl ?_
    exact e_rI rfl rfl
set_option maxRecDepth 100000 in
set_option maxHeartbeats 4000000 in
theorem le_X11_end (en : pN) (d : Nat) (a1 : Int32) (s : qS) : qle (if a1 < (0 : Int32) then some (some (.int (-1 : Int32)), s) else if (20 : Int32) < a1 then some (some (.int (-1 : Int32)), s) else if (20 : Int32) ≤ (s.1 1 5) then nm (uI s 1 5 ((s.1 1 5) - ((20 : Int32) - a1))) (fun s4 => some (some (.int (s4.1 1 5)), s4)) else some (some (.int (-1 : Int32)), s)) (qev en (d + 1) 203 [.ref 0, .int a1] s) := by
  refine e_enter ix_X11_end (Nat.le_of_ble_eq_true rfl) ?_
  show qle _ (qE (qev en d) en (some .int) tb_X11_end (0, [(0, .ref 0), (1, .int a1)], []) s)
  refine e_L 1 (f' := (1, [(0, .ref 0), (1, .int a1)], [.int a1])) rfl ?_
  refine e_ifz 22 rfl rfl rfl (fun c1 => ?_) (fun c1 => ?_)
  · refine e_L 1 (f' := (23, [(0, .ref 0), (1, .int a1)], [.int (-1 : Int32)])) rfl ?_
    exact e_rI rfl rfl
  · refine e_L 2 (f' := (7, [(0, .ref 0), (1, .int a1)], [.int (20 : Int32), .int a1])) rfl ?_
    refine e_icmp 22 rfl rfl rfl (fun c2 => ?_) (fun c2 => ?_)
    · refine e_L 1 (f' := (23, [(0, .ref 0), (1, .int a1)], [.int (-1 : Int32)])) rfl ?_
      exact e_rI rfl rfl
    · refine e_L 1 (f' := (11, [(0, .ref 0), (1, .int a1)], [.ref 0])) rfl ?_
      refine e_gR (q := 1) 11 0 rfl rfl lc_0 lr_0_0 ?_
      refine e_gI 9 5 rfl rfl lc_1 ?_
      refine e_L 1 (f' := (19, [(0, .ref 0), (1, .int a1)], [.int (20 : Int32), .int (s.1 1 5)])) rfl ?_
      refine e_icmp 24 rfl rfl rfl (fun c3 => ?_) (fun c3 => ?_)
      · refine e_L 1 (f' := (25, [(0, .ref 0), (1, .int a1)], [.ref 0])) rfl ?_
        refine e_gR (q := 1) 11 0 rfl rfl lc_0 lr_0_0 ?_
        refine e_L 1 (f' := (29, [(0, .ref 0), (1, .int a1)], [.ref 1, .ref 1])) rfl ?_
        refine e_gI 9 5 rfl rfl lc_1 ?_
        refine e_L 4 (f' := (37, [(0, .ref 0), (1, .int a1)], [.int ((s.1 1 5) - ((20 : Int32) - a1)), .ref 1])) rfl ?_
        refine e_pI 9 5 rfl rfl lc_1 rfl ?_
        refine e_nS fun s4 => ?_
        refine e_L 1 (f' := (41, [(0, .ref 0), (1, .int a1)], [.ref 0])) rfl ?_
        refine e_gR (q := 1) 11 0 rfl rfl lc_0 lr_0_0 ?_
        refine e_gI 9 5 rfl rfl lc_1 ?_
        exact e_rI rfl rfl
      · refine e_L 1 (f' := (23, [(0, .ref 0), (1, .int a1)], [.int (-1 : Int32)])) rfl ?_
        exact e_rI rfl rfl
noncomputable def L_X11_program_64 (en : pN) (d : Nat) (vs1 : Int32) (s : qS) : Option qR := qE (qev en d) en (some .int) tb_X11_program (64, [(0, .ref 0)], [.int vs1, .ref 0]) s
set_option maxRecDepth 100000 in
set_option maxHeartbeats 4000000 in
theorem le_X11_program_64 (en : pN) (d : Nat) (vs1 : Int32) (s : qS) : qle (gd (isB vs1 = true) (nm (uI s 0 9 vs1) (fun s2 => some (some (.int (s2.1 65 11)), s2)))) (L_X11_program_64 en d vs1 s) := by
  show qle _ (qE (qev en d) en (some .int) tb_X11_program (64, [(0, .ref 0)], [.int vs1, .ref 0]) s)
  refine qle_gd fun h1 => ?_
  refine e_pI 11 9 rfl rfl lc_0 h1 ?_
  refine e_nS fun s2 => ?_
  refine e_L 1 (f' := (68, [(0, .ref 0)], [.ref 0])) rfl ?_
  refine e_gR (q := 65) 11 3 rfl rfl lc_0 lr_0_3 ?_
  refine e_gI 6 11 rfl rfl lc_65 ?_
  exact e_rI rfl rfl
set_option maxRecDepth 100000 in
set_option maxHeartbeats 4000000 in
theorem le_X11_program (en : pN) (d : Nat) (s : qS) : qle (nm (uI s 70 17 (0 : Int32)) (fun s1 => nm (uI s1 111 4 (0 : Int32)) (fun s2 => nm (uI s2 0 10 (0 : Int32)) (fun s3 => nm (uI s3 0 13 (-2 : Int32)) (fun s4 => nm (uI s4 0 14 (-2 : Int32)) (fun s5 => bV (qev en d 117 [.ref 65] s5) (fun s7 => nm (uI s7 1 5 (0 : Int32)) (fun s9 => if ¬ (s9.1 65 11) = (0 : Int32) then L_X11_program_64 en d (0 : Int32) s9 else L_X11_program_64 en d (1 : Int32) s9)))))))) (qev en (d + 1) 204 [.ref 0] s) := by
  refine e_enter ix_X11_program (Nat.le_of_ble_eq_true rfl) ?_
  show qle _ (qE (qev en d) en (some .int) tb_X11_program (0, [(0, .ref 0)], []) s)
  refine e_L 1 (f' := (1, [(0, .ref 0)], [.ref 0])) rfl ?_
  refine e_gR (q := 70) 11 4 rfl rfl lc_0 lr_0_4 ?_
  refine e_L 1 (f' := (5, [(0, .ref 0)], [.int (0 : Int32), .ref 70])) rfl ?_
  refine e_pI 10 17 rfl rfl lc_70 (by decide +kernel) ?_
  refine e_nS fun s1 => ?_
  refine e_L 1 (f' := (9, [(0, .ref 0)], [.ref 0])) rfl ?_
  refine e_gR (q := 111) 11 7 rfl rfl lc_0 lr_0_7 ?_
  refine e_L 1 (f' := (13, [(0, .ref 0)], [.int (0 : Int32), .ref 111])) rfl ?_
  refine e_pI 8 4 rfl rfl lc_111 (by decide +kernel) ?_
  refine e_nS fun s2 => ?_
  refine e_L 2 (f' := (18, [(0, .ref 0)], [.int (0 : Int32), .ref 0])) rfl ?_
  refine e_pI 11 10 rfl rfl lc_0 (by decide +kernel) ?_
  refine e_nS fun s3 => ?_
  refine e_L 2 (f' := (24, [(0, .ref 0)], [.int (-2 : Int32), .ref 0])) rfl ?_
  refine e_pI 11 13 rfl rfl lc_0 rfl ?_
  refine e_nS fun s4 => ?_
  refine e_L 2 (f' := (30, [(0, .ref 0)], [.int (-2 : Int32), .ref 0])) rfl ?_
  refine e_pI 11 14 rfl rfl lc_0 rfl ?_
  refine e_nS fun s5 => ?_
  refine e_L 1 (f' := (34, [(0, .ref 0)], [.ref 0])) rfl ?_
  refine e_gR (q := 65) 11 3 rfl rfl lc_0 lr_0_3 ?_
  refine e_vV 117 rfl rfl ix_X6_readProgram rfl (q_recvOf lc_65 rfl) (Nat.le_of_ble_eq_true rfl) (fun s7 e8 => ?_)
  refine e_L 1 (f' := (41, [(0, .ref 0)], [.ref 0])) rfl ?_
  refine e_gR (q := 1) 11 0 rfl rfl lc_0 lr_0_0 ?_
  refine e_L 1 (f' := (45, [(0, .ref 0)], [.int (0 : Int32), .ref 1])) rfl ?_
  refine e_pI 9 5 rfl rfl lc_1 rfl ?_
  refine e_nS fun s9 => ?_
  refine e_L 2 (f' := (50, [(0, .ref 0)], [.ref 0, .ref 0])) rfl ?_
  refine e_gR (q := 65) 11 3 rfl rfl lc_0 lr_0_3 ?_
  refine e_gI 6 11 rfl rfl lc_65 ?_
  refine e_ifz 63 rfl rfl rfl (fun c10 => ?_) (fun c10 => ?_)
  · refine e_L 1 (f' := (64, [(0, .ref 0)], [.int (0 : Int32), .ref 0])) rfl ?_
    exact qE_sub (qsubL [0] rfl (ks := [0]) rfl (by decide))
  · refine e_L 2 (f' := (64, [(0, .ref 0)], [.int (1 : Int32), .ref 0])) rfl ?_
    exact qE_sub (qsubL [0] rfl (ks := [0]) rfl (by decide))
set_option maxRecDepth 100000 in
set_option maxHeartbeats 4000000 in
theorem le_X11_count (en : pN) (d : Nat) (a1 : Int32) (s : qS) : qle (swI a1.toInt 0 [some (some (.int (s.1 65 11)), s), some (some (.int (s.1 65 12)), s), some (some (.int (s.1 1 5)), s), if (s.1 0 9) = (0 : Int32) then some (some (.int (0 : Int32)), s) else some (some (.int (s.1 11 9)), s), if (s.1 0 9) = (0 : Int32) then some (some (.int (0 : Int32)), s) else some (some (.int (s.1 11 10)), s), if (s.1 0 9) = (0 : Int32) then some (some (.int (0 : Int32)), s) else some (some (.int (s.1 11 11)), s), if (s.1 0 9) = (0 : Int32) then some (some (.int (0 : Int32)), s) else some (some (.int (s.1 11 12)), s), if (s.1 0 9) = (0 : Int32) then some (some (.int (0 : Int32)), s) else some (some (.int (s.1 11 13)), s)] (some (some (.int (-1 : Int32)), s))) (qev en (d + 1) 205 [.ref 0, .int a1] s) := by
  refine e_enter ix_X11_count (Nat.le_of_ble_eq_true rfl) ?_
  show qle _ (qE (qev en d) en (some .int) tb_X11_count (0, [(0, .ref 0), (1, .int a1)], []) s)
  refine e_L 1 (f' := (1, [(0, .ref 0), (1, .int a1)], [.int a1])) rfl ?_
  refine e_tsw rfl (by decide) ⟨?_, ?_, ?_, ?_, ?_, ?_, ?_, ?_, trivial⟩ ?_
  · refine e_L 1 (f' := (49, [(0, .ref 0), (1, .int a1)], [.ref 0])) rfl ?_
    refine e_gR (q := 65) 11 3 rfl rfl lc_0 lr_0_3 ?_
    refine e_gI 6 11 rfl rfl lc_65 ?_
    exact e_rI rfl rfl
  · refine e_L 1 (f' := (57, [(0, .ref 0), (1, .int a1)], [.ref 0])) rfl ?_
    refine e_gR (q := 65) 11 3 rfl rfl lc_0 lr_0_3 ?_
    refine e_gI 6 12 rfl rfl lc_65 ?_
    exact e_rI rfl rfl
  · refine e_L 1 (f' := (65, [(0, .ref 0), (1, .int a1)], [.ref 0])) rfl ?_
    refine e_gR (q := 1) 11 0 rfl rfl lc_0 lr_0_0 ?_
    refine e_gI 9 5 rfl rfl lc_1 ?_
    exact e_rI rfl rfl
  · refine e_L 1 (f' := (73, [(0, .ref 0), (1, .int a1)], [.ref 0])) rfl ?_
    refine e_gI 11 9 rfl rfl lc_0 ?_
    refine e_ifz 89 rfl rfl rfl (fun c1 => ?_) (fun c1 => ?_)
    · refine e_L 1 (f' := (90, [(0, .ref 0), (1, .int a1)], [.int (0 : Int32)])) rfl ?_
      exact e_rI rfl rfl
    · refine e_L 1 (f' := (80, [(0, .ref 0), (1, .int a1)], [.ref 0])) rfl ?_
      refine e_gR (q := 11) 11 1 rfl rfl lc_0 lr_0_1 ?_
      refine e_gI 5 9 rfl rfl lc_11 ?_
      refine e_L 1 (f' := (90, [(0, .ref 0), (1, .int a1)], [.int (s.1 11 9)])) rfl ?_
      exact e_rI rfl rfl
  · refine e_L 1 (f' := (92, [(0, .ref 0), (1, .int a1)], [.ref 0])) rfl ?_
    refine e_gI 11 9 rfl rfl lc_0 ?_
    refine e_ifz 108 rfl rfl rfl (fun c2 => ?_) (fun c2 => ?_)
    · refine e_L 1 (f' := (109, [(0, .ref 0), (1, .int a1)], [.int (0 : Int32)])) rfl ?_
      exact e_rI rfl rfl
    · refine e_L 1 (f' := (99, [(0, .ref 0), (1, .int a1)], [.ref 0])) rfl ?_
      refine e_gR (q := 11) 11 1 rfl rfl lc_0 lr_0_1 ?_
      refine e_gI 5 10 rfl rfl lc_11 ?_
      refine e_L 1 (f' := (109, [(0, .ref 0), (1, .int a1)], [.int (s.1 11 10)])) rfl ?_
      exact e_rI rfl rfl
  · refine e_L 1 (f' := (111, [(0, .ref 0), (1, .int a1)], [.ref 0])) rfl ?_
    refine e_gI 11 9 rfl rfl lc_0 ?_
    refine e_ifz 127 rfl rfl rfl (fun c3 => ?_) (fun c3 => ?_)
    · refine e_L 1 (f' := (128, [(0, .ref 0), (1, .int a1)], [.int (0 : Int32)])) rfl ?_
      exact e_rI rfl rfl
    · refine e_L 1 (f' := (118, [(0, .ref 0), (1, .int a1)], [.ref 0])) rfl ?_
      refine e_gR (q := 11) 11 1 rfl rfl lc_0 lr_0_1 ?_
      refine e_gI 5 11 rfl rfl lc_11 ?_
      refine e_L 1 (f' := (128, [(0, .ref 0), (1, .int a1)], [.int (s.1 11 11)])) rfl ?_
      exact e_rI rfl rfl
  · refine e_L 1 (f' := (130, [(0, .ref 0), (1, .int a1)], [.ref 0])) rfl ?_
    refine e_gI 11 9 rfl rfl lc_0 ?_
    refine e_ifz 146 rfl rfl rfl (fun c4 => ?_) (fun c4 => ?_)
    · refine e_L 1 (f' := (147, [(0, .ref 0), (1, .int a1)], [.int (0 : Int32)])) rfl ?_
      exact e_rI rfl rfl
    · refine e_L 1 (f' := (137, [(0, .ref 0), (1, .int a1)], [.ref 0])) rfl ?_
      refine e_gR (q := 11) 11 1 rfl rfl lc_0 lr_0_1 ?_
      refine e_gI 5 12 rfl rfl lc_11 ?_
      refine e_L 1 (f' := (147, [(0, .ref 0), (1, .int a1)], [.int (s.1 11 12)])) rfl ?_
      exact e_rI rfl rfl
  · refine e_L 1 (f' := (149, [(0, .ref 0), (1, .int a1)], [.ref 0])) rfl ?_
    refine e_gI 11 9 rfl rfl lc_0 ?_
    refine e_ifz 165 rfl rfl rfl (fun c5 => ?_) (fun c5 => ?_)
    · refine e_L 1 (f' := (166, [(0, .ref 0), (1, .int a1)], [.int (0 : Int32)])) rfl ?_
      exact e_rI rfl rfl
    · refine e_L 1 (f' := (156, [(0, .ref 0), (1, .int a1)], [.ref 0])) rfl ?_
      refine e_gR (q := 11) 11 1 rfl rfl lc_0 lr_0_1 ?_
      refine e_gI 5 13 rfl rfl lc_11 ?_
      refine e_L 1 (f' := (166, [(0, .ref 0), (1, .int a1)], [.int (s.1 11 13)])) rfl ?_
      exact e_rI rfl rfl
  · refine e_L 1 (f' := (168, [(0, .ref 0), (1, .int a1)], [.int (-1 : Int32)])) rfl ?_
    exact e_rI rfl rfl
set_option maxRecDepth 100000 in
set_option maxHeartbeats 4000000 in
theorem le_X11_begin (en : pN) (d : Nat) (a1 : Int32) (s : qS) : qle (if (s.1 0 9) = (0 : Int32) then some (some (.int (-1 : Int32)), s) else bI (qev en d 238 [.int a1] s) (fun w2 s3 => if ¬ w2 = (0 : Int32) then nm (uI s3 0 12 (0 : Int32)) (fun s6 => bV (qev en d 154 [.ref 111, .ref 11, .int a1] s6) (fun s8 => bI (qev en d 42 [.ref 112] s8) (fun w10 s11 => some (some (.int w10), s11)))) else some (some (.int (-1 : Int32)), s3))) (qev en (d + 1) 207 [.ref 0, .int a1] s) := by
  refine e_enter ix_X11_begin (Nat.le_of_ble_eq_true rfl) ?_
  show qle _ (qE (qev en d) en (some .int) tb_X11_begin (0, [(0, .ref 0), (1, .int a1)], []) s)
  refine e_L 1 (f' := (1, [(0, .ref 0), (1, .int a1)], [.ref 0])) rfl ?_
  refine e_gI 11 9 rfl rfl lc_0 ?_
  refine e_ifz 14 rfl rfl rfl (fun c1 => ?_) (fun c1 => ?_)
  · refine e_L 1 (f' := (15, [(0, .ref 0), (1, .int a1)], [.int (-1 : Int32)])) rfl ?_
    exact e_rI rfl rfl
  · refine e_L 1 (f' := (8, [(0, .ref 0), (1, .int a1)], [.int a1])) rfl ?_
    refine e_sI 238 rfl rfl rfl ix_X11_isWay rfl (Nat.le_of_ble_eq_true rfl) (fun w2 s3 e4 => ?_)
    refine e_ifz 16 rfl rfl rfl (fun c5 => ?_) (fun c5 => ?_)
    · refine e_L 2 (f' := (18, [(0, .ref 0), (1, .int a1)], [.int (0 : Int32), .ref 0])) rfl ?_
      refine e_pI 11 12 rfl rfl lc_0 (by decide +kernel) ?_
      refine e_nS fun s6 => ?_
      refine e_L 1 (f' := (22, [(0, .ref 0), (1, .int a1)], [.ref 0])) rfl ?_
      refine e_gR (q := 111) 11 7 rfl rfl lc_0 lr_0_7 ?_
      refine e_L 1 (f' := (26, [(0, .ref 0), (1, .int a1)], [.ref 0, .ref 111])) rfl ?_
      refine e_gR (q := 11) 11 1 rfl rfl lc_0 lr_0_1 ?_
      refine e_L 1 (f' := (30, [(0, .ref 0), (1, .int a1)], [.int a1, .ref 11, .ref 111])) rfl ?_
      refine e_vV 154 rfl rfl ix_X8_start rfl (q_recvOf lc_111 rfl) (Nat.le_of_ble_eq_true rfl) (fun s8 e9 => ?_)
      refine e_L 1 (f' := (34, [(0, .ref 0), (1, .int a1)], [.ref 0])) rfl ?_
      refine e_gR (q := 111) 11 7 rfl rfl lc_0 lr_0_7 ?_
      refine e_gR (q := 112) 8 0 rfl rfl lc_111 lr_111_0 ?_
      refine e_vI 42 rfl rfl ix_X3_listReady rfl (q_recvOf lc_112 rfl) (Nat.le_of_ble_eq_true rfl) (fun w10 s11 e12 => ?_)
      exact e_rI rfl rfl
    · refine e_L 1 (f' := (15, [(0, .ref 0), (1, .int a1)], [.int (-1 : Int32)])) rfl ?_
      exact e_rI rfl rfl
set_option maxRecDepth 100000 in
set_option maxHeartbeats 4000000 in
theorem le_X11_ready (en : pN) (d : Nat) (a1 : Int32) (s : qS) : qle (if ¬ (s.1 111 4) = (0 : Int32) then bI (qev en d 42 [.ref 112] s) (fun w2 s3 => if a1 < (0 : Int32) then some (some (.int (-2 : Int32)), s3) else if a1 < w2 then gd (p_inB a1 40 = true) (some (some (.int (s3.1 115 a1.toNatClampNeg)), s3)) else some (some (.int (-2 : Int32)), s3)) else some (some (.int (-1 : Int32)), s)) (qev en (d + 1) 208 [.ref 0, .int a1] s) := by
  refine e_enter ix_X11_ready (Nat.le_of_ble_eq_true rfl) ?_
  show qle _ (qE (qev en d) en (some .int) tb_X11_ready (0, [(0, .ref 0), (1, .int a1)], []) s)
  refine e_L 1 (f' := (1, [(0, .ref 0), (1, .int a1)], [.ref 0])) rfl ?_
  refine e_gR (q := 111) 11 7 rfl rfl lc_0 lr_0_7 ?_
  refine e_gI 8 4 rfl rfl lc_111 ?_
  refine e_ifz 12 rfl rfl rfl (fun c1 => ?_) (fun c1 => ?_)
  · refine e_L 1 (f' := (13, [(0, .ref 0), (1, .int a1)], [.ref 0])) rfl ?_
    refine e_gR (q := 111) 11 7 rfl rfl lc_0 lr_0_7 ?_
    refine e_gR (q := 112) 8 0 rfl rfl lc_111 lr_111_0 ?_
    refine e_vI 42 rfl rfl ix_X3_listReady rfl (q_recvOf lc_112 rfl) (Nat.le_of_ble_eq_true rfl) (fun w2 s3 e4 => ?_)
    refine e_L 2 (f' := (24, [(2, .int w2), (0, .ref 0), (1, .int a1)], [.int a1])) rfl ?_
    refine e_ifz 32 rfl rfl rfl (fun c5 => ?_) (fun c5 => ?_)
    · refine e_L 2 (f' := (49, [(2, .int w2), (0, .ref 0), (1, .int a1)], [.int (-2 : Int32)])) rfl ?_
      exact e_rI rfl rfl
    · refine e_L 2 (f' := (29, [(2, .int w2), (0, .ref 0), (1, .int a1)], [.int w2, .int a1])) rfl ?_
      refine e_icmp 37 rfl rfl rfl (fun c6 => ?_) (fun c6 => ?_)
      · refine e_L 1 (f' := (38, [(2, .int w2), (0, .ref 0), (1, .int a1)], [.ref 0])) rfl ?_
        refine e_gR (q := 111) 11 7 rfl rfl lc_0 lr_0_7 ?_
        refine e_gR (q := 112) 8 0 rfl rfl lc_111 lr_111_0 ?_
        refine e_gR (q := 115) 3 2 rfl rfl lc_112 lr_112_2 ?_
        refine e_L 1 (f' := (48, [(2, .int w2), (0, .ref 0), (1, .int a1)], [.int a1, .ref 115])) rfl ?_
        refine qle_gd fun h7 => ?_
        refine e_ial (n := 40) (k := a1.toNatClampNeg) rfl lc_115 ln_115 h7 rfl ?_
        exact e_rI rfl rfl
      · refine e_L 2 (f' := (49, [(2, .int w2), (0, .ref 0), (1, .int a1)], [.int (-2 : Int32)])) rfl ?_
        exact e_rI rfl rfl
  · refine e_L 1 (f' := (11, [(0, .ref 0), (1, .int a1)], [.int (-1 : Int32)])) rfl ?_
    exact e_rI rfl rfl
set_option maxRecDepth 100000 in
set_option maxHeartbeats 4000000 in
theorem le_X11_turn (en : pN) (d : Nat) (a1 : Int32) (a2 : Int32) (s : qS) : qle (if ¬ (s.1 111 4) = (0 : Int32) then bI (qev en d 43 [.ref 112, .int a1, .int a2] s) (fun w2 s3 => if ¬ w2 = (0 : Int32) then if (s3.1 111 3) < (200 : Int32) then bV (qev en d 155 [.ref 111, .int a1, .int a2] s3) (fun s8 => bI (qev en d 42 [.ref 112] s8) (fun w10 s11 => some (some (.int w10), s11))) else some (some (.int (-3 : Int32)), s3) else some (some (.int (-2 : Int32)), s3)) else some (some (.int (-1 : Int32)), s)) (qev en (d + 1) 209 [.ref 0, .int a1, .int a2] s) := by
  refine e_enter ix_X11_turn (Nat.le_of_ble_eq_true rfl) ?_
  show qle _ (qE (qev en d) en (some .int) tb_X11_turn (0, [(0, .ref 0), (1, .int a1), (2, .int a2)], []) s)
  refine e_L 1 (f' := (1, [(0, .ref 0), (1, .int a1), (2, .int a2)], [.ref 0])) rfl ?_
  refine e_gR (q := 111) 11 7 rfl rfl lc_0 lr_0_7 ?_
  refine e_gI 8 4 rfl rfl lc_111 ?_
  refine e_ifz 12 rfl rfl rfl (fun c1 => ?_) (fun c1 => ?_)
  · refine e_L 1 (f' := (13, [(0, .ref 0), (1, .int a1), (2, .int a2)], [.ref 0])) rfl ?_
    refine e_gR (q := 111) 11 7 rfl rfl lc_0 lr_0_7 ?_
    refine e_gR (q := 112) 8 0 rfl rfl lc_111 lr_111_0 ?_
    refine e_L 2 (f' := (21, [(0, .ref 0), (1, .int a1), (2, .int a2)], [.int a2, .int a1, .ref 112])) rfl ?_
    refine e_vI 43 rfl rfl ix_X3_isReady rfl (q_recvOf lc_112 rfl) (Nat.le_of_ble_eq_true rfl) (fun w2 s3 e4 => ?_)
    refine e_ifz 30 rfl rfl rfl (fun c5 => ?_) (fun c5 => ?_)
    · refine e_L 1 (f' := (31, [(0, .ref 0), (1, .int a1), (2, .int a2)], [.ref 0])) rfl ?_
      refine e_gR (q := 111) 11 7 rfl rfl lc_0 lr_0_7 ?_
      refine e_gI 8 3 rfl rfl lc_111 ?_
      refine e_L 1 (f' := (40, [(0, .ref 0), (1, .int a1), (2, .int a2)], [.int (200 : Int32), .int (s3.1 111 3)])) rfl ?_
      refine e_icmp 46 rfl rfl rfl (fun c6 => ?_) (fun c6 => ?_)
      · refine e_L 1 (f' := (47, [(0, .ref 0), (1, .int a1), (2, .int a2)], [.ref 0])) rfl ?_
        refine e_gR (q := 111) 11 7 rfl rfl lc_0 lr_0_7 ?_
        refine e_L 2 (f' := (52, [(0, .ref 0), (1, .int a1), (2, .int a2)], [.int a2, .int a1, .ref 111])) rfl ?_
        refine e_vV 155 rfl rfl ix_X8_take rfl (q_recvOf lc_111 rfl) (Nat.le_of_ble_eq_true rfl) (fun s8 e9 => ?_)
        refine e_L 1 (f' := (56, [(0, .ref 0), (1, .int a1), (2, .int a2)], [.ref 0])) rfl ?_
        refine e_gR (q := 111) 11 7 rfl rfl lc_0 lr_0_7 ?_
        refine e_gR (q := 112) 8 0 rfl rfl lc_111 lr_111_0 ?_
        refine e_vI 42 rfl rfl ix_X3_listReady rfl (q_recvOf lc_112 rfl) (Nat.le_of_ble_eq_true rfl) (fun w10 s11 e12 => ?_)
        exact e_rI rfl rfl
      · refine e_L 1 (f' := (45, [(0, .ref 0), (1, .int a1), (2, .int a2)], [.int (-3 : Int32)])) rfl ?_
        exact e_rI rfl rfl
    · refine e_L 1 (f' := (29, [(0, .ref 0), (1, .int a1), (2, .int a2)], [.int (-2 : Int32)])) rfl ?_
      exact e_rI rfl rfl
  · refine e_L 1 (f' := (11, [(0, .ref 0), (1, .int a1), (2, .int a2)], [.int (-1 : Int32)])) rfl ?_
    exact e_rI rfl rfl
set_option maxRecDepth 100000 in
set_option maxHeartbeats 4000000 in
theorem le_X11_thread (en : pN) (d : Nat) (a1 : Int32) (a2 : Int32) (s : qS) : qle (if (s.1 111 4) = (0 : Int32) then some (some (.int (-1 : Int32)), s) else if a1 < (0 : Int32) then some (some (.int (-1 : Int32)), s) else if a1 < (s.1 11 11) then swI a2.toInt 0 [gd (p_inB ((0 : Int32) + a1) 236 = true) (some (some (.int (s.1 113 ((0 : Int32) + a1).toNatClampNeg)), s)), gd (p_inB ((4 : Int32) + a1) 236 = true) (if (0 : Int32) ≤ (s.1 113 ((4 : Int32) + a1).toNatClampNeg) then some (some (.int (s.1 113 ((4 : Int32) + a1).toNatClampNeg)), s) else some (some (.int (-2 : Int32)), s)), gd (p_inB ((8 : Int32) + a1) 236 = true) (some (some (.int (s.1 113 ((8 : Int32) + a1).toNatClampNeg)), s)), gd (p_inB ((56 : Int32) + a1) 236 = true) (some (some (.int (s.1 113 ((56 : Int32) + a1).toNatClampNeg)), s))] (some (some (.int (-1 : Int32)), s)) else some (some (.int (-1 : Int32)), s)) (qev en (d + 1) 210 [.ref 0, .int a1, .int a2] s) := by
  refine e_enter ix_X11_thread (Nat.le_of_ble_eq_true rfl) ?_
  show qle _ (qE (qev en d) en (some .int) tb_X11_thread (0, [(0, .ref 0), (1, .int a1), (2, .int a2)], []) s)
  refine e_L 1 (f' := (1, [(0, .ref 0), (1, .int a1), (2, .int a2)], [.ref 0])) rfl ?_
  refine e_gR (q := 111) 11 7 rfl rfl lc_0 lr_0_7 ?_
  refine e_gI 8 4 rfl rfl lc_111 ?_
  refine e_ifz 25 rfl rfl rfl (fun c1 => ?_) (fun c1 => ?_)
  · refine e_L 1 (f' := (26, [(0, .ref 0), (1, .int a1), (2, .int a2)], [.int (-1 : Int32)])) rfl ?_
    exact e_rI rfl rfl
  · refine e_L 1 (f' := (11, [(0, .ref 0), (1, .int a1), (2, .int a2)], [.int a1])) rfl ?_
    refine e_ifz 25 rfl rfl rfl (fun c2 => ?_) (fun c2 => ?_)
    · refine e_L 1 (f' := (26, [(0, .ref 0), (1, .int a1), (2, .int a2)], [.int (-1 : Int32)])) rfl ?_
      exact e_rI rfl rfl
    · refine e_L 2 (f' := (16, [(0, .ref 0), (1, .int a1), (2, .int a2)], [.ref 0, .int a1])) rfl ?_
      refine e_gR (q := 11) 11 1 rfl rfl lc_0 lr_0_1 ?_
      refine e_gI 5 11 rfl rfl lc_11 ?_
      refine e_icmp 27 rfl rfl rfl (fun c3 => ?_) (fun c3 => ?_)
      · refine e_L 1 (f' := (28, [(0, .ref 0), (1, .int a1), (2, .int a2)], [.ref 0])) rfl ?_
        refine e_gR (q := 111) 11 7 rfl rfl lc_0 lr_0_7 ?_
        refine e_gR (q := 112) 8 0 rfl rfl lc_111 lr_111_0 ?_
        refine e_gR (q := 113) 3 0 rfl rfl lc_112 lr_112_0 ?_
        refine e_L 2 (f' := (39, [(3, .ref 113), (0, .ref 0), (1, .int a1), (2, .int a2)], [.int a2])) rfl ?_
        refine e_tsw rfl (by decide) ⟨?_, ?_, ?_, ?_, trivial⟩ ?_
        · refine e_L 4 (f' := (72, [(3, .ref 113), (0, .ref 0), (1, .int a1), (2, .int a2)], [.int ((0 : Int32) + a1), .ref 113])) rfl ?_
          refine qle_gd fun h4 => ?_
          refine e_ial (n := 236) (k := ((0 : Int32) + a1).toNatClampNeg) rfl lc_113 ln_113 h4 rfl ?_
          exact e_rI rfl rfl
        · refine e_L 4 (f' := (78, [(3, .ref 113), (0, .ref 0), (1, .int a1), (2, .int a2)], [.int ((4 : Int32) + a1), .ref 113])) rfl ?_
          refine qle_gd fun h5 => ?_
          refine e_ial (n := 236) (k := ((4 : Int32) + a1).toNatClampNeg) rfl lc_113 ln_113 h5 rfl ?_
          refine e_ifz 87 rfl rfl rfl (fun c6 => ?_) (fun c6 => ?_)
          · refine e_L 4 (f' := (91, [(3, .ref 113), (0, .ref 0), (1, .int a1), (2, .int a2)], [.int ((4 : Int32) + a1), .ref 113])) rfl ?_
            refine e_ial (n := 236) (k := ((4 : Int32) + a1).toNatClampNeg) rfl lc_113 ln_113 h5 rfl ?_
            exact e_rI rfl rfl
          · refine e_L 2 (f' := (92, [(3, .ref 113), (0, .ref 0), (1, .int a1), (2, .int a2)], [.int (-2 : Int32)])) rfl ?_
            exact e_rI rfl rfl
        · refine e_L 4 (f' := (98, [(3, .ref 113), (0, .ref 0), (1, .int a1), (2, .int a2)], [.int ((8 : Int32) + a1), .ref 113])) rfl ?_
          refine qle_gd fun h7 => ?_
          refine e_ial (n := 236) (k := ((8 : Int32) + a1).toNatClampNeg) rfl lc_113 ln_113 h7 rfl ?_
          exact e_rI rfl rfl
        · refine e_L 4 (f' := (105, [(3, .ref 113), (0, .ref 0), (1, .int a1), (2, .int a2)], [.int ((56 : Int32) + a1), .ref 113])) rfl ?_
          refine qle_gd fun h8 => ?_
          refine e_ial (n := 236) (k := ((56 : Int32) + a1).toNatClampNeg) rfl lc_113 ln_113 h8 rfl ?_
          exact e_rI rfl rfl
        · refine e_L 1 (f' := (108, [(3, .ref 113), (0, .ref 0), (1, .int a1), (2, .int a2)], [.int (-1 : Int32)])) rfl ?_
          exact e_rI rfl rfl
      · refine e_L 1 (f' := (26, [(0, .ref 0), (1, .int a1), (2, .int a2)], [.int (-1 : Int32)])) rfl ?_
        exact e_rI rfl rfl
set_option maxRecDepth 100000 in
set_option maxHeartbeats 4000000 in
theorem le_X11_local (en : pN) (d : Nat) (a1 : Int32) (a2 : Int32) (s : qS) : qle (if ¬ (s.1 111 4) = (0 : Int32) then bI (qev en d 93 [.ref 11, .int a1, .int a2] s) (fun w2 s3 => if w2 = (0 : Int32) then some (some (.int (-1000 : Int32)), s3) else bI (qev en d 32 [.int a1, .int a2] s3) (fun w6 s7 => gd (p_inB w6 236 = true) (some (some (.int (s7.1 113 w6.toNatClampNeg)), s7)))) else some (some (.int (-1 : Int32)), s)) (qev en (d + 1) 211 [.ref 0, .int a1, .int a2] s) := by
  refine e_enter ix_X11_local (Nat.le_of_ble_eq_true rfl) ?_
  show qle _ (qE (qev en d) en (some .int) tb_X11_local (0, [(0, .ref 0), (1, .int a1), (2, .int a2)], []) s)
  refine e_L 1 (f' := (1, [(0, .ref 0), (1, .int a1), (2, .int a2)], [.ref 0])) rfl ?_
  refine e_gR (q := 111) 11 7 rfl rfl lc_0 lr_0_7 ?_
  refine e_gI 8 4 rfl rfl lc_111 ?_
  refine e_ifz 12 rfl rfl rfl (fun c1 => ?_) (fun c1 => ?_)
  · refine e_L 1 (f' := (13, [(0, .ref 0), (1, .int a1), (2, .int a2)], [.ref 0])) rfl ?_
    refine e_gR (q := 11) 11 1 rfl rfl lc_0 lr_0_1 ?_
    refine e_L 2 (f' := (18, [(0, .ref 0), (1, .int a1), (2, .int a2)], [.int a2, .int a1, .ref 11])) rfl ?_
    refine e_vI 93 rfl rfl ix_X5_hasLocal rfl (q_recvOf lc_11 rfl) (Nat.le_of_ble_eq_true rfl) (fun w2 s3 e4 => ?_)
    refine e_ifz 43 rfl rfl rfl (fun c5 => ?_) (fun c5 => ?_)
    · refine e_L 1 (f' := (46, [(0, .ref 0), (1, .int a1), (2, .int a2)], [.int (-1000 : Int32)])) rfl ?_
      exact e_rI rfl rfl
    · refine e_L 1 (f' := (25, [(0, .ref 0), (1, .int a1), (2, .int a2)], [.ref 0])) rfl ?_
      refine e_gR (q := 111) 11 7 rfl rfl lc_0 lr_0_7 ?_
      refine e_gR (q := 112) 8 0 rfl rfl lc_111 lr_111_0 ?_
      refine e_gR (q := 113) 3 0 rfl rfl lc_112 lr_112_0 ?_
      refine e_L 2 (f' := (36, [(0, .ref 0), (1, .int a1), (2, .int a2)], [.int a2, .int a1, .ref 113])) rfl ?_
      refine e_sI 32 rfl rfl rfl ix_X3_localSlot rfl (Nat.le_of_ble_eq_true rfl) (fun w6 s7 e8 => ?_)
      refine qle_gd fun h9 => ?_
      refine e_ial (n := 236) (k := w6.toNatClampNeg) rfl lc_113 ln_113 h9 rfl ?_
      refine e_L 1 (f' := (46, [(0, .ref 0), (1, .int a1), (2, .int a2)], [.int (s7.1 113 w6.toNatClampNeg)])) rfl ?_
      exact e_rI rfl rfl
  · refine e_L 1 (f' := (11, [(0, .ref 0), (1, .int a1), (2, .int a2)], [.int (-1 : Int32)])) rfl ?_
    exact e_rI rfl rfl
set_option maxRecDepth 100000 in
set_option maxHeartbeats 4000000 in
theorem le_X11_cell (en : pN) (d : Nat) (a1 : Int32) (s : qS) : qle (if (s.1 111 4) = (0 : Int32) then some (some (.int (-1000 : Int32)), s) else bI (qev en d 90 [.ref 11, .int a1] s) (fun w2 s3 => if w2 = (0 : Int32) then some (some (.int (-1000 : Int32)), s3) else gd (p_inB ((48 : Int32) + a1) 236 = true) (some (some (.int (s3.1 113 ((48 : Int32) + a1).toNatClampNeg)), s3)))) (qev en (d + 1) 212 [.ref 0, .int a1] s) := by
  refine e_enter ix_X11_cell (Nat.le_of_ble_eq_true rfl) ?_
  show qle _ (qE (qev en d) en (some .int) tb_X11_cell (0, [(0, .ref 0), (1, .int a1)], []) s)
  refine e_L 1 (f' := (1, [(0, .ref 0), (1, .int a1)], [.ref 0])) rfl ?_
  refine e_gR (q := 111) 11 7 rfl rfl lc_0 lr_0_7 ?_
  refine e_gI 8 4 rfl rfl lc_111 ?_
  refine e_ifz 39 rfl rfl rfl (fun c1 => ?_) (fun c1 => ?_)
  · refine e_L 1 (f' := (42, [(0, .ref 0), (1, .int a1)], [.int (-1000 : Int32)])) rfl ?_
    exact e_rI rfl rfl
  · refine e_L 1 (f' := (11, [(0, .ref 0), (1, .int a1)], [.ref 0])) rfl ?_
    refine e_gR (q := 11) 11 1 rfl rfl lc_0 lr_0_1 ?_
    refine e_L 1 (f' := (15, [(0, .ref 0), (1, .int a1)], [.int a1, .ref 11])) rfl ?_
    refine e_vI 90 rfl rfl ix_X5_hasCell rfl (q_recvOf lc_11 rfl) (Nat.le_of_ble_eq_true rfl) (fun w2 s3 e4 => ?_)
    refine e_ifz 39 rfl rfl rfl (fun c5 => ?_) (fun c5 => ?_)
    · refine e_L 1 (f' := (42, [(0, .ref 0), (1, .int a1)], [.int (-1000 : Int32)])) rfl ?_
      exact e_rI rfl rfl
    · refine e_L 1 (f' := (22, [(0, .ref 0), (1, .int a1)], [.ref 0])) rfl ?_
      refine e_gR (q := 111) 11 7 rfl rfl lc_0 lr_0_7 ?_
      refine e_gR (q := 112) 8 0 rfl rfl lc_111 lr_111_0 ?_
      refine e_gR (q := 113) 3 0 rfl rfl lc_112 lr_112_0 ?_
      refine e_L 3 (f' := (35, [(0, .ref 0), (1, .int a1)], [.int ((48 : Int32) + a1), .ref 113])) rfl ?_
      refine qle_gd fun h6 => ?_
      refine e_ial (n := 236) (k := ((48 : Int32) + a1).toNatClampNeg) rfl lc_113 ln_113 h6 rfl ?_
      refine e_L 1 (f' := (42, [(0, .ref 0), (1, .int a1)], [.int (s3.1 113 ((48 : Int32) + a1).toNatClampNeg)])) rfl ?_
      exact e_rI rfl rfl
set_option maxRecDepth 100000 in
set_option maxHeartbeats 4000000 in
theorem le_X11_explore (en : pN) (d : Nat) (a1 : Int32) (a2 : Int32) (s : qS) : qle (if (s.1 0 9) = (0 : Int32) then some (some (.int (-1 : Int32)), s) else bI (qev en d 238 [.int a1] s) (fun w2 s3 => if ¬ w2 = (0 : Int32) then nm (uI s3 0 11 (0 : Int32)) (fun s6 => bI (qev en d 177 [.ref 70, .ref 11, .int a1, .int a2] s6) (fun w7 s8 => some (some (.int w7), s8))) else some (some (.int (-1 : Int32)), s3))) (qev en (d + 1) 220 [.ref 0, .int a1, .int a2] s) := by
  refine e_enter ix_X11_explore (Nat.le_of_ble_eq_true rfl) ?_
  show qle _ (qE (qev en d) en (some .int) tb_X11_explore (0, [(0, .ref 0), (1, .int a1), (2, .int a2)], []) s)
  refine e_L 1 (f' := (1, [(0, .ref 0), (1, .int a1), (2, .int a2)], [.ref 0])) rfl ?_
  refine e_gI 11 9 rfl rfl lc_0 ?_
  refine e_ifz 14 rfl rfl rfl (fun c1 => ?_) (fun c1 => ?_)
  · refine e_L 1 (f' := (15, [(0, .ref 0), (1, .int a1), (2, .int a2)], [.int (-1 : Int32)])) rfl ?_
    exact e_rI rfl rfl
  · refine e_L 1 (f' := (8, [(0, .ref 0), (1, .int a1), (2, .int a2)], [.int a1])) rfl ?_
    refine e_sI 238 rfl rfl rfl ix_X11_isWay rfl (Nat.le_of_ble_eq_true rfl) (fun w2 s3 e4 => ?_)
    refine e_ifz 16 rfl rfl rfl (fun c5 => ?_) (fun c5 => ?_)
    · refine e_L 2 (f' := (18, [(0, .ref 0), (1, .int a1), (2, .int a2)], [.int (0 : Int32), .ref 0])) rfl ?_
      refine e_pI 11 11 rfl rfl lc_0 (by decide +kernel) ?_
      refine e_nS fun s6 => ?_
      refine e_L 1 (f' := (22, [(0, .ref 0), (1, .int a1), (2, .int a2)], [.ref 0])) rfl ?_
      refine e_gR (q := 70) 11 4 rfl rfl lc_0 lr_0_4 ?_
      refine e_L 1 (f' := (26, [(0, .ref 0), (1, .int a1), (2, .int a2)], [.ref 0, .ref 70])) rfl ?_
      refine e_gR (q := 11) 11 1 rfl rfl lc_0 lr_0_1 ?_
      refine e_L 2 (f' := (31, [(0, .ref 0), (1, .int a1), (2, .int a2)], [.int a2, .int a1, .ref 11, .ref 70])) rfl ?_
      refine e_vI 177 rfl rfl ix_X10_tryAll rfl (q_recvOf lc_70 rfl) (Nat.le_of_ble_eq_true rfl) (fun w7 s8 e9 => ?_)
      exact e_rI rfl rfl
    · refine e_L 1 (f' := (15, [(0, .ref 0), (1, .int a1), (2, .int a2)], [.int (-1 : Int32)])) rfl ?_
      exact e_rI rfl rfl
set_option maxRecDepth 100000 in
set_option maxHeartbeats 4000000 in
theorem le_X11_explored (en : pN) (d : Nat) (a1 : Int32) (s : qS) : qle (if ¬ (s.1 70 17) = (0 : Int32) then swI a1.toInt 0 [some (some (.int (s.1 83 3)), s), some (some (.int (s.1 70 13)), s), some (some (.int (s.1 70 14)), s), some (some (.int (s.1 87 3)), s), some (some (.int (s.1 71 8)), s), if (s.1 70 18) = (0 : Int32) then some (some (.int (0 : Int32)), s) else some (some (.int (1 : Int32)), s)] (some (some (.int (-1 : Int32)), s)) else some (some (.int (-1 : Int32)), s)) (qev en (d + 1) 221 [.ref 0, .int a1] s) := by
  refine e_enter ix_X11_explored (Nat.le_of_ble_eq_true rfl) ?_
  show qle _ (qE (qev en d) en (some .int) tb_X11_explored (0, [(0, .ref 0), (1, .int a1)], []) s)
  refine e_L 1 (f' := (1, [(0, .ref 0), (1, .int a1)], [.ref 0])) rfl ?_
  refine e_gR (q := 70) 11 4 rfl rfl lc_0 lr_0_4 ?_
  refine e_gI 10 17 rfl rfl lc_70 ?_
  refine e_ifz 12 rfl rfl rfl (fun c1 => ?_) (fun c1 => ?_)
  · refine e_L 1 (f' := (13, [(0, .ref 0), (1, .int a1)], [.int a1])) rfl ?_
    refine e_tsw rfl (by decide) ⟨?_, ?_, ?_, ?_, ?_, ?_, trivial⟩ ?_
    · refine e_L 1 (f' := (53, [(0, .ref 0), (1, .int a1)], [.ref 0])) rfl ?_
      refine e_gR (q := 70) 11 4 rfl rfl lc_0 lr_0_4 ?_
      refine e_gR (q := 83) 10 2 rfl rfl lc_70 lr_70_2 ?_
      refine e_gI 7 3 rfl rfl lc_83 ?_
      exact e_rI rfl rfl
    · refine e_L 1 (f' := (64, [(0, .ref 0), (1, .int a1)], [.ref 0])) rfl ?_
      refine e_gR (q := 70) 11 4 rfl rfl lc_0 lr_0_4 ?_
      refine e_gI 10 13 rfl rfl lc_70 ?_
      exact e_rI rfl rfl
    · refine e_L 1 (f' := (72, [(0, .ref 0), (1, .int a1)], [.ref 0])) rfl ?_
      refine e_gR (q := 70) 11 4 rfl rfl lc_0 lr_0_4 ?_
      refine e_gI 10 14 rfl rfl lc_70 ?_
      exact e_rI rfl rfl
    · refine e_L 1 (f' := (80, [(0, .ref 0), (1, .int a1)], [.ref 0])) rfl ?_
      refine e_gR (q := 70) 11 4 rfl rfl lc_0 lr_0_4 ?_
      refine e_gR (q := 87) 10 3 rfl rfl lc_70 lr_70_3 ?_
      refine e_gI 7 3 rfl rfl lc_87 ?_
      exact e_rI rfl rfl
    · refine e_L 1 (f' := (91, [(0, .ref 0), (1, .int a1)], [.ref 0])) rfl ?_
      refine e_gR (q := 70) 11 4 rfl rfl lc_0 lr_0_4 ?_
      refine e_gR (q := 71) 10 0 rfl rfl lc_70 lr_70_0 ?_
      refine e_gI 3 8 rfl rfl lc_71 ?_
      exact e_rI rfl rfl
    · refine e_L 1 (f' := (102, [(0, .ref 0), (1, .int a1)], [.ref 0])) rfl ?_
      refine e_gR (q := 70) 11 4 rfl rfl lc_0 lr_0_4 ?_
      refine e_gI 10 18 rfl rfl lc_70 ?_
      refine e_ifz 115 rfl rfl rfl (fun c2 => ?_) (fun c2 => ?_)
      · refine e_L 1 (f' := (116, [(0, .ref 0), (1, .int a1)], [.int (0 : Int32)])) rfl ?_
        exact e_rI rfl rfl
      · refine e_L 2 (f' := (116, [(0, .ref 0), (1, .int a1)], [.int (1 : Int32)])) rfl ?_
        exact e_rI rfl rfl
    · refine e_L 1 (f' := (118, [(0, .ref 0), (1, .int a1)], [.int (-1 : Int32)])) rfl ?_
      exact e_rI rfl rfl
  · refine e_L 1 (f' := (11, [(0, .ref 0), (1, .int a1)], [.int (-1 : Int32)])) rfl ?_
    exact e_rI rfl rfl
set_option maxRecDepth 100000 in
set_option maxHeartbeats 4000000 in
theorem le_X11_outcome (en : pN) (d : Nat) (a1 : Int32) (a2 : Int32) (s : qS) : qle (bI (qev en d 184 [.ref 70, .int a1] s) (fun w1 s2 => if ¬ w1 = (0 : Int32) then swI a2.toInt 0 [bI (qev en d 186 [.ref 70, .int a1, .int (233 : Int32)] s2) (fun w5 s6 => some (some (.int w5), s6)), bI (qev en d 185 [.ref 70, .int a1] s2) (fun w8 s9 => some (some (.int w8), s9)), bI (qev en d 192 [.ref 70, .int a1] s2) (fun w11 s12 => some (some (.int w11), s12))] (some (some (.int (-1 : Int32)), s2)) else some (some (.int (-1 : Int32)), s2))) (qev en (d + 1) 222 [.ref 0, .int a1, .int a2] s) := by
  refine e_enter ix_X11_outcome (Nat.le_of_ble_eq_true rfl) ?_
  show qle _ (qE (qev en d) en (some .int) tb_X11_outcome (0, [(0, .ref 0), (1, .int a1), (2, .int a2)], []) s)
  refine e_L 1 (f' := (1, [(0, .ref 0), (1, .int a1), (2, .int a2)], [.ref 0])) rfl ?_
  refine e_gR (q := 70) 11 4 rfl rfl lc_0 lr_0_4 ?_
  refine e_L 1 (f' := (5, [(0, .ref 0), (1, .int a1), (2, .int a2)], [.int a1, .ref 70])) rfl ?_
  refine e_vI 184 rfl rfl ix_X10_hasOutcome rfl (q_recvOf lc_70 rfl) (Nat.le_of_ble_eq_true rfl) (fun w1 s2 e3 => ?_)
  refine e_ifz 13 rfl rfl rfl (fun c4 => ?_) (fun c4 => ?_)
  · refine e_L 1 (f' := (14, [(0, .ref 0), (1, .int a1), (2, .int a2)], [.int a2])) rfl ?_
    refine e_tsw rfl (by decide) ⟨?_, ?_, ?_, trivial⟩ ?_
    · refine e_L 1 (f' := (41, [(0, .ref 0), (1, .int a1), (2, .int a2)], [.ref 0])) rfl ?_
      refine e_gR (q := 70) 11 4 rfl rfl lc_0 lr_0_4 ?_
      refine e_L 2 (f' := (48, [(0, .ref 0), (1, .int a1), (2, .int a2)], [.int (233 : Int32), .int a1, .ref 70])) rfl ?_
      refine e_vI 186 rfl rfl ix_X10_slotOfOutcome rfl (q_recvOf lc_70 rfl) (Nat.le_of_ble_eq_true rfl) (fun w5 s6 e7 => ?_)
      exact e_rI rfl rfl
    · refine e_L 1 (f' := (53, [(0, .ref 0), (1, .int a1), (2, .int a2)], [.ref 0])) rfl ?_
      refine e_gR (q := 70) 11 4 rfl rfl lc_0 lr_0_4 ?_
      refine e_L 1 (f' := (57, [(0, .ref 0), (1, .int a1), (2, .int a2)], [.int a1, .ref 70])) rfl ?_
      refine e_vI 185 rfl rfl ix_X10_stateOfOutcome rfl (q_recvOf lc_70 rfl) (Nat.le_of_ble_eq_true rfl) (fun w8 s9 e10 => ?_)
      exact e_rI rfl rfl
    · refine e_L 1 (f' := (62, [(0, .ref 0), (1, .int a1), (2, .int a2)], [.ref 0])) rfl ?_
      refine e_gR (q := 70) 11 4 rfl rfl lc_0 lr_0_4 ?_
      refine e_L 1 (f' := (66, [(0, .ref 0), (1, .int a1), (2, .int a2)], [.int a1, .ref 70])) rfl ?_
      refine e_vI 192 rfl rfl ix_X10_fewestSwitches rfl (q_recvOf lc_70 rfl) (Nat.le_of_ble_eq_true rfl) (fun w11 s12 e13 => ?_)
      exact e_rI rfl rfl
    · refine e_L 1 (f' := (71, [(0, .ref 0), (1, .int a1), (2, .int a2)], [.int (-1 : Int32)])) rfl ?_
      exact e_rI rfl rfl
  · refine e_L 1 (f' := (12, [(0, .ref 0), (1, .int a1), (2, .int a2)], [.int (-1 : Int32)])) rfl ?_
    exact e_rI rfl rfl
set_option maxRecDepth 100000 in
set_option maxHeartbeats 4000000 in
theorem le_X11_outcomeCell (en : pN) (d : Nat) (a1 : Int32) (a2 : Int32) (s : qS) : qle (bI (qev en d 184 [.ref 70, .int a1] s) (fun w1 s2 => if w1 = (0 : Int32) then some (some (.int (-1000 : Int32)), s2) else bI (qev en d 90 [.ref 11, .int a2] s2) (fun w5 s6 => if w5 = (0 : Int32) then some (some (.int (-1000 : Int32)), s6) else bI (qev en d 186 [.ref 70, .int a1, .int ((48 : Int32) + a2)] s6) (fun w9 s10 => some (some (.int w9), s10))))) (qev en (d + 1) 223 [.ref 0, .int a1, .int a2] s) := by
  refine e_enter ix_X11_outcomeCell (Nat.le_of_ble_eq_true rfl) ?_
  show qle _ (qE (qev en d) en (some .int) tb_X11_outcomeCell (0, [(0, .ref 0), (1, .int a1), (2, .int a2)], []) s)
  refine e_L 1 (f' := (1, [(0, .ref 0), (1, .int a1), (2, .int a2)], [.ref 0])) rfl ?_
  refine e_gR (q := 70) 11 4 rfl rfl lc_0 lr_0_4 ?_
  refine e_L 1 (f' := (5, [(0, .ref 0), (1, .int a1), (2, .int a2)], [.int a1, .ref 70])) rfl ?_
  refine e_vI 184 rfl rfl ix_X10_hasOutcome rfl (q_recvOf lc_70 rfl) (Nat.le_of_ble_eq_true rfl) (fun w1 s2 e3 => ?_)
  refine e_ifz 37 rfl rfl rfl (fun c4 => ?_) (fun c4 => ?_)
  · refine e_L 1 (f' := (40, [(0, .ref 0), (1, .int a1), (2, .int a2)], [.int (-1000 : Int32)])) rfl ?_
    exact e_rI rfl rfl
  · refine e_L 1 (f' := (12, [(0, .ref 0), (1, .int a1), (2, .int a2)], [.ref 0])) rfl ?_
    refine e_gR (q := 11) 11 1 rfl rfl lc_0 lr_0_1 ?_
    refine e_L 1 (f' := (16, [(0, .ref 0), (1, .int a1), (2, .int a2)], [.int a2, .ref 11])) rfl ?_
    refine e_vI 90 rfl rfl ix_X5_hasCell rfl (q_recvOf lc_11 rfl) (Nat.le_of_ble_eq_true rfl) (fun w5 s6 e7 => ?_)
    refine e_ifz 37 rfl rfl rfl (fun c8 => ?_) (fun c8 => ?_)
    · refine e_L 1 (f' := (40, [(0, .ref 0), (1, .int a1), (2, .int a2)], [.int (-1000 : Int32)])) rfl ?_
      exact e_rI rfl rfl
    · refine e_L 1 (f' := (23, [(0, .ref 0), (1, .int a1), (2, .int a2)], [.ref 0])) rfl ?_
      refine e_gR (q := 70) 11 4 rfl rfl lc_0 lr_0_4 ?_
      refine e_L 4 (f' := (31, [(0, .ref 0), (1, .int a1), (2, .int a2)], [.int ((48 : Int32) + a2), .int a1, .ref 70])) rfl ?_
      refine e_vI 186 rfl rfl ix_X10_slotOfOutcome rfl (q_recvOf lc_70 rfl) (Nat.le_of_ble_eq_true rfl) (fun w9 s10 e11 => ?_)
      refine e_L 1 (f' := (40, [(0, .ref 0), (1, .int a1), (2, .int a2)], [.int w9])) rfl ?_
      exact e_rI rfl rfl
set_option maxRecDepth 100000 in
set_option maxHeartbeats 4000000 in
theorem le_X11_outcomeLocal (en : pN) (d : Nat) (a1 : Int32) (a2 : Int32) (a3 : Int32) (s : qS) : qle (bI (qev en d 184 [.ref 70, .int a1] s) (fun w1 s2 => if w1 = (0 : Int32) then some (some (.int (-1000 : Int32)), s2) else bI (qev en d 93 [.ref 11, .int a2, .int a3] s2) (fun w5 s6 => if w5 = (0 : Int32) then some (some (.int (-1000 : Int32)), s6) else bI (qev en d 32 [.int a2, .int a3] s6) (fun w9 s10 => bI (qev en d 186 [.ref 70, .int a1, .int w9] s10) (fun w12 s13 => some (some (.int w12), s13)))))) (qev en (d + 1) 224 [.ref 0, .int a1, .int a2, .int a3] s) := by
  refine e_enter ix_X11_outcomeLocal (Nat.le_of_ble_eq_true rfl) ?_
  show qle _ (qE (qev en d) en (some .int) tb_X11_outcomeLocal (0, [(0, .ref 0), (1, .int a1), (2, .int a2), (3, .int a3)], []) s)
  refine e_L 1 (f' := (1, [(0, .ref 0), (1, .int a1), (2, .int a2), (3, .int a3)], [.ref 0])) rfl ?_
  refine e_gR (q := 70) 11 4 rfl rfl lc_0 lr_0_4 ?_
  refine e_L 1 (f' := (5, [(0, .ref 0), (1, .int a1), (2, .int a2), (3, .int a3)], [.int a1, .ref 70])) rfl ?_
  refine e_vI 184 rfl rfl ix_X10_hasOutcome rfl (q_recvOf lc_70 rfl) (Nat.le_of_ble_eq_true rfl) (fun w1 s2 e3 => ?_)
  refine e_ifz 39 rfl rfl rfl (fun c4 => ?_) (fun c4 => ?_)
  · refine e_L 1 (f' := (42, [(0, .ref 0), (1, .int a1), (2, .int a2), (3, .int a3)], [.int (-1000 : Int32)])) rfl ?_
    exact e_rI rfl rfl
  · refine e_L 1 (f' := (12, [(0, .ref 0), (1, .int a1), (2, .int a2), (3, .int a3)], [.ref 0])) rfl ?_
    refine e_gR (q := 11) 11 1 rfl rfl lc_0 lr_0_1 ?_
    refine e_L 2 (f' := (17, [(0, .ref 0), (1, .int a1), (2, .int a2), (3, .int a3)], [.int a3, .int a2, .ref 11])) rfl ?_
    refine e_vI 93 rfl rfl ix_X5_hasLocal rfl (q_recvOf lc_11 rfl) (Nat.le_of_ble_eq_true rfl) (fun w5 s6 e7 => ?_)
    refine e_ifz 39 rfl rfl rfl (fun c8 => ?_) (fun c8 => ?_)
    · refine e_L 1 (f' := (42, [(0, .ref 0), (1, .int a1), (2, .int a2), (3, .int a3)], [.int (-1000 : Int32)])) rfl ?_
      exact e_rI rfl rfl
    · refine e_L 1 (f' := (24, [(0, .ref 0), (1, .int a1), (2, .int a2), (3, .int a3)], [.ref 0])) rfl ?_
      refine e_gR (q := 70) 11 4 rfl rfl lc_0 lr_0_4 ?_
      refine e_L 3 (f' := (30, [(0, .ref 0), (1, .int a1), (2, .int a2), (3, .int a3)], [.int a3, .int a2, .int a1, .ref 70])) rfl ?_
      refine e_sI 32 rfl rfl rfl ix_X3_localSlot rfl (Nat.le_of_ble_eq_true rfl) (fun w9 s10 e11 => ?_)
      refine e_vI 186 rfl rfl ix_X10_slotOfOutcome rfl (q_recvOf lc_70 rfl) (Nat.le_of_ble_eq_true rfl) (fun w12 s13 e14 => ?_)
      refine e_L 1 (f' := (42, [(0, .ref 0), (1, .int a1), (2, .int a2), (3, .int a3)], [.int w12])) rfl ?_
      exact e_rI rfl rfl
set_option maxRecDepth 100000 in
set_option maxHeartbeats 4000000 in
theorem le_X11_chances (en : pN) (d : Nat) (a1 : Int32) (a2 : Int32) (a3 : Int32) (s : qS) : qle (bI (qev en d 184 [.ref 70, .int a1] s) (fun w1 s2 => if w1 = (0 : Int32) then some (some (.int (-1 : Int32)), s2) else if ¬ (s2.1 71 8) = (0 : Int32) then some (some (.int (-1 : Int32)), s2) else if a2 < (1 : Int32) then some (some (.int (-1 : Int32)), s2) else if (3 : Int32) < a2 then some (some (.int (-1 : Int32)), s2) else if a3 < (1 : Int32) then some (some (.int (-1 : Int32)), s2) else if a3 ≤ (12 : Int32) then bI (qev en d 196 [.ref 70, .int a1, .int a2, .int a3] s2) (fun w10 s11 => some (some (.int w10), s11)) else some (some (.int (-1 : Int32)), s2))) (qev en (d + 1) 227 [.ref 0, .int a1, .int a2, .int a3] s) := by
  refine e_enter ix_X11_chances (Nat.le_of_ble_eq_true rfl) ?_
  show qle _ (qE (qev en d) en (some .int) tb_X11_chances (0, [(0, .ref 0), (1, .int a1), (2, .int a2), (3, .int a3)], []) s)
  refine e_L 1 (f' := (1, [(0, .ref 0), (1, .int a1), (2, .int a2), (3, .int a3)], [.ref 0])) rfl ?_
  refine e_gR (q := 70) 11 4 rfl rfl lc_0 lr_0_4 ?_
  refine e_L 1 (f' := (5, [(0, .ref 0), (1, .int a1), (2, .int a2), (3, .int a3)], [.int a1, .ref 70])) rfl ?_
  refine e_vI 184 rfl rfl ix_X10_hasOutcome rfl (q_recvOf lc_70 rfl) (Nat.le_of_ble_eq_true rfl) (fun w1 s2 e3 => ?_)
  refine e_ifz 45 rfl rfl rfl (fun c4 => ?_) (fun c4 => ?_)
  · refine e_L 1 (f' := (46, [(0, .ref 0), (1, .int a1), (2, .int a2), (3, .int a3)], [.int (-1 : Int32)])) rfl ?_
    exact e_rI rfl rfl
  · refine e_L 1 (f' := (12, [(0, .ref 0), (1, .int a1), (2, .int a2), (3, .int a3)], [.ref 0])) rfl ?_
    refine e_gR (q := 70) 11 4 rfl rfl lc_0 lr_0_4 ?_
    refine e_gR (q := 71) 10 0 rfl rfl lc_70 lr_70_0 ?_
    refine e_gI 3 8 rfl rfl lc_71 ?_
    refine e_ifz 45 rfl rfl rfl (fun c5 => ?_) (fun c5 => ?_)
    · refine e_L 1 (f' := (46, [(0, .ref 0), (1, .int a1), (2, .int a2), (3, .int a3)], [.int (-1 : Int32)])) rfl ?_
      exact e_rI rfl rfl
    · refine e_L 2 (f' := (26, [(0, .ref 0), (1, .int a1), (2, .int a2), (3, .int a3)], [.int (1 : Int32), .int a2])) rfl ?_
      refine e_icmp 45 rfl rfl rfl (fun c6 => ?_) (fun c6 => ?_)
      · refine e_L 1 (f' := (46, [(0, .ref 0), (1, .int a1), (2, .int a2), (3, .int a3)], [.int (-1 : Int32)])) rfl ?_
        exact e_rI rfl rfl
      · refine e_L 2 (f' := (31, [(0, .ref 0), (1, .int a1), (2, .int a2), (3, .int a3)], [.int (3 : Int32), .int a2])) rfl ?_
        refine e_icmp 45 rfl rfl rfl (fun c7 => ?_) (fun c7 => ?_)
        · refine e_L 1 (f' := (46, [(0, .ref 0), (1, .int a1), (2, .int a2), (3, .int a3)], [.int (-1 : Int32)])) rfl ?_
          exact e_rI rfl rfl
        · refine e_L 2 (f' := (36, [(0, .ref 0), (1, .int a1), (2, .int a2), (3, .int a3)], [.int (1 : Int32), .int a3])) rfl ?_
          refine e_icmp 45 rfl rfl rfl (fun c8 => ?_) (fun c8 => ?_)
          · refine e_L 1 (f' := (46, [(0, .ref 0), (1, .int a1), (2, .int a2), (3, .int a3)], [.int (-1 : Int32)])) rfl ?_
            exact e_rI rfl rfl
          · refine e_L 2 (f' := (42, [(0, .ref 0), (1, .int a1), (2, .int a2), (3, .int a3)], [.int (12 : Int32), .int a3])) rfl ?_
            refine e_icmp 47 rfl rfl rfl (fun c9 => ?_) (fun c9 => ?_)
            · refine e_L 1 (f' := (48, [(0, .ref 0), (1, .int a1), (2, .int a2), (3, .int a3)], [.ref 0])) rfl ?_
              refine e_gR (q := 70) 11 4 rfl rfl lc_0 lr_0_4 ?_
              refine e_L 3 (f' := (54, [(0, .ref 0), (1, .int a1), (2, .int a2), (3, .int a3)], [.int a3, .int a2, .int a1, .ref 70])) rfl ?_
              refine e_vI 196 rfl rfl ix_X10_countChances rfl (q_recvOf lc_70 rfl) (Nat.le_of_ble_eq_true rfl) (fun w10 s11 e12 => ?_)
              exact e_rI rfl rfl
            · refine e_L 1 (f' := (46, [(0, .ref 0), (1, .int a1), (2, .int a2), (3, .int a3)], [.int (-1 : Int32)])) rfl ?_
              exact e_rI rfl rfl
noncomputable def L_X11_rewrite_51 (en : pN) (d : Nat) (v1 : Int32) (v2 : Int32) (s : qS) : Option qR := qE (qev en d) en (some .int) tb_X11_rewrite (51, [(0, .ref 0), (1, .int v1), (2, .int v2)], []) s
set_option maxRecDepth 100000 in
set_option maxHeartbeats 4000000 in
theorem le_X11_rewrite_51 (en : pN) (d : Nat) (v1 : Int32) (v2 : Int32) (s : qS) : qle (gd (p_inB v2 100 = true) (if (s.1 60 v2.toNatClampNeg) = (0 : Int32) then bI (qev en d 105 [.ref 36, .int v1, .int v2] s) (fun w3 s4 => if ¬ w3 = (0 : Int32) then bV (qev en d 239 [.ref 0] s4) (fun s8 => nm (uI s8 0 10 (1 : Int32)) (fun s10 => some (some (.int (1 : Int32)), s10))) else some (some (.int (0 : Int32)), s4)) else some (some (.int (-1 : Int32)), s))) (L_X11_rewrite_51 en d v1 v2 s) := by
  show qle _ (qE (qev en d) en (some .int) tb_X11_rewrite (51, [(0, .ref 0), (1, .int v1), (2, .int v2)], []) s)
  refine e_L 1 (f' := (52, [(0, .ref 0), (1, .int v1), (2, .int v2)], [.ref 0])) rfl ?_
  refine e_gR (q := 36) 11 2 rfl rfl lc_0 lr_0_2 ?_
  refine e_gR (q := 42) 5 6 rfl rfl lc_36 lr_36_6 ?_
  refine e_L 1 (f' := (60, [(0, .ref 0), (1, .int v1), (2, .int v2)], [.int (17 : Int32), .ref 42])) rfl ?_
  refine e_aal (n := 18) (q := 60) rfl lc_42 ln_42 (by decide +kernel) (by decide +kernel) ?_
  refine e_L 1 (f' := (62, [(0, .ref 0), (1, .int v1), (2, .int v2)], [.int v2, .ref 60])) rfl ?_
  refine qle_gd fun h1 => ?_
  refine e_ial (n := 100) (k := v2.toNatClampNeg) rfl lc_60 ln_60 h1 rfl ?_
  refine e_ifz 68 rfl rfl rfl (fun c2 => ?_) (fun c2 => ?_)
  · refine e_L 1 (f' := (69, [(0, .ref 0), (1, .int v1), (2, .int v2)], [.ref 0])) rfl ?_
    refine e_gR (q := 36) 11 2 rfl rfl lc_0 lr_0_2 ?_
    refine e_L 2 (f' := (74, [(0, .ref 0), (1, .int v1), (2, .int v2)], [.int v2, .int v1, .ref 36])) rfl ?_
    refine e_vI 105 rfl rfl ix_X5_change rfl (q_recvOf lc_36 rfl) (Nat.le_of_ble_eq_true rfl) (fun w3 s4 e5 => ?_)
    refine e_ifz 82 rfl rfl rfl (fun c6 => ?_) (fun c6 => ?_)
    · refine e_L 1 (f' := (83, [(0, .ref 0), (1, .int v1), (2, .int v2)], [.ref 0])) rfl ?_
      refine e_vV 239 rfl rfl ix_X11_forgetRewritten rfl (q_recvOf lc_0 rfl) (Nat.le_of_ble_eq_true rfl) (fun s8 e9 => ?_)
      refine e_L 2 (f' := (88, [(0, .ref 0), (1, .int v1), (2, .int v2)], [.int (1 : Int32), .ref 0])) rfl ?_
      refine e_pI 11 10 rfl rfl lc_0 (by decide +kernel) ?_
      refine e_nS fun s10 => ?_
      refine e_L 1 (f' := (92, [(0, .ref 0), (1, .int v1), (2, .int v2)], [.int (1 : Int32)])) rfl ?_
      exact e_rI rfl rfl
    · refine e_L 1 (f' := (81, [(0, .ref 0), (1, .int v1), (2, .int v2)], [.int (0 : Int32)])) rfl ?_
      exact e_rI rfl rfl
  · refine e_L 1 (f' := (67, [(0, .ref 0), (1, .int v1), (2, .int v2)], [.int (-1 : Int32)])) rfl ?_
    exact e_rI rfl rfl
set_option maxRecDepth 100000 in
set_option maxHeartbeats 4000000 in
theorem le_X11_rewrite (en : pN) (d : Nat) (a1 : Int32) (a2 : Int32) (s : qS) : qle (if (s.1 0 9) = (0 : Int32) then some (some (.int (-1 : Int32)), s) else if a2 < (0 : Int32) then some (some (.int (-1 : Int32)), s) else if (s.1 11 12) ≤ a2 then some (some (.int (-1 : Int32)), s) else if a1 < (0 : Int32) then some (some (.int (-1 : Int32)), s) else if a1 ≤ (2 : Int32) then if ¬ (s.1 0 10) = (0 : Int32) then L_X11_rewrite_51 en d a1 a2 s else bV (qev en d 82 [.ref 36, .ref 11] s) (fun s8 => L_X11_rewrite_51 en d a1 a2 s8) else some (some (.int (-1 : Int32)), s)) (qev en (d + 1) 234 [.ref 0, .int a1, .int a2] s) := by
  refine e_enter ix_X11_rewrite (Nat.le_of_ble_eq_true rfl) ?_
  show qle _ (qE (qev en d) en (some .int) tb_X11_rewrite (0, [(0, .ref 0), (1, .int a1), (2, .int a2)], []) s)
  refine e_L 1 (f' := (1, [(0, .ref 0), (1, .int a1), (2, .int a2)], [.ref 0])) rfl ?_
  refine e_gI 11 9 rfl rfl lc_0 ?_
  refine e_ifz 31 rfl rfl rfl (fun c1 => ?_) (fun c1 => ?_)
  · refine e_L 1 (f' := (32, [(0, .ref 0), (1, .int a1), (2, .int a2)], [.int (-1 : Int32)])) rfl ?_
    exact e_rI rfl rfl
  · refine e_L 1 (f' := (8, [(0, .ref 0), (1, .int a1), (2, .int a2)], [.int a2])) rfl ?_
    refine e_ifz 31 rfl rfl rfl (fun c2 => ?_) (fun c2 => ?_)
    · refine e_L 1 (f' := (32, [(0, .ref 0), (1, .int a1), (2, .int a2)], [.int (-1 : Int32)])) rfl ?_
      exact e_rI rfl rfl
    · refine e_L 2 (f' := (13, [(0, .ref 0), (1, .int a1), (2, .int a2)], [.ref 0, .int a2])) rfl ?_
      refine e_gR (q := 11) 11 1 rfl rfl lc_0 lr_0_1 ?_
      refine e_gI 5 12 rfl rfl lc_11 ?_
      refine e_icmp 31 rfl rfl rfl (fun c3 => ?_) (fun c3 => ?_)
      · refine e_L 1 (f' := (32, [(0, .ref 0), (1, .int a1), (2, .int a2)], [.int (-1 : Int32)])) rfl ?_
        exact e_rI rfl rfl
      · refine e_L 1 (f' := (23, [(0, .ref 0), (1, .int a1), (2, .int a2)], [.int a1])) rfl ?_
        refine e_ifz 31 rfl rfl rfl (fun c4 => ?_) (fun c4 => ?_)
        · refine e_L 1 (f' := (32, [(0, .ref 0), (1, .int a1), (2, .int a2)], [.int (-1 : Int32)])) rfl ?_
          exact e_rI rfl rfl
        · refine e_L 2 (f' := (28, [(0, .ref 0), (1, .int a1), (2, .int a2)], [.int (2 : Int32), .int a1])) rfl ?_
          refine e_icmp 33 rfl rfl rfl (fun c5 => ?_) (fun c5 => ?_)
          · refine e_L 1 (f' := (34, [(0, .ref 0), (1, .int a1), (2, .int a2)], [.ref 0])) rfl ?_
            refine e_gI 11 10 rfl rfl lc_0 ?_
            refine e_ifz 51 rfl rfl rfl (fun c6 => ?_) (fun c6 => ?_)
            · exact qE_sub (qsubL [0, 1, 2] rfl (ks := [0, 1, 2]) rfl (by decide))
            · refine e_L 1 (f' := (41, [(0, .ref 0), (1, .int a1), (2, .int a2)], [.ref 0])) rfl ?_
              refine e_gR (q := 36) 11 2 rfl rfl lc_0 lr_0_2 ?_
              refine e_L 1 (f' := (45, [(0, .ref 0), (1, .int a1), (2, .int a2)], [.ref 0, .ref 36])) rfl ?_
              refine e_gR (q := 11) 11 1 rfl rfl lc_0 lr_0_1 ?_
              refine e_vV 82 rfl rfl ix_X5_copy rfl (q_recvOf lc_36 rfl) (Nat.le_of_ble_eq_true rfl) (fun s8 e9 => ?_)
              exact qE_sub (qsubL [0, 1, 2] rfl (ks := [0, 1, 2]) rfl (by decide))
          · refine e_L 1 (f' := (32, [(0, .ref 0), (1, .int a1), (2, .int a2)], [.int (-1 : Int32)])) rfl ?_
            exact e_rI rfl rfl
set_option maxRecDepth 100000 in
set_option maxHeartbeats 4000000 in
theorem le_X11_drop (en : pN) (d : Nat) (s : qS) : qle (if ¬ (s.1 0 10) = (0 : Int32) then bV (qev en d 239 [.ref 0] s) (fun s3 => nm (uI s3 0 10 (0 : Int32)) (fun s5 => some (some (.int (1 : Int32)), s5))) else some (some (.int (0 : Int32)), s)) (qev en (d + 1) 235 [.ref 0] s) := by
  refine e_enter ix_X11_drop (Nat.le_of_ble_eq_true rfl) ?_
  show qle _ (qE (qev en d) en (some .int) tb_X11_drop (0, [(0, .ref 0)], []) s)
  refine e_L 1 (f' := (1, [(0, .ref 0)], [.ref 0])) rfl ?_
  refine e_gI 11 10 rfl rfl lc_0 ?_
  refine e_ifz 9 rfl rfl rfl (fun c1 => ?_) (fun c1 => ?_)
  · refine e_L 1 (f' := (10, [(0, .ref 0)], [.ref 0])) rfl ?_
    refine e_vV 239 rfl rfl ix_X11_forgetRewritten rfl (q_recvOf lc_0 rfl) (Nat.le_of_ble_eq_true rfl) (fun s3 e4 => ?_)
    refine e_L 2 (f' := (15, [(0, .ref 0)], [.int (0 : Int32), .ref 0])) rfl ?_
    refine e_pI 11 10 rfl rfl lc_0 (by decide +kernel) ?_
    refine e_nS fun s5 => ?_
    refine e_L 1 (f' := (19, [(0, .ref 0)], [.int (1 : Int32)])) rfl ?_
    exact e_rI rfl rfl
  · refine e_L 1 (f' := (8, [(0, .ref 0)], [.int (0 : Int32)])) rfl ?_
    exact e_rI rfl rfl
noncomputable def L_X11_sound_61 (en : pN) (d : Nat) (v1 : Int32) (vs0 : Int32) (s : qS) : Option qR := qE (qev en d) en (some .int) tb_X11_sound (61, [(0, .ref 0), (1, .int v1)], [.int vs0]) s
noncomputable def L_X11_sound_99 (en : pN) (d : Nat) (v1 : Int32) (v3 : Int32) (s : qS) : Option qR := qE (qev en d) en (some .int) tb_X11_sound (99, [(0, .ref 0), (1, .int v1), (3, .int v3)], []) s
noncomputable def L_X11_sound_175 (en : pN) (d : Nat) (v3 : Int32) (s : qS) : Option qR := qE (qev en d) en (some .int) tb_X11_sound (175, [(0, .ref 0), (3, .int v3)], []) s
set_option maxRecDepth 100000 in
set_option maxHeartbeats 4000000 in
theorem le_X11_sound_61 (en : pN) (d : Nat) (v1 : Int32) (vs0 : Int32) (s : qS) : qle (nm (uI s 70 17 (0 : Int32)) (fun s1 => if ¬ vs0 = (0 : Int32) then bV (qev en d 146 [.ref 99, .int (s1.1 87 4), .int (4000 : Int32)] s1) (fun s4 => L_X11_sound_99 en d v1 (0 : Int32) s4) else some (some (.int (-3 : Int32)), s1))) (L_X11_sound_61 en d v1 vs0 s) := by
  show qle _ (qE (qev en d) en (some .int) tb_X11_sound (61, [(0, .ref 0), (1, .int v1)], [.int vs0]) s)
  refine e_L 2 (f' := (63, [(2, .int vs0), (0, .ref 0), (1, .int v1)], [.ref 0])) rfl ?_
  refine e_gR (q := 70) 11 4 rfl rfl lc_0 lr_0_4 ?_
  refine e_L 1 (f' := (67, [(2, .int vs0), (0, .ref 0), (1, .int v1)], [.int (0 : Int32), .ref 70])) rfl ?_
  refine e_pI 10 17 rfl rfl lc_70 (by decide +kernel) ?_
  refine e_nS fun s1 => ?_
  refine e_L 1 (f' := (71, [(2, .int vs0), (0, .ref 0), (1, .int v1)], [.int vs0])) rfl ?_
  refine e_ifz 77 rfl rfl rfl (fun c2 => ?_) (fun c2 => ?_)
  · refine e_L 1 (f' := (78, [(2, .int vs0), (0, .ref 0), (1, .int v1)], [.ref 0])) rfl ?_
    refine e_gR (q := 99) 11 5 rfl rfl lc_0 lr_0_5 ?_
    refine e_L 1 (f' := (82, [(2, .int vs0), (0, .ref 0), (1, .int v1)], [.ref 0, .ref 99])) rfl ?_
    refine e_gR (q := 70) 11 4 rfl rfl lc_0 lr_0_4 ?_
    refine e_gR (q := 87) 10 3 rfl rfl lc_70 lr_70_3 ?_
    refine e_gI 7 4 rfl rfl lc_87 ?_
    refine e_L 1 (f' := (94, [(2, .int vs0), (0, .ref 0), (1, .int v1)], [.int (4000 : Int32), .int (s1.1 87 4), .ref 99])) rfl ?_
    refine e_vV 146 rfl rfl ix_X7_clear rfl (q_recvOf lc_99 rfl) (Nat.le_of_ble_eq_true rfl) (fun s4 e5 => ?_)
    refine e_L 2 (f' := (99, [(3, .int (0 : Int32)), (2, .int vs0), (0, .ref 0), (1, .int v1)], [])) rfl ?_
    exact qE_sub (qsubL [2, 3, 0] rfl (ks := [3, 2, 0, 1]) rfl (by decide))
  · refine e_L 1 (f' := (76, [(2, .int vs0), (0, .ref 0), (1, .int v1)], [.int (-3 : Int32)])) rfl ?_
    exact e_rI rfl rfl
set_option maxRecDepth 100000 in
set_option maxHeartbeats 4000000 in
theorem le_X11_sound_99 (en : pN) (d : Nat) (v1 : Int32) (v3 : Int32) (s : qS) : qle (if (s.1 87 3) ≤ v3 then nm (uI s 0 11 (1 : Int32)) (fun s2 => bI (qev en d 177 [.ref 70, .ref 36, .int v1, .int (0 : Int32)] s2) (fun w3 s4 => if (0 : Int32) ≤ w3 then L_X11_sound_175 en d (0 : Int32) s4 else some (some (.int (-3 : Int32)), s4))) else gd (p_inB v3 20000 = true) (bI (qev en d 150 [.ref 99, .ref 84, .int (s.1 88 v3.toNatClampNeg)] s) (fun w8 s9 => L_X11_sound_99 en d v1 (v3 + (1 : Int32)) s9))) (L_X11_sound_99 en d v1 v3 s) := by
  show qle _ (qE (qev en d) en (some .int) tb_X11_sound (99, [(0, .ref 0), (1, .int v1), (3, .int v3)], []) s)
  refine e_L 2 (f' := (101, [(0, .ref 0), (1, .int v1), (3, .int v3)], [.ref 0, .int v3])) rfl ?_
  refine e_gR (q := 70) 11 4 rfl rfl lc_0 lr_0_4 ?_
  refine e_gR (q := 87) 10 3 rfl rfl lc_70 lr_70_3 ?_
  refine e_gI 7 3 rfl rfl lc_87 ?_
  refine e_icmp 149 rfl rfl rfl (fun c1 => ?_) (fun c1 => ?_)
  · refine e_L 2 (f' := (151, [(0, .ref 0), (1, .int v1), (3, .int v3)], [.int (1 : Int32), .ref 0])) rfl ?_
    refine e_pI 11 11 rfl rfl lc_0 (by decide +kernel) ?_
    refine e_nS fun s2 => ?_
    refine e_L 1 (f' := (155, [(0, .ref 0), (1, .int v1), (3, .int v3)], [.ref 0])) rfl ?_
    refine e_gR (q := 70) 11 4 rfl rfl lc_0 lr_0_4 ?_
    refine e_L 1 (f' := (159, [(0, .ref 0), (1, .int v1), (3, .int v3)], [.ref 0, .ref 70])) rfl ?_
    refine e_gR (q := 36) 11 2 rfl rfl lc_0 lr_0_2 ?_
    refine e_L 2 (f' := (164, [(0, .ref 0), (1, .int v1), (3, .int v3)], [.int (0 : Int32), .int v1, .ref 36, .ref 70])) rfl ?_
    refine e_vI 177 rfl rfl ix_X10_tryAll rfl (q_recvOf lc_70 rfl) (Nat.le_of_ble_eq_true rfl) (fun w3 s4 e5 => ?_)
    refine e_ifz 173 rfl rfl rfl (fun c6 => ?_) (fun c6 => ?_)
    · refine e_L 2 (f' := (175, [(3, .int (0 : Int32)), (0, .ref 0), (1, .int v1)], [])) rfl ?_
      exact qE_sub (qsubL [1, 0] rfl (ks := [3, 0, 1]) rfl (by decide))
    · refine e_L 1 (f' := (172, [(0, .ref 0), (1, .int v1), (3, .int v3)], [.int (-3 : Int32)])) rfl ?_
      exact e_rI rfl rfl
  · refine e_L 1 (f' := (114, [(0, .ref 0), (1, .int v1), (3, .int v3)], [.ref 0])) rfl ?_
    refine e_gR (q := 99) 11 5 rfl rfl lc_0 lr_0_5 ?_
    refine e_L 1 (f' := (118, [(0, .ref 0), (1, .int v1), (3, .int v3)], [.ref 0, .ref 99])) rfl ?_
    refine e_gR (q := 70) 11 4 rfl rfl lc_0 lr_0_4 ?_
    refine e_gR (q := 83) 10 2 rfl rfl lc_70 lr_70_2 ?_
    refine e_gR (q := 84) 7 0 rfl rfl lc_83 lr_83_0 ?_
    refine e_L 1 (f' := (128, [(0, .ref 0), (1, .int v1), (3, .int v3)], [.ref 0, .ref 84, .ref 99])) rfl ?_
    refine e_gR (q := 70) 11 4 rfl rfl lc_0 lr_0_4 ?_
    refine e_gR (q := 87) 10 3 rfl rfl lc_70 lr_70_3 ?_
    refine e_gR (q := 88) 7 1 rfl rfl lc_87 lr_87_1 ?_
    refine e_L 1 (f' := (138, [(0, .ref 0), (1, .int v1), (3, .int v3)], [.int v3, .ref 88, .ref 84, .ref 99])) rfl ?_
    refine qle_gd fun h7 => ?_
    refine e_ial (n := 20000) (k := v3.toNatClampNeg) rfl lc_88 ln_88 h7 rfl ?_
    refine e_vI 150 rfl rfl ix_X7_put rfl (q_recvOf lc_99 rfl) (Nat.le_of_ble_eq_true rfl) (fun w8 s9 e10 => ?_)
    refine e_L 3 (f' := (99, [(3, .int (v3 + (1 : Int32))), (0, .ref 0), (1, .int v1)], [])) rfl ?_
    exact qE_sub (qsubL [1, 2, 0] rfl (ks := [3, 0, 1]) rfl (by decide))
set_option maxRecDepth 100000 in
set_option maxHeartbeats 4000000 in
theorem le_X11_sound_175 (en : pN) (d : Nat) (v3 : Int32) (s : qS) : qle (if (s.1 87 3) ≤ v3 then some (some (.int (1 : Int32)), s) else gd (p_inB v3 20000 = true) (bI (qev en d 149 [.ref 99, .ref 84, .int (s.1 88 v3.toNatClampNeg)] s) (fun w3 s4 => if (0 : Int32) ≤ w3 then L_X11_sound_175 en d (v3 + (1 : Int32)) s4 else nm (uI s4 0 14 v3) (fun s7 => some (some (.int (0 : Int32)), s7))))) (L_X11_sound_175 en d v3 s) := by
  show qle _ (qE (qev en d) en (some .int) tb_X11_sound (175, [(0, .ref 0), (3, .int v3)], []) s)
  refine e_L 2 (f' := (177, [(0, .ref 0), (3, .int v3)], [.ref 0, .int v3])) rfl ?_
  refine e_gR (q := 70) 11 4 rfl rfl lc_0 lr_0_4 ?_
  refine e_gR (q := 87) 10 3 rfl rfl lc_70 lr_70_3 ?_
  refine e_gI 7 3 rfl rfl lc_87 ?_
  refine e_icmp 234 rfl rfl rfl (fun c1 => ?_) (fun c1 => ?_)
  · refine e_L 1 (f' := (235, [(0, .ref 0), (3, .int v3)], [.int (1 : Int32)])) rfl ?_
    exact e_rI rfl rfl
  · refine e_L 1 (f' := (190, [(0, .ref 0), (3, .int v3)], [.ref 0])) rfl ?_
    refine e_gR (q := 99) 11 5 rfl rfl lc_0 lr_0_5 ?_
    refine e_L 1 (f' := (194, [(0, .ref 0), (3, .int v3)], [.ref 0, .ref 99])) rfl ?_
    refine e_gR (q := 70) 11 4 rfl rfl lc_0 lr_0_4 ?_
    refine e_gR (q := 83) 10 2 rfl rfl lc_70 lr_70_2 ?_
    refine e_gR (q := 84) 7 0 rfl rfl lc_83 lr_83_0 ?_
    refine e_L 1 (f' := (204, [(0, .ref 0), (3, .int v3)], [.ref 0, .ref 84, .ref 99])) rfl ?_
    refine e_gR (q := 70) 11 4 rfl rfl lc_0 lr_0_4 ?_
    refine e_gR (q := 87) 10 3 rfl rfl lc_70 lr_70_3 ?_
    refine e_gR (q := 88) 7 1 rfl rfl lc_87 lr_87_1 ?_
    refine e_L 1 (f' := (214, [(0, .ref 0), (3, .int v3)], [.int v3, .ref 88, .ref 84, .ref 99])) rfl ?_
    refine qle_gd fun h2 => ?_
    refine e_ial (n := 20000) (k := v3.toNatClampNeg) rfl lc_88 ln_88 h2 rfl ?_
    refine e_vI 149 rfl rfl ix_X7_numberOf rfl (q_recvOf lc_99 rfl) (Nat.le_of_ble_eq_true rfl) (fun w3 s4 e5 => ?_)
    refine e_ifz 228 rfl rfl rfl (fun c6 => ?_) (fun c6 => ?_)
    · refine e_L 2 (f' := (175, [(3, .int (v3 + (1 : Int32))), (0, .ref 0)], [])) rfl ?_
      exact qE_sub (qsubL [1, 0] rfl (ks := [3, 0]) rfl (by decide))
    · refine e_L 2 (f' := (223, [(0, .ref 0), (3, .int v3)], [.int v3, .ref 0])) rfl ?_
      refine e_pI 11 14 rfl rfl lc_0 rfl ?_
      refine e_nS fun s7 => ?_
      refine e_L 1 (f' := (227, [(0, .ref 0), (3, .int v3)], [.int (0 : Int32)])) rfl ?_
      exact e_rI rfl rfl
set_option maxRecDepth 100000 in
set_option maxHeartbeats 4000000 in
theorem le_X11_sound (en : pN) (d : Nat) (a1 : Int32) (s : qS) : qle (bI (qev en d 238 [.int a1] s) (fun w1 s2 => if ¬ w1 = (0 : Int32) then if ¬ (s2.1 0 10) = (0 : Int32) then nm (uI s2 0 11 (0 : Int32)) (fun s6 => bI (qev en d 177 [.ref 70, .ref 11, .int a1, .int (0 : Int32)] s6) (fun w7 s8 => if w7 < (0 : Int32) then L_X11_sound_61 en d a1 (0 : Int32) s8 else if (4000 : Int32) < (s8.1 87 3) then L_X11_sound_61 en d a1 (0 : Int32) s8 else L_X11_sound_61 en d a1 (1 : Int32) s8)) else some (some (.int (-2 : Int32)), s2) else some (some (.int (-1 : Int32)), s2))) (qev en (d + 1) 236 [.ref 0, .int a1] s) := by
  refine e_enter ix_X11_sound (Nat.le_of_ble_eq_true rfl) ?_
  show qle _ (qE (qev en d) en (some .int) tb_X11_sound (0, [(0, .ref 0), (1, .int a1)], []) s)
  refine e_L 1 (f' := (1, [(0, .ref 0), (1, .int a1)], [.int a1])) rfl ?_
  refine e_sI 238 rfl rfl rfl ix_X11_isWay rfl (Nat.le_of_ble_eq_true rfl) (fun w1 s2 e3 => ?_)
  refine e_ifz 9 rfl rfl rfl (fun c4 => ?_) (fun c4 => ?_)
  · refine e_L 1 (f' := (10, [(0, .ref 0), (1, .int a1)], [.ref 0])) rfl ?_
    refine e_gI 11 10 rfl rfl lc_0 ?_
    refine e_ifz 19 rfl rfl rfl (fun c5 => ?_) (fun c5 => ?_)
    · refine e_L 2 (f' := (21, [(0, .ref 0), (1, .int a1)], [.int (0 : Int32), .ref 0])) rfl ?_
      refine e_pI 11 11 rfl rfl lc_0 (by decide +kernel) ?_
      refine e_nS fun s6 => ?_
      refine e_L 1 (f' := (25, [(0, .ref 0), (1, .int a1)], [.ref 0])) rfl ?_
      refine e_gR (q := 70) 11 4 rfl rfl lc_0 lr_0_4 ?_
      refine e_L 1 (f' := (29, [(0, .ref 0), (1, .int a1)], [.ref 0, .ref 70])) rfl ?_
      refine e_gR (q := 11) 11 1 rfl rfl lc_0 lr_0_1 ?_
      refine e_L 2 (f' := (34, [(0, .ref 0), (1, .int a1)], [.int (0 : Int32), .int a1, .ref 11, .ref 70])) rfl ?_
      refine e_vI 177 rfl rfl ix_X10_tryAll rfl (q_recvOf lc_70 rfl) (Nat.le_of_ble_eq_true rfl) (fun w7 s8 e9 => ?_)
      refine e_ifz 60 rfl rfl rfl (fun c10 => ?_) (fun c10 => ?_)
      · refine e_L 1 (f' := (61, [(0, .ref 0), (1, .int a1)], [.int (0 : Int32)])) rfl ?_
        exact qE_sub (qsubL [0, 1] rfl (ks := [0, 1]) rfl (by decide))
      · refine e_L 1 (f' := (41, [(0, .ref 0), (1, .int a1)], [.ref 0])) rfl ?_
        refine e_gR (q := 70) 11 4 rfl rfl lc_0 lr_0_4 ?_
        refine e_gR (q := 87) 10 3 rfl rfl lc_70 lr_70_3 ?_
        refine e_gI 7 3 rfl rfl lc_87 ?_
        refine e_L 1 (f' := (53, [(0, .ref 0), (1, .int a1)], [.int (4000 : Int32), .int (s8.1 87 3)])) rfl ?_
        refine e_icmp 60 rfl rfl rfl (fun c11 => ?_) (fun c11 => ?_)
        · refine e_L 1 (f' := (61, [(0, .ref 0), (1, .int a1)], [.int (0 : Int32)])) rfl ?_
          exact qE_sub (qsubL [0, 1] rfl (ks := [0, 1]) rfl (by decide))
        · refine e_L 2 (f' := (61, [(0, .ref 0), (1, .int a1)], [.int (1 : Int32)])) rfl ?_
          exact qE_sub (qsubL [0, 1] rfl (ks := [0, 1]) rfl (by decide))
    · refine e_L 1 (f' := (18, [(0, .ref 0), (1, .int a1)], [.int (-2 : Int32)])) rfl ?_
      exact e_rI rfl rfl
  · refine e_L 1 (f' := (8, [(0, .ref 0), (1, .int a1)], [.int (-1 : Int32)])) rfl ?_
    exact e_rI rfl rfl
set_option maxRecDepth 100000 in
set_option maxHeartbeats 4000000 in
theorem le_X11_gained (en : pN) (d : Nat) (s : qS) : qle (some (some (.int (s.1 0 14)), s)) (qev en (d + 1) 237 [.ref 0] s) := by
  refine e_enter ix_X11_gained (Nat.le_of_ble_eq_true rfl) ?_
  show qle _ (qE (qev en d) en (some .int) tb_X11_gained (0, [(0, .ref 0)], []) s)
  refine e_L 1 (f' := (1, [(0, .ref 0)], [.ref 0])) rfl ?_
  refine e_gI 11 14 rfl rfl lc_0 ?_
  exact e_rI rfl rfl
set_option maxRecDepth 100000 in
set_option maxHeartbeats 4000000 in
theorem le_X11_isWay (en : pN) (d : Nat) (a1 : Int32) (s : qS) : qle (if a1 < (0 : Int32) then some (some (.int (0 : Int32)), s) else if (2 : Int32) < a1 then some (some (.int (0 : Int32)), s) else some (some (.int (1 : Int32)), s)) (qev en (d + 1) 238 [.int a1] s) := by
  refine e_enter ix_X11_isWay (Nat.le_of_ble_eq_true rfl) ?_
  show qle _ (qE (qev en d) en (some .boolean) tb_X11_isWay (0, [(0, .int a1)], []) s)
  refine e_L 1 (f' := (1, [(0, .int a1)], [.int a1])) rfl ?_
  refine e_ifz 13 rfl rfl rfl (fun c1 => ?_) (fun c1 => ?_)
  · refine e_L 1 (f' := (14, [(0, .int a1)], [.int (0 : Int32)])) rfl ?_
    exact e_rZ rfl rfl (by decide)
  · refine e_L 2 (f' := (6, [(0, .int a1)], [.int (2 : Int32), .int a1])) rfl ?_
    refine e_icmp 13 rfl rfl rfl (fun c2 => ?_) (fun c2 => ?_)
    · refine e_L 1 (f' := (14, [(0, .int a1)], [.int (0 : Int32)])) rfl ?_
      exact e_rZ rfl rfl (by decide)
    · refine e_L 2 (f' := (14, [(0, .int a1)], [.int (1 : Int32)])) rfl ?_
      exact e_rZ rfl rfl (by decide)
noncomputable def L_X11_forgetRewritten_20 (en : pN) (d : Nat) (s : qS) : Option qR := qE (qev en d) en none tb_X11_forgetRewritten (20, [(0, .ref 0)], []) s
set_option maxRecDepth 100000 in
set_option maxHeartbeats 4000000 in
theorem le_X11_forgetRewritten_20 (en : pN) (d : Nat) (s : qS) : qle (if (s.1 0 12) = (0 : Int32) then some (none, s) else nm (uI s 111 4 (0 : Int32)) (fun s2 => nm (uI s2 0 12 (0 : Int32)) (fun s3 => some (none, s3)))) (L_X11_forgetRewritten_20 en d s) := by
  show qle _ (qE (qev en d) en none tb_X11_forgetRewritten (20, [(0, .ref 0)], []) s)
  refine e_L 1 (f' := (21, [(0, .ref 0)], [.ref 0])) rfl ?_
  refine e_gI 11 12 rfl rfl lc_0 ?_
  refine e_ifz 40 rfl rfl rfl (fun c1 => ?_) (fun c1 => ?_)
  · exact e_rV rfl rfl
  · refine e_L 1 (f' := (28, [(0, .ref 0)], [.ref 0])) rfl ?_
    refine e_gR (q := 111) 11 7 rfl rfl lc_0 lr_0_7 ?_
    refine e_L 1 (f' := (32, [(0, .ref 0)], [.int (0 : Int32), .ref 111])) rfl ?_
    refine e_pI 8 4 rfl rfl lc_111 (by decide +kernel) ?_
    refine e_nS fun s2 => ?_
    refine e_L 2 (f' := (37, [(0, .ref 0)], [.int (0 : Int32), .ref 0])) rfl ?_
    refine e_pI 11 12 rfl rfl lc_0 (by decide +kernel) ?_
    refine e_nS fun s3 => ?_
    exact e_rV rfl rfl
set_option maxRecDepth 100000 in
set_option maxHeartbeats 4000000 in
theorem le_X11_forgetRewritten (en : pN) (d : Nat) (s : qS) : qle (if (s.1 0 11) = (0 : Int32) then L_X11_forgetRewritten_20 en d s else nm (uI s 70 17 (0 : Int32)) (fun s2 => nm (uI s2 0 11 (0 : Int32)) (fun s3 => L_X11_forgetRewritten_20 en d s3))) (qev en (d + 1) 239 [.ref 0] s) := by
  refine e_enter ix_X11_forgetRewritten (Nat.le_of_ble_eq_true rfl) ?_
  show qle _ (qE (qev en d) en none tb_X11_forgetRewritten (0, [(0, .ref 0)], []) s)
  refine e_L 1 (f' := (1, [(0, .ref 0)], [.ref 0])) rfl ?_
  refine e_gI 11 11 rfl rfl lc_0 ?_
  refine e_ifz 20 rfl rfl rfl (fun c1 => ?_) (fun c1 => ?_)
  · exact qE_sub (qsubL [0] rfl (ks := [0]) rfl (by decide))
  · refine e_L 1 (f' := (8, [(0, .ref 0)], [.ref 0])) rfl ?_
    refine e_gR (q := 70) 11 4 rfl rfl lc_0 lr_0_4 ?_
    refine e_L 1 (f' := (12, [(0, .ref 0)], [.int (0 : Int32), .ref 70])) rfl ?_
    refine e_pI 10 17 rfl rfl lc_70 (by decide +kernel) ?_
    refine e_nS fun s2 => ?_
    refine e_L 2 (f' := (17, [(0, .ref 0)], [.int (0 : Int32), .ref 0])) rfl ?_
    refine e_pI 11 11 rfl rfl lc_0 (by decide +kernel) ?_
    refine e_nS fun s3 => ?_
    exact qE_sub (qsubL [0] rfl (ks := [0]) rfl (by decide))
