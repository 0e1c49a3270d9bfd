/-! what methods do, printed by program out of their tables: X6_open .. -/
set_option maxRecDepth 100000 in
set_option maxHeartbeats 4000000 in
theorem le_X6_open (en : pN) (d : Nat) (a1 : Nat) (a2 : Int32) (s : qS) : qle (gd (lc a1 = 4) (nm (uR s 65 7 (a1 + 1)) (fun s1 => gd (s1.2.2 65 7 ≠ 0 ∧ lc (s1.2.2 65 7 - 1) = 4) (nm (s1.2.2 65 7 - 1) (fun q3 => nm (uI s1 q3 3 (0 : Int32)) (fun s4 => gd (isB a2 = true) (nm (uI s4 65 8 a2) (fun s6 => nm (uI s6 65 11 (0 : Int32)) (fun s7 => nm (uI s7 65 12 (-2 : Int32)) (fun s8 => nm (uI s8 65 13 (0 : Int32)) (fun s9 => bV (qev en d 166 [.ref 1] s9) (fun s11 => some (none, s11))))))))))))) (qev en (d + 1) 113 [.ref 65, .ref a1, .int a2] s) := by
  refine e_enter ix_X6_open (Nat.le_of_ble_eq_true rfl) ?_
  show qle _ (qE (qev en d) en none tb_X6_open (0, [(0, .ref 65), (1, .ref a1), (2, .int a2)], []) s)
  refine qle_gd fun h_a1 => ?_
  refine e_L 2 (f' := (2, [(0, .ref 65), (1, .ref a1), (2, .int a2)], [.ref a1, .ref 65])) rfl ?_
  refine e_pM 6 7 rfl rfl lc_65 rfl ?_
  refine e_nS fun s1 => ?_
  refine e_L 1 (f' := (6, [(0, .ref 65), (1, .ref a1), (2, .int a2)], [.ref 65])) rfl ?_
  refine qle_gd fun h2 => ?_
  refine e_gM 6 7 rfl rfl lc_65 h2.1 ?_
  refine e_nR (ci := 4) h2.2 fun q3 h_q3 => ?_
  refine e_L 1 (f' := (10, [(0, .ref 65), (1, .ref a1), (2, .int a2)], [.int (0 : Int32), .ref q3])) rfl ?_
  refine e_pI 4 3 rfl rfl h_q3 rfl ?_
  refine e_nS fun s4 => ?_
  refine e_L 2 (f' := (15, [(0, .ref 65), (1, .ref a1), (2, .int a2)], [.int a2, .ref 65])) rfl ?_
  refine qle_gd fun h5 => ?_
  refine e_pI 6 8 rfl rfl lc_65 h5 ?_
  refine e_nS fun s6 => ?_
  refine e_L 2 (f' := (20, [(0, .ref 65), (1, .ref a1), (2, .int a2)], [.int (0 : Int32), .ref 65])) rfl ?_
  refine e_pI 6 11 rfl rfl lc_65 rfl ?_
  refine e_nS fun s7 => ?_
  refine e_L 2 (f' := (26, [(0, .ref 65), (1, .ref a1), (2, .int a2)], [.int (-2 : Int32), .ref 65])) rfl ?_
  refine e_pI 6 12 rfl rfl lc_65 rfl ?_
  refine e_nS fun s8 => ?_
  refine e_L 2 (f' := (31, [(0, .ref 65), (1, .ref a1), (2, .int a2)], [.int (0 : Int32), .ref 65])) rfl ?_
  refine e_pI 6 13 rfl rfl lc_65 rfl ?_
  refine e_nS fun s9 => ?_
  refine e_L 1 (f' := (35, [(0, .ref 65), (1, .ref a1), (2, .int a2)], [.ref 65])) rfl ?_
  refine e_gR (q := 1) 6 0 rfl rfl lc_65 lr_65_0 ?_
  refine e_vV 166 rfl rfl ix_X9_cut rfl (q_recvOf lc_1 rfl) (Nat.le_of_ble_eq_true rfl) (fun s11 e12 => ?_)
  exact e_rV rfl rfl
noncomputable def L_X6_blame_24 (en : pN) (d : Nat) (vs1 : Int32) (s : qS) : Option qR := qE (qev en d) en none tb_X6_blame (24, [(0, .ref 65)], [.int vs1, .ref 65]) s
noncomputable def L_X6_blame_38 (en : pN) (d : Nat) (s : qS) : Option qR := qE (qev en d) en none tb_X6_blame (38, [(0, .ref 65)], []) s
set_option maxRecDepth 100000 in
set_option maxHeartbeats 4000000 in
theorem le_X6_blame_24 (en : pN) (d : Nat) (vs1 : Int32) (s : qS) : qle (nm (uI s 65 11 vs1) (fun s1 => nm (uI s1 65 12 (s1.1 1 10)) (fun s2 => L_X6_blame_38 en d s2))) (L_X6_blame_24 en d vs1 s) := by
  show qle _ (qE (qev en d) en none tb_X6_blame (24, [(0, .ref 65)], [.int vs1, .ref 65]) s)
  refine e_pI 6 11 rfl rfl lc_65 rfl ?_
  refine e_nS fun s1 => ?_
  refine e_L 2 (f' := (29, [(0, .ref 65)], [.ref 65, .ref 65])) rfl ?_
  refine e_gR (q := 1) 6 0 rfl rfl lc_65 lr_65_0 ?_
  refine e_gI 9 10 rfl rfl lc_1 ?_
  refine e_pI 6 12 rfl rfl lc_65 rfl ?_
  refine e_nS fun s2 => ?_
  exact qE_sub (qsubL [0] rfl (ks := [0]) rfl (by decide))
set_option maxRecDepth 100000 in
set_option maxHeartbeats 4000000 in
theorem le_X6_blame_38 (en : pN) (d : Nat) (s : qS) : qle (nm (uI s 1 9 (0 : Int32)) (fun s1 => some (none, s1))) (L_X6_blame_38 en d s) := by
  show qle _ (qE (qev en d) en none tb_X6_blame (38, [(0, .ref 65)], []) s)
  refine e_L 1 (f' := (39, [(0, .ref 65)], [.ref 65])) rfl ?_
  refine e_gR (q := 1) 6 0 rfl rfl lc_65 lr_65_0 ?_
  refine e_L 1 (f' := (43, [(0, .ref 65)], [.int (0 : Int32), .ref 1])) rfl ?_
  refine e_pI 9 9 rfl rfl lc_1 rfl ?_
  refine e_nS fun s1 => ?_
  exact e_rV rfl rfl
set_option maxRecDepth 100000 in
set_option maxHeartbeats 4000000 in
theorem le_X6_blame (en : pN) (d : Nat) (a1 : Int32) (s : qS) : qle (if ¬ (s.1 65 11) = (0 : Int32) then L_X6_blame_38 en d s else if ¬ (s.1 1 9) = (1 : Int32) then L_X6_blame_24 en d a1 s else L_X6_blame_24 en d (1 : Int32) s) (qev en (d + 1) 114 [.ref 65, .int a1] s) := by
  refine e_enter ix_X6_blame (Nat.le_of_ble_eq_true rfl) ?_
  show qle _ (qE (qev en d) en none tb_X6_blame (0, [(0, .ref 65), (1, .int a1)], []) s)
  refine e_L 1 (f' := (1, [(0, .ref 65), (1, .int a1)], [.ref 65])) rfl ?_
  refine e_gI 6 11 rfl rfl lc_65 ?_
  refine e_ifz 38 rfl rfl rfl (fun c1 => ?_) (fun c1 => ?_)
  · exact qE_sub (qsubL [0] rfl (ks := [0, 1]) rfl (by decide))
  · refine e_L 2 (f' := (9, [(0, .ref 65), (1, .int a1)], [.ref 65, .ref 65])) rfl ?_
    refine e_gR (q := 1) 6 0 rfl rfl lc_65 lr_65_0 ?_
    refine e_gI 9 9 rfl rfl lc_1 ?_
    refine e_L 1 (f' := (16, [(0, .ref 65), (1, .int a1)], [.int (1 : Int32), .int (s.1 1 9), .ref 65])) rfl ?_
    refine e_icmp 23 rfl rfl rfl (fun c2 => ?_) (fun c2 => ?_)
    · refine e_L 1 (f' := (24, [(0, .ref 65), (1, .int a1)], [.int a1, .ref 65])) rfl ?_
      exact qE_sub (qsubL [0] rfl (ks := [0, 1]) rfl (by decide))
    · refine e_L 2 (f' := (24, [(0, .ref 65), (1, .int a1)], [.int (1 : Int32), .ref 65])) rfl ?_
      exact qE_sub (qsubL [0] rfl (ks := [0, 1]) rfl (by decide))
set_option maxRecDepth 100000 in
set_option maxHeartbeats 4000000 in
theorem le_X6_need (en : pN) (d : Nat) (a1 : Int32) (s : qS) : qle (if ¬ (s.1 1 9) = a1 then bV (qev en d 114 [.ref 65, .int (2 : Int32)] s) (fun s3 => some (none, s3)) else bV (qev en d 167 [.ref 1] s) (fun s6 => some (none, s6))) (qev en (d + 1) 115 [.ref 65, .int a1] s) := by
  refine e_enter ix_X6_need (Nat.le_of_ble_eq_true rfl) ?_
  show qle _ (qE (qev en d) en none tb_X6_need (0, [(0, .ref 65), (1, .int a1)], []) s)
  refine e_L 1 (f' := (1, [(0, .ref 65), (1, .int a1)], [.ref 65])) rfl ?_
  refine e_gR (q := 1) 6 0 rfl rfl lc_65 lr_65_0 ?_
  refine e_gI 9 9 rfl rfl lc_1 ?_
  refine e_L 1 (f' := (8, [(0, .ref 65), (1, .int a1)], [.int a1, .int (s.1 1 9)])) rfl ?_
  refine e_icmp 21 rfl rfl rfl (fun c1 => ?_) (fun c1 => ?_)
  · refine e_L 2 (f' := (23, [(0, .ref 65), (1, .int a1)], [.int (2 : Int32), .ref 65])) rfl ?_
    refine e_vV 114 rfl rfl ix_X6_blame rfl (q_recvOf lc_65 rfl) (Nat.le_of_ble_eq_true rfl) (fun s3 e4 => ?_)
    exact e_rV rfl rfl
  · refine e_L 1 (f' := (12, [(0, .ref 65), (1, .int a1)], [.ref 65])) rfl ?_
    refine e_gR (q := 1) 6 0 rfl rfl lc_65 lr_65_0 ?_
    refine e_vV 167 rfl rfl ix_X9_advance rfl (q_recvOf lc_1 rfl) (Nat.le_of_ble_eq_true rfl) (fun s6 e7 => ?_)
    refine e_L 1 (f' := (26, [(0, .ref 65), (1, .int a1)], [])) rfl ?_
    exact e_rV rfl rfl
noncomputable def L_X6_skip_16 (en : pN) (d : Nat) (vs0 : Int32) (s : qS) : Option qR := qE (qev en d) en (some .boolean) tb_X6_skip (16, [(0, .ref 65)], [.int vs0]) s
set_option maxRecDepth 100000 in
set_option maxHeartbeats 4000000 in
theorem le_X6_skip_16 (en : pN) (d : Nat) (vs0 : Int32) (s : qS) : qle (if vs0 = (0 : Int32) then gd (vs0 = 0 ∨ vs0 = 1) (some (some (.int vs0), s)) else bV (qev en d 167 [.ref 1] s) (fun s4 => gd (vs0 = 0 ∨ vs0 = 1) (some (some (.int vs0), s4)))) (L_X6_skip_16 en d vs0 s) := by
  show qle _ (qE (qev en d) en (some .boolean) tb_X6_skip (16, [(0, .ref 65)], [.int vs0]) s)
  refine e_L 2 (f' := (18, [(2, .int vs0), (0, .ref 65)], [.int vs0])) rfl ?_
  refine e_ifz 28 rfl rfl rfl (fun c1 => ?_) (fun c1 => ?_)
  · refine e_L 1 (f' := (29, [(2, .int vs0), (0, .ref 65)], [.int vs0])) rfl ?_
    exact qle_gd fun h2 => e_rZ rfl rfl h2
  · refine e_L 1 (f' := (22, [(2, .int vs0), (0, .ref 65)], [.ref 65])) rfl ?_
    refine e_gR (q := 1) 6 0 rfl rfl lc_65 lr_65_0 ?_
    refine e_vV 167 rfl rfl ix_X9_advance rfl (q_recvOf lc_1 rfl) (Nat.le_of_ble_eq_true rfl) (fun s4 e5 => ?_)
    refine e_L 1 (f' := (29, [(2, .int vs0), (0, .ref 65)], [.int vs0])) rfl ?_
    exact qle_gd fun h6 => e_rZ rfl rfl h6
set_option maxRecDepth 100000 in
set_option maxHeartbeats 4000000 in
theorem le_X6_skip (en : pN) (d : Nat) (a1 : Int32) (s : qS) : qle (if ¬ (s.1 1 9) = a1 then L_X6_skip_16 en d (0 : Int32) s else L_X6_skip_16 en d (1 : Int32) s) (qev en (d + 1) 116 [.ref 65, .int a1] s) := by
  refine e_enter ix_X6_skip (Nat.le_of_ble_eq_true rfl) ?_
  show qle _ (qE (qev en d) en (some .boolean) tb_X6_skip (0, [(0, .ref 65), (1, .int a1)], []) s)
  refine e_L 1 (f' := (1, [(0, .ref 65), (1, .int a1)], [.ref 65])) rfl ?_
  refine e_gR (q := 1) 6 0 rfl rfl lc_65 lr_65_0 ?_
  refine e_gI 9 9 rfl rfl lc_1 ?_
  refine e_L 1 (f' := (8, [(0, .ref 65), (1, .int a1)], [.int a1, .int (s.1 1 9)])) rfl ?_
  refine e_icmp 15 rfl rfl rfl (fun c1 => ?_) (fun c1 => ?_)
  · refine e_L 1 (f' := (16, [(0, .ref 65), (1, .int a1)], [.int (0 : Int32)])) rfl ?_
    exact qE_sub (qsubL [0] rfl (ks := [0, 1]) rfl (by decide))
  · refine e_L 2 (f' := (16, [(0, .ref 65), (1, .int a1)], [.int (1 : Int32)])) rfl ?_
    exact qE_sub (qsubL [0] rfl (ks := [0, 1]) rfl (by decide))
noncomputable def L_X6_readProgram_21 (en : pN) (d : Nat) (v1 : Int32) (s : qS) : Option qR := qE (qev en d) en none tb_X6_readProgram (21, [(0, .ref 65), (1, .int v1)], []) s
noncomputable def L_X6_readProgram_100 (en : pN) (d : Nat) (s : qS) : Option qR := qE (qev en d) en none tb_X6_readProgram (100, [(0, .ref 65)], []) s
set_option maxRecDepth 100000 in
set_option maxHeartbeats 4000000 in
theorem le_X6_readProgram_21 (en : pN) (d : Nat) (v1 : Int32) (s : qS) : qle (if (4000 : Int32) ≤ v1 then L_X6_readProgram_100 en d s else if (s.1 1 9) = (0 : Int32) then L_X6_readProgram_100 en d s else bI (qev en d 116 [.ref 65, .int (317 : Int32)] s) (fun w3 s4 => if w3 = (0 : Int32) then bI (qev en d 116 [.ref 65, .int (302 : Int32)] s4) (fun w7 s8 => if w7 = (0 : Int32) then bI (qev en d 116 [.ref 65, .int (319 : Int32)] s8) (fun w11 s12 => if w11 = (0 : Int32) then bV (qev en d 114 [.ref 65, .int (2 : Int32)] s12) (fun s16 => L_X6_readProgram_21 en d (v1 + (1 : Int32)) s16) else bV (qev en d 121 [.ref 65] s12) (fun s19 => L_X6_readProgram_21 en d (v1 + (1 : Int32)) s19)) else bV (qev en d 120 [.ref 65] s8) (fun s22 => L_X6_readProgram_21 en d (v1 + (1 : Int32)) s22)) else bV (qev en d 119 [.ref 65] s4) (fun s25 => L_X6_readProgram_21 en d (v1 + (1 : Int32)) s25))) (L_X6_readProgram_21 en d v1 s) := by
  show qle _ (qE (qev en d) en none tb_X6_readProgram (21, [(0, .ref 65), (1, .int v1)], []) s)
  refine e_L 2 (f' := (25, [(0, .ref 65), (1, .int v1)], [.int (4000 : Int32), .int v1])) rfl ?_
  refine e_icmp 100 rfl rfl rfl (fun c1 => ?_) (fun c1 => ?_)
  · exact qE_sub (qsubL [0] rfl (ks := [0, 1]) rfl (by decide))
  · refine e_L 1 (f' := (29, [(0, .ref 65), (1, .int v1)], [.ref 65])) rfl ?_
    refine e_gR (q := 1) 6 0 rfl rfl lc_65 lr_65_0 ?_
    refine e_gI 9 9 rfl rfl lc_1 ?_
    refine e_ifz 100 rfl rfl rfl (fun c2 => ?_) (fun c2 => ?_)
    · exact qE_sub (qsubL [0] rfl (ks := [0, 1]) rfl (by decide))
    · refine e_L 2 (f' := (42, [(0, .ref 65), (1, .int v1)], [.int (317 : Int32), .ref 65])) rfl ?_
      refine e_vI 116 rfl rfl ix_X6_skip rfl (q_recvOf lc_65 rfl) (Nat.le_of_ble_eq_true rfl) (fun w3 s4 e5 => ?_)
      refine e_ifz 55 rfl rfl rfl (fun c6 => ?_) (fun c6 => ?_)
      · refine e_L 2 (f' := (59, [(0, .ref 65), (1, .int v1)], [.int (302 : Int32), .ref 65])) rfl ?_
        refine e_vI 116 rfl rfl ix_X6_skip rfl (q_recvOf lc_65 rfl) (Nat.le_of_ble_eq_true rfl) (fun w7 s8 e9 => ?_)
        refine e_ifz 72 rfl rfl rfl (fun c10 => ?_) (fun c10 => ?_)
        · refine e_L 2 (f' := (76, [(0, .ref 65), (1, .int v1)], [.int (319 : Int32), .ref 65])) rfl ?_
          refine e_vI 116 rfl rfl ix_X6_skip rfl (q_recvOf lc_65 rfl) (Nat.le_of_ble_eq_true rfl) (fun w11 s12 e13 => ?_)
          refine e_ifz 89 rfl rfl rfl (fun c14 => ?_) (fun c14 => ?_)
          · refine e_L 2 (f' := (91, [(0, .ref 65), (1, .int v1)], [.int (2 : Int32), .ref 65])) rfl ?_
            refine e_vV 114 rfl rfl ix_X6_blame rfl (q_recvOf lc_65 rfl) (Nat.le_of_ble_eq_true rfl) (fun s16 e17 => ?_)
            refine e_L 2 (f' := (21, [(1, .int (v1 + (1 : Int32))), (0, .ref 65)], [])) rfl ?_
            exact qE_sub (qsubL [1, 0] rfl (ks := [1, 0]) rfl (by decide))
          · refine e_L 1 (f' := (83, [(0, .ref 65), (1, .int v1)], [.ref 65])) rfl ?_
            refine e_vV 121 rfl rfl ix_X6_readThread rfl (q_recvOf lc_65 rfl) (Nat.le_of_ble_eq_true rfl) (fun s19 e20 => ?_)
            refine e_L 3 (f' := (21, [(1, .int (v1 + (1 : Int32))), (0, .ref 65)], [])) rfl ?_
            exact qE_sub (qsubL [1, 0] rfl (ks := [1, 0]) rfl (by decide))
        · refine e_L 1 (f' := (66, [(0, .ref 65), (1, .int v1)], [.ref 65])) rfl ?_
          refine e_vV 120 rfl rfl ix_X6_readLock rfl (q_recvOf lc_65 rfl) (Nat.le_of_ble_eq_true rfl) (fun s22 e23 => ?_)
          refine e_L 3 (f' := (21, [(1, .int (v1 + (1 : Int32))), (0, .ref 65)], [])) rfl ?_
          exact qE_sub (qsubL [1, 0] rfl (ks := [1, 0]) rfl (by decide))
      · refine e_L 1 (f' := (49, [(0, .ref 65), (1, .int v1)], [.ref 65])) rfl ?_
        refine e_vV 119 rfl rfl ix_X6_readCell rfl (q_recvOf lc_65 rfl) (Nat.le_of_ble_eq_true rfl) (fun s25 e26 => ?_)
        refine e_L 3 (f' := (21, [(1, .int (v1 + (1 : Int32))), (0, .ref 65)], [])) rfl ?_
        exact qE_sub (qsubL [1, 0] rfl (ks := [1, 0]) rfl (by decide))
set_option maxRecDepth 100000 in
set_option maxHeartbeats 4000000 in
theorem le_X6_readProgram_100 (en : pN) (d : Nat) (s : qS) : qle (nm (uI s 11 13 (s.1 65 13)) (fun s1 => bV (qev en d 132 [.ref 65] s1) (fun s3 => if ¬ (s3.1 65 11) = (0 : Int32) then some (none, s3) else bV (qev en d 101 [.ref 11] s3) (fun s7 => some (none, s7))))) (L_X6_readProgram_100 en d s) := by
  show qle _ (qE (qev en d) en none tb_X6_readProgram (100, [(0, .ref 65)], []) s)
  refine e_L 1 (f' := (101, [(0, .ref 65)], [.ref 65])) rfl ?_
  refine e_gR (q := 11) 6 1 rfl rfl lc_65 lr_65_1 ?_
  refine e_L 1 (f' := (105, [(0, .ref 65)], [.ref 65, .ref 11])) rfl ?_
  refine e_gI 6 13 rfl rfl lc_65 ?_
  refine e_pI 5 13 rfl rfl lc_11 rfl ?_
  refine e_nS fun s1 => ?_
  refine e_L 1 (f' := (112, [(0, .ref 65)], [.ref 65])) rfl ?_
  refine e_vV 132 rfl rfl ix_X6_aimThreads rfl (q_recvOf lc_65 rfl) (Nat.le_of_ble_eq_true rfl) (fun s3 e4 => ?_)
  refine e_L 1 (f' := (116, [(0, .ref 65)], [.ref 65])) rfl ?_
  refine e_gI 6 11 rfl rfl lc_65 ?_
  refine e_ifz 129 rfl rfl rfl (fun c5 => ?_) (fun c5 => ?_)
  · exact e_rV rfl rfl
  · refine e_L 1 (f' := (123, [(0, .ref 65)], [.ref 65])) rfl ?_
    refine e_gR (q := 11) 6 1 rfl rfl lc_65 lr_65_1 ?_
    refine e_vV 101 rfl rfl ix_X5_layWays rfl (q_recvOf lc_11 rfl) (Nat.le_of_ble_eq_true rfl) (fun s7 e8 => ?_)
    exact e_rV rfl rfl
set_option maxRecDepth 100000 in
set_option maxHeartbeats 4000000 in
theorem le_X6_readProgram (en : pN) (d : Nat) (s : qS) : qle (bV (qev en d 81 [.ref 11] s) (fun s2 => bV (qev en d 113 [.ref 65, .ref 7, .int (0 : Int32)] s2) (fun s5 => L_X6_readProgram_21 en d (0 : Int32) s5))) (qev en (d + 1) 117 [.ref 65] s) := by
  refine e_enter ix_X6_readProgram (Nat.le_of_ble_eq_true rfl) ?_
  show qle _ (qE (qev en d) en none tb_X6_readProgram (0, [(0, .ref 65)], []) s)
  refine e_L 1 (f' := (1, [(0, .ref 65)], [.ref 65])) rfl ?_
  refine e_gR (q := 11) 6 1 rfl rfl lc_65 lr_65_1 ?_
  refine e_vV 81 rfl rfl ix_X5_clear rfl (q_recvOf lc_11 rfl) (Nat.le_of_ble_eq_true rfl) (fun s2 e3 => ?_)
  refine e_L 2 (f' := (9, [(0, .ref 65)], [.ref 65, .ref 65])) rfl ?_
  refine e_gR (q := 11) 6 1 rfl rfl lc_65 lr_65_1 ?_
  refine e_gR (q := 7) 5 0 rfl rfl lc_11 lr_11_0 ?_
  refine e_L 1 (f' := (16, [(0, .ref 65)], [.int (0 : Int32), .ref 7, .ref 65])) rfl ?_
  refine e_vV 113 rfl rfl ix_X6_open rfl (q_recvOf lc_65 rfl) (Nat.le_of_ble_eq_true rfl) (fun s5 e6 => ?_)
  refine e_L 2 (f' := (21, [(1, .int (0 : Int32)), (0, .ref 65)], [])) rfl ?_
  exact qE_sub (qsubL [1, 0] rfl (ks := [1, 0]) rfl (by decide))
noncomputable def L_X6_isNewName_54 (en : pN) (d : Nat) (s : qS) : Option qR := qE (qev en d) en (some .boolean) tb_X6_isNewName (54, [(0, .ref 65)], []) s
set_option maxRecDepth 100000 in
set_option maxHeartbeats 4000000 in
theorem le_X6_isNewName_54 (en : pN) (d : Nat) (s : qS) : qle (if ¬ (s.1 1 9) = (2 : Int32) then some (some (.int (0 : Int32)), s) else some (some (.int (1 : Int32)), s)) (L_X6_isNewName_54 en d s) := by
  show qle _ (qE (qev en d) en (some .boolean) tb_X6_isNewName (54, [(0, .ref 65)], []) s)
  refine e_L 1 (f' := (55, [(0, .ref 65)], [.ref 65])) rfl ?_
  refine e_gR (q := 1) 6 0 rfl rfl lc_65 lr_65_0 ?_
  refine e_gI 9 9 rfl rfl lc_1 ?_
  refine e_L 1 (f' := (62, [(0, .ref 65)], [.int (2 : Int32), .int (s.1 1 9)])) rfl ?_
  refine e_icmp 69 rfl rfl rfl (fun c1 => ?_) (fun c1 => ?_)
  · refine e_L 1 (f' := (70, [(0, .ref 65)], [.int (0 : Int32)])) rfl ?_
    exact e_rZ rfl rfl (by decide)
  · refine e_L 2 (f' := (70, [(0, .ref 65)], [.int (1 : Int32)])) rfl ?_
    exact e_rZ rfl rfl (by decide)
set_option maxRecDepth 100000 in
set_option maxHeartbeats 4000000 in
theorem le_X6_isNewName (en : pN) (d : Nat) (a1 : Int32) (a2 : Int32) (s : qS) : qle (if (s.1 1 9) = (2 : Int32) then bI (qev en d 89 [.ref 11, .long (s.2.1 1 11)] s) (fun w2 s3 => if w2 = (0 : Int32) then if a1 < a2 then L_X6_isNewName_54 en d s3 else bV (qev en d 114 [.ref 65, .int (4 : Int32)] s3) (fun s8 => L_X6_isNewName_54 en d s8) else bV (qev en d 114 [.ref 65, .int (3 : Int32)] s3) (fun s11 => L_X6_isNewName_54 en d s11)) else bV (qev en d 114 [.ref 65, .int (2 : Int32)] s) (fun s14 => L_X6_isNewName_54 en d s14)) (qev en (d + 1) 118 [.ref 65, .int a1, .int a2] s) := by
  refine e_enter ix_X6_isNewName (Nat.le_of_ble_eq_true rfl) ?_
  show qle _ (qE (qev en d) en (some .boolean) tb_X6_isNewName (0, [(0, .ref 65), (1, .int a1), (2, .int a2)], []) s)
  refine e_L 1 (f' := (1, [(0, .ref 65), (1, .int a1), (2, .int a2)], [.ref 65])) rfl ?_
  refine e_gR (q := 1) 6 0 rfl rfl lc_65 lr_65_0 ?_
  refine e_gI 9 9 rfl rfl lc_1 ?_
  refine e_L 1 (f' := (8, [(0, .ref 65), (1, .int a1), (2, .int a2)], [.int (2 : Int32), .int (s.1 1 9)])) rfl ?_
  refine e_icmp 19 rfl rfl rfl (fun c1 => ?_) (fun c1 => ?_)
  · refine e_L 1 (f' := (20, [(0, .ref 65), (1, .int a1), (2, .int a2)], [.ref 65])) rfl ?_
    refine e_gR (q := 11) 6 1 rfl rfl lc_65 lr_65_1 ?_
    refine e_L 1 (f' := (24, [(0, .ref 65), (1, .int a1), (2, .int a2)], [.ref 65, .ref 11])) rfl ?_
    refine e_gR (q := 1) 6 0 rfl rfl lc_65 lr_65_0 ?_
    refine e_gJ 9 11 rfl rfl lc_1 ?_
    refine e_vI 89 rfl rfl ix_X5_isTold rfl (q_recvOf lc_11 rfl) (Nat.le_of_ble_eq_true rfl) (fun w2 s3 e4 => ?_)
    refine e_ifz 44 rfl rfl rfl (fun c5 => ?_) (fun c5 => ?_)
    · refine e_L 2 (f' := (46, [(0, .ref 65), (1, .int a1), (2, .int a2)], [.int a2, .int a1])) rfl ?_
      refine e_icmp 54 rfl rfl rfl (fun c6 => ?_) (fun c6 => ?_)
      · exact qE_sub (qsubL [0] rfl (ks := [0, 1, 2]) rfl (by decide))
      · refine e_L 2 (f' := (51, [(0, .ref 65), (1, .int a1), (2, .int a2)], [.int (4 : Int32), .ref 65])) rfl ?_
        refine e_vV 114 rfl rfl ix_X6_blame rfl (q_recvOf lc_65 rfl) (Nat.le_of_ble_eq_true rfl) (fun s8 e9 => ?_)
        exact qE_sub (qsubL [0] rfl (ks := [0, 1, 2]) rfl (by decide))
    · refine e_L 2 (f' := (38, [(0, .ref 65), (1, .int a1), (2, .int a2)], [.int (3 : Int32), .ref 65])) rfl ?_
      refine e_vV 114 rfl rfl ix_X6_blame rfl (q_recvOf lc_65 rfl) (Nat.le_of_ble_eq_true rfl) (fun s11 e12 => ?_)
      refine e_L 1 (f' := (54, [(0, .ref 65), (1, .int a1), (2, .int a2)], [])) rfl ?_
      exact qE_sub (qsubL [0] rfl (ks := [0, 1, 2]) rfl (by decide))
  · refine e_L 2 (f' := (13, [(0, .ref 65), (1, .int a1), (2, .int a2)], [.int (2 : Int32), .ref 65])) rfl ?_
    refine e_vV 114 rfl rfl ix_X6_blame rfl (q_recvOf lc_65 rfl) (Nat.le_of_ble_eq_true rfl) (fun s14 e15 => ?_)
    refine e_L 1 (f' := (54, [(0, .ref 65), (1, .int a1), (2, .int a2)], [])) rfl ?_
    exact qE_sub (qsubL [0] rfl (ks := [0, 1, 2]) rfl (by decide))
noncomputable def L_X6_readCell_64 (en : pN) (d : Nat) (v1 : Int32) (s : qS) : Option qR := qE (qev en d) en none tb_X6_readCell (64, [(0, .ref 65), (1, .int v1)], []) s
noncomputable def L_X6_readCell_112 (en : pN) (d : Nat) (vs1 : Int32) (vs2 : Int32) (s : qS) : Option qR := qE (qev en d) en none tb_X6_readCell (112, [(0, .ref 65)], [.int vs2, .int vs1, .ref 15]) s
noncomputable def L_X6_readCell_113 (en : pN) (d : Nat) (s : qS) : Option qR := qE (qev en d) en none tb_X6_readCell (113, [(0, .ref 65)], []) s
set_option maxRecDepth 100000 in
set_option maxHeartbeats 4000000 in
theorem le_X6_readCell_64 (en : pN) (d : Nat) (v1 : Int32) (s : qS) : qle (bI (qev en d 116 [.ref 65, .int (61 : Int32)] s) (fun w1 s2 => if w1 = (0 : Int32) then L_X6_readCell_113 en d s2 else bI (qev en d 116 [.ref 65, .int (45 : Int32)] s2) (fun w5 s6 => bV (qev en d 115 [.ref 65, .int (3 : Int32)] s6) (fun s9 => if w5 = (0 : Int32) then L_X6_readCell_112 en d v1 (s6.2.1 1 11).toInt32 s9 else L_X6_readCell_112 en d v1 (-(s6.2.1 1 11).toInt32) s9)))) (L_X6_readCell_64 en d v1 s) := by
  show qle _ (qE (qev en d) en none tb_X6_readCell (64, [(0, .ref 65), (1, .int v1)], []) s)
  refine e_L 2 (f' := (67, [(0, .ref 65), (1, .int v1)], [.int (61 : Int32), .ref 65])) rfl ?_
  refine e_vI 116 rfl rfl ix_X6_skip rfl (q_recvOf lc_65 rfl) (Nat.le_of_ble_eq_true rfl) (fun w1 s2 e3 => ?_)
  refine e_ifz 113 rfl rfl rfl (fun c4 => ?_) (fun c4 => ?_)
  · exact qE_sub (qsubL [0] rfl (ks := [0, 1]) rfl (by decide))
  · refine e_L 2 (f' := (76, [(0, .ref 65), (1, .int v1)], [.int (45 : Int32), .ref 65])) rfl ?_
    refine e_vI 116 rfl rfl ix_X6_skip rfl (q_recvOf lc_65 rfl) (Nat.le_of_ble_eq_true rfl) (fun w5 s6 e7 => ?_)
    refine e_L 2 (f' := (81, [(2, .int w5), (0, .ref 65), (1, .int v1)], [.ref 65])) rfl ?_
    refine e_gR (q := 1) 6 0 rfl rfl lc_65 lr_65_0 ?_
    refine e_gJ 9 11 rfl rfl lc_1 ?_
    refine e_L 4 (f' := (91, [(3, .int (s6.2.1 1 11).toInt32), (2, .int w5), (0, .ref 65), (1, .int v1)], [.int (3 : Int32), .ref 65])) rfl ?_
    refine e_vV 115 rfl rfl ix_X6_need rfl (q_recvOf lc_65 rfl) (Nat.le_of_ble_eq_true rfl) (fun s9 e10 => ?_)
    refine e_L 1 (f' := (95, [(3, .int (s6.2.1 1 11).toInt32), (2, .int w5), (0, .ref 65), (1, .int v1)], [.ref 65])) rfl ?_
    refine e_gR (q := 11) 6 1 rfl rfl lc_65 lr_65_1 ?_
    refine e_gR (q := 15) 5 4 rfl rfl lc_11 lr_11_4 ?_
    refine e_L 2 (f' := (103, [(3, .int (s6.2.1 1 11).toInt32), (2, .int w5), (0, .ref 65), (1, .int v1)], [.int w5, .int v1, .ref 15])) rfl ?_
    refine e_ifz 111 rfl rfl rfl (fun c11 => ?_) (fun c11 => ?_)
    · refine e_L 1 (f' := (112, [(3, .int (s6.2.1 1 11).toInt32), (2, .int w5), (0, .ref 65), (1, .int v1)], [.int (s6.2.1 1 11).toInt32, .int v1, .ref 15])) rfl ?_
      exact qE_sub (qsubL [2] rfl (ks := [3, 2, 0, 1]) rfl (by decide))
    · refine e_L 3 (f' := (112, [(3, .int (s6.2.1 1 11).toInt32), (2, .int w5), (0, .ref 65), (1, .int v1)], [.int (-(s6.2.1 1 11).toInt32), .int v1, .ref 15])) rfl ?_
      exact qE_sub (qsubL [2] rfl (ks := [3, 2, 0, 1]) rfl (by decide))
set_option maxRecDepth 100000 in
set_option maxHeartbeats 4000000 in
theorem le_X6_readCell_112 (en : pN) (d : Nat) (vs1 : Int32) (vs2 : Int32) (s : qS) : qle (gd (p_inB vs1 8 = true) (nm (uI s 15 (vs1.toNatClampNeg) vs2) (fun s2 => L_X6_readCell_113 en d s2))) (L_X6_readCell_112 en d vs1 vs2 s) := by
  show qle _ (qE (qev en d) en none tb_X6_readCell (112, [(0, .ref 65)], [.int vs2, .int vs1, .ref 15]) s)
  refine qle_gd fun h1 => ?_
  refine e_ias (n := 8) (k := vs1.toNatClampNeg) rfl lc_15 ln_15 h1 rfl ?_
  refine e_nS fun s2 => ?_
  exact qE_sub (qsubL [0] rfl (ks := [0]) rfl (by decide))
set_option maxRecDepth 100000 in
set_option maxHeartbeats 4000000 in
theorem le_X6_readCell_113 (en : pN) (d : Nat) (s : qS) : qle (bV (qev en d 115 [.ref 65, .int (59 : Int32)] s) (fun s2 => some (none, s2))) (L_X6_readCell_113 en d s) := by
  show qle _ (qE (qev en d) en none tb_X6_readCell (113, [(0, .ref 65)], []) s)
  refine e_L 2 (f' := (116, [(0, .ref 65)], [.int (59 : Int32), .ref 65])) rfl ?_
  refine e_vV 115 rfl rfl ix_X6_need rfl (q_recvOf lc_65 rfl) (Nat.le_of_ble_eq_true rfl) (fun s2 e3 => ?_)
  exact e_rV rfl rfl
set_option maxRecDepth 100000 in
set_option maxHeartbeats 4000000 in
theorem le_X6_readCell (en : pN) (d : Nat) (s : qS) : qle (bI (qev en d 118 [.ref 65, .int (s.1 11 9), .int (8 : Int32)] s) (fun w1 s2 => if ¬ w1 = (0 : Int32) then bI (qev en d 95 [.ref 11, .long (s2.2.1 1 11)] s2) (fun w5 s6 => bV (qev en d 167 [.ref 1] s6) (fun s9 => bI (qev en d 116 [.ref 65, .int (318 : Int32)] s9) (fun w11 s12 => if w11 = (0 : Int32) then L_X6_readCell_64 en d w5 s12 else nm (uI s12 11 7 ((s12.1 11 7) ||| ((1 : Int32) <<< (w5 &&& 31)))) (fun s15 => L_X6_readCell_64 en d w5 s15)))) else some (none, s2))) (qev en (d + 1) 119 [.ref 65] s) := by
  refine e_enter ix_X6_readCell (Nat.le_of_ble_eq_true rfl) ?_
  show qle _ (qE (qev en d) en none tb_X6_readCell (0, [(0, .ref 65)], []) s)
  refine e_L 2 (f' := (2, [(0, .ref 65)], [.ref 65, .ref 65])) rfl ?_
  refine e_gR (q := 11) 6 1 rfl rfl lc_65 lr_65_1 ?_
  refine e_gI 5 9 rfl rfl lc_11 ?_
  refine e_L 1 (f' := (10, [(0, .ref 65)], [.int (8 : Int32), .int (s.1 11 9), .ref 65])) rfl ?_
  refine e_vI 118 rfl rfl ix_X6_isNewName rfl (q_recvOf lc_65 rfl) (Nat.le_of_ble_eq_true rfl) (fun w1 s2 e3 => ?_)
  refine e_ifz 17 rfl rfl rfl (fun c4 => ?_) (fun c4 => ?_)
  · refine e_L 1 (f' := (18, [(0, .ref 65)], [.ref 65])) rfl ?_
    refine e_gR (q := 11) 6 1 rfl rfl lc_65 lr_65_1 ?_
    refine e_L 1 (f' := (22, [(0, .ref 65)], [.ref 65, .ref 11])) rfl ?_
    refine e_gR (q := 1) 6 0 rfl rfl lc_65 lr_65_0 ?_
    refine e_gJ 9 11 rfl rfl lc_1 ?_
    refine e_vI 95 rfl rfl ix_X5_addCell rfl (q_recvOf lc_11 rfl) (Nat.le_of_ble_eq_true rfl) (fun w5 s6 e7 => ?_)
    refine e_L 2 (f' := (33, [(1, .int w5), (0, .ref 65)], [.ref 65])) rfl ?_
    refine e_gR (q := 1) 6 0 rfl rfl lc_65 lr_65_0 ?_
    refine e_vV 167 rfl rfl ix_X9_advance rfl (q_recvOf lc_1 rfl) (Nat.le_of_ble_eq_true rfl) (fun s9 e10 => ?_)
    refine e_L 2 (f' := (43, [(1, .int w5), (0, .ref 65)], [.int (318 : Int32), .ref 65])) rfl ?_
    refine e_vI 116 rfl rfl ix_X6_skip rfl (q_recvOf lc_65 rfl) (Nat.le_of_ble_eq_true rfl) (fun w11 s12 e13 => ?_)
    refine e_ifz 64 rfl rfl rfl (fun c14 => ?_) (fun c14 => ?_)
    · exact qE_sub (qsubL [1, 0] rfl (ks := [1, 0]) rfl (by decide))
    · refine e_L 1 (f' := (50, [(1, .int w5), (0, .ref 65)], [.ref 65])) rfl ?_
      refine e_gR (q := 11) 6 1 rfl rfl lc_65 lr_65_1 ?_
      refine e_L 1 (f' := (54, [(1, .int w5), (0, .ref 65)], [.ref 11, .ref 11])) rfl ?_
      refine e_gI 5 7 rfl rfl lc_11 ?_
      refine e_L 4 (f' := (61, [(1, .int w5), (0, .ref 65)], [.int ((s12.1 11 7) ||| ((1 : Int32) <<< (w5 &&& 31))), .ref 11])) rfl ?_
      refine e_pI 5 7 rfl rfl lc_11 rfl ?_
      refine e_nS fun s15 => ?_
      exact qE_sub (qsubL [1, 0] rfl (ks := [1, 0]) rfl (by decide))
  · exact e_rV rfl rfl
set_option maxRecDepth 100000 in
set_option maxHeartbeats 4000000 in
theorem le_X6_readLock (en : pN) (d : Nat) (s : qS) : qle (bI (qev en d 118 [.ref 65, .int (s.1 11 10), .int (4 : Int32)] s) (fun w1 s2 => if w1 = (0 : Int32) then some (none, s2) else bV (qev en d 96 [.ref 11, .long (s2.2.1 1 11)] s2) (fun s6 => bV (qev en d 167 [.ref 1] s6) (fun s9 => bV (qev en d 115 [.ref 65, .int (59 : Int32)] s9) (fun s12 => some (none, s12)))))) (qev en (d + 1) 120 [.ref 65] s) := by
  refine e_enter ix_X6_readLock (Nat.le_of_ble_eq_true rfl) ?_
  show qle _ (qE (qev en d) en none tb_X6_readLock (0, [(0, .ref 65)], []) s)
  refine e_L 2 (f' := (2, [(0, .ref 65)], [.ref 65, .ref 65])) rfl ?_
  refine e_gR (q := 11) 6 1 rfl rfl lc_65 lr_65_1 ?_
  refine e_gI 5 10 rfl rfl lc_11 ?_
  refine e_L 1 (f' := (9, [(0, .ref 65)], [.int (4 : Int32), .int (s.1 11 10), .ref 65])) rfl ?_
  refine e_vI 118 rfl rfl ix_X6_isNewName rfl (q_recvOf lc_65 rfl) (Nat.le_of_ble_eq_true rfl) (fun w1 s2 e3 => ?_)
  refine e_ifz 42 rfl rfl rfl (fun c4 => ?_) (fun c4 => ?_)
  · exact e_rV rfl rfl
  · refine e_L 1 (f' := (16, [(0, .ref 65)], [.ref 65])) rfl ?_
    refine e_gR (q := 11) 6 1 rfl rfl lc_65 lr_65_1 ?_
    refine e_L 1 (f' := (20, [(0, .ref 65)], [.ref 65, .ref 11])) rfl ?_
    refine e_gR (q := 1) 6 0 rfl rfl lc_65 lr_65_0 ?_
    refine e_gJ 9 11 rfl rfl lc_1 ?_
    refine e_vV 96 rfl rfl ix_X5_addLock rfl (q_recvOf lc_11 rfl) (Nat.le_of_ble_eq_true rfl) (fun s6 e7 => ?_)
    refine e_L 1 (f' := (30, [(0, .ref 65)], [.ref 65])) rfl ?_
    refine e_gR (q := 1) 6 0 rfl rfl lc_65 lr_65_0 ?_
    refine e_vV 167 rfl rfl ix_X9_advance rfl (q_recvOf lc_1 rfl) (Nat.le_of_ble_eq_true rfl) (fun s9 e10 => ?_)
    refine e_L 2 (f' := (39, [(0, .ref 65)], [.int (59 : Int32), .ref 65])) rfl ?_
    refine e_vV 115 rfl rfl ix_X6_need rfl (q_recvOf lc_65 rfl) (Nat.le_of_ble_eq_true rfl) (fun s12 e13 => ?_)
    exact e_rV rfl rfl
noncomputable def L_X6_readThread_68 (en : pN) (d : Nat) (s : qS) : Option qR := qE (qev en d) en none tb_X6_readThread (68, [(0, .ref 65)], []) s
set_option maxRecDepth 100000 in
set_option maxHeartbeats 4000000 in
theorem le_X6_readThread_68 (en : pN) (d : Nat) (s : qS) : qle (bV (qev en d 122 [.ref 65, .int (1 : Int32), .int (-1 : Int32), .int (0 : Int32)] s) (fun s2 => some (none, s2))) (L_X6_readThread_68 en d s) := by
  show qle _ (qE (qev en d) en none tb_X6_readThread (68, [(0, .ref 65)], []) s)
  refine e_L 4 (f' := (72, [(0, .ref 65)], [.int (0 : Int32), .int (-1 : Int32), .int (1 : Int32), .ref 65])) rfl ?_
  refine e_vV 122 rfl rfl ix_X6_readBlock rfl (q_recvOf lc_65 rfl) (Nat.le_of_ble_eq_true rfl) (fun s2 e3 => ?_)
  exact e_rV rfl rfl
set_option maxRecDepth 100000 in
set_option maxHeartbeats 4000000 in
theorem le_X6_readThread (en : pN) (d : Nat) (s : qS) : qle (bI (qev en d 118 [.ref 65, .int (s.1 11 11), .int (4 : Int32)] s) (fun w1 s2 => if w1 = (0 : Int32) then some (none, s2) else bI (qev en d 97 [.ref 11, .long (s2.2.1 1 11)] s2) (fun w5 s6 => nm (uI s6 65 14 w5) (fun s8 => bV (qev en d 167 [.ref 1] s8) (fun s10 => bI (qev en d 116 [.ref 65, .int (320 : Int32)] s10) (fun w12 s13 => if w12 = (0 : Int32) then L_X6_readThread_68 en d s13 else nm (uI s13 11 8 ((s13.1 11 8) ||| ((1 : Int32) <<< ((s13.1 65 14) &&& 31)))) (fun s16 => L_X6_readThread_68 en d s16))))))) (qev en (d + 1) 121 [.ref 65] s) := by
  refine e_enter ix_X6_readThread (Nat.le_of_ble_eq_true rfl) ?_
  show qle _ (qE (qev en d) en none tb_X6_readThread (0, [(0, .ref 65)], []) s)
  refine e_L 2 (f' := (2, [(0, .ref 65)], [.ref 65, .ref 65])) rfl ?_
  refine e_gR (q := 11) 6 1 rfl rfl lc_65 lr_65_1 ?_
  refine e_gI 5 11 rfl rfl lc_11 ?_
  refine e_L 1 (f' := (9, [(0, .ref 65)], [.int (4 : Int32), .int (s.1 11 11), .ref 65])) rfl ?_
  refine e_vI 118 rfl rfl ix_X6_isNewName rfl (q_recvOf lc_65 rfl) (Nat.le_of_ble_eq_true rfl) (fun w1 s2 e3 => ?_)
  refine e_ifz 75 rfl rfl rfl (fun c4 => ?_) (fun c4 => ?_)
  · exact e_rV rfl rfl
  · refine e_L 2 (f' := (17, [(0, .ref 65)], [.ref 65, .ref 65])) rfl ?_
    refine e_gR (q := 11) 6 1 rfl rfl lc_65 lr_65_1 ?_
    refine e_L 1 (f' := (21, [(0, .ref 65)], [.ref 65, .ref 11, .ref 65])) rfl ?_
    refine e_gR (q := 1) 6 0 rfl rfl lc_65 lr_65_0 ?_
    refine e_gJ 9 11 rfl rfl lc_1 ?_
    refine e_vI 97 rfl rfl ix_X5_addThread rfl (q_recvOf lc_11 rfl) (Nat.le_of_ble_eq_true rfl) (fun w5 s6 e7 => ?_)
    refine e_pI 6 14 rfl rfl lc_65 rfl ?_
    refine e_nS fun s8 => ?_
    refine e_L 1 (f' := (34, [(0, .ref 65)], [.ref 65])) rfl ?_
    refine e_gR (q := 1) 6 0 rfl rfl lc_65 lr_65_0 ?_
    refine e_vV 167 rfl rfl ix_X9_advance rfl (q_recvOf lc_1 rfl) (Nat.le_of_ble_eq_true rfl) (fun s10 e11 => ?_)
    refine e_L 2 (f' := (44, [(0, .ref 65)], [.int (320 : Int32), .ref 65])) rfl ?_
    refine e_vI 116 rfl rfl ix_X6_skip rfl (q_recvOf lc_65 rfl) (Nat.le_of_ble_eq_true rfl) (fun w12 s13 e14 => ?_)
    refine e_ifz 68 rfl rfl rfl (fun c15 => ?_) (fun c15 => ?_)
    · exact qE_sub (qsubL [0] rfl (ks := [0]) rfl (by decide))
    · refine e_L 1 (f' := (51, [(0, .ref 65)], [.ref 65])) rfl ?_
      refine e_gR (q := 11) 6 1 rfl rfl lc_65 lr_65_1 ?_
      refine e_L 1 (f' := (55, [(0, .ref 65)], [.ref 11, .ref 11])) rfl ?_
      refine e_gI 5 8 rfl rfl lc_11 ?_
      refine e_L 2 (f' := (60, [(0, .ref 65)], [.ref 65, .int (1 : Int32), .int (s13.1 11 8), .ref 11])) rfl ?_
      refine e_gI 6 14 rfl rfl lc_65 ?_
      refine e_L 2 (f' := (65, [(0, .ref 65)], [.int ((s13.1 11 8) ||| ((1 : Int32) <<< ((s13.1 65 14) &&& 31))), .ref 11])) rfl ?_
      refine e_pI 5 8 rfl rfl lc_11 rfl ?_
      refine e_nS fun s16 => ?_
      exact qE_sub (qsubL [0] rfl (ks := [0]) rfl (by decide))
noncomputable def L_X6_readBlock_23 (en : pN) (d : Nat) (v1 : Int32) (v2 : Int32) (v3 : Int32) (s : qS) : Option qR := qE (qev en d) en none tb_X6_readBlock (23, [(0, .ref 65), (1, .int v1), (2, .int v2), (3, .int v3)], []) s
noncomputable def L_X6_readBlock_35 (en : pN) (d : Nat) (v1 : Int32) (v2 : Int32) (v3 : Int32) (v4 : Int32) (v5 : Int32) (s : qS) : Option qR := qE (qev en d) en none tb_X6_readBlock (35, [(0, .ref 65), (1, .int v1), (2, .int v2), (3, .int v3), (4, .int v4), (5, .int v5)], []) s
noncomputable def L_X6_readBlock_108 (en : pN) (d : Nat) (s : qS) : Option qR := qE (qev en d) en none tb_X6_readBlock (108, [(0, .ref 65)], []) s
set_option maxRecDepth 100000 in
set_option maxHeartbeats 4000000 in
theorem le_X6_readBlock_23 (en : pN) (d : Nat) (v1 : Int32) (v2 : Int32) (v3 : Int32) (s : qS) : qle (bV (qev en d 115 [.ref 65, .int (123 : Int32)] s) (fun s2 => L_X6_readBlock_35 en d v1 v2 v3 (-1 : Int32) (0 : Int32) s2)) (L_X6_readBlock_23 en d v1 v2 v3 s) := by
  show qle _ (qE (qev en d) en none tb_X6_readBlock (23, [(0, .ref 65), (1, .int v1), (2, .int v2), (3, .int v3)], []) s)
  refine e_L 2 (f' := (26, [(0, .ref 65), (1, .int v1), (2, .int v2), (3, .int v3)], [.int (123 : Int32), .ref 65])) rfl ?_
  refine e_vV 115 rfl rfl ix_X6_need rfl (q_recvOf lc_65 rfl) (Nat.le_of_ble_eq_true rfl) (fun s2 e3 => ?_)
  refine e_L 4 (f' := (35, [(5, .int (0 : Int32)), (4, .int (-1 : Int32)), (0, .ref 65), (1, .int v1), (2, .int v2), (3, .int v3)], [])) rfl ?_
  exact qE_sub (qsubL [2, 3, 4, 5, 1, 0] rfl (ks := [5, 4, 0, 1, 2, 3]) rfl (by decide))
set_option maxRecDepth 100000 in
set_option maxHeartbeats 4000000 in
theorem le_X6_readBlock_35 (en : pN) (d : Nat) (v1 : Int32) (v2 : Int32) (v3 : Int32) (v4 : Int32) (v5 : Int32) (s : qS) : qle (if (100 : Int32) < v5 then L_X6_readBlock_108 en d s else if (s.1 1 9) = (125 : Int32) then L_X6_readBlock_108 en d s else bI (qev en d 123 [.ref 65] s) (fun w3 s4 => if ¬ w3 = (0 : Int32) then bI (qev en d 99 [.ref 11, .int (s4.1 65 14), .int v2, .int v3, .int (v1 - (1 : Int32))] s4) (fun w7 s8 => bV (qev en d 100 [.ref 11, .int v4, .int w7] s8) (fun s11 => bV (qev en d 124 [.ref 65, .int w7, .int v1] s11) (fun s14 => L_X6_readBlock_35 en d v1 v2 v3 w7 (v5 + (1 : Int32)) s14))) else some (none, s4))) (L_X6_readBlock_35 en d v1 v2 v3 v4 v5 s) := by
  show qle _ (qE (qev en d) en none tb_X6_readBlock (35, [(0, .ref 65), (1, .int v1), (2, .int v2), (3, .int v3), (4, .int v4), (5, .int v5)], []) s)
  refine e_L 2 (f' := (39, [(0, .ref 65), (1, .int v1), (2, .int v2), (3, .int v3), (4, .int v4), (5, .int v5)], [.int (100 : Int32), .int v5])) rfl ?_
  refine e_icmp 108 rfl rfl rfl (fun c1 => ?_) (fun c1 => ?_)
  · exact qE_sub (qsubL [0] rfl (ks := [0, 1, 2, 3, 4, 5]) rfl (by decide))
  · refine e_L 1 (f' := (43, [(0, .ref 65), (1, .int v1), (2, .int v2), (3, .int v3), (4, .int v4), (5, .int v5)], [.ref 65])) rfl ?_
    refine e_gR (q := 1) 6 0 rfl rfl lc_65 lr_65_0 ?_
    refine e_gI 9 9 rfl rfl lc_1 ?_
    refine e_L 1 (f' := (51, [(0, .ref 65), (1, .int v1), (2, .int v2), (3, .int v3), (4, .int v4), (5, .int v5)], [.int (125 : Int32), .int (s.1 1 9)])) rfl ?_
    refine e_icmp 108 rfl rfl rfl (fun c2 => ?_) (fun c2 => ?_)
    · exact qE_sub (qsubL [0] rfl (ks := [0, 1, 2, 3, 4, 5]) rfl (by decide))
    · refine e_L 1 (f' := (55, [(0, .ref 65), (1, .int v1), (2, .int v2), (3, .int v3), (4, .int v4), (5, .int v5)], [.ref 65])) rfl ?_
      refine e_vI 123 rfl rfl ix_X6_mayBegin rfl (q_recvOf lc_65 rfl) (Nat.le_of_ble_eq_true rfl) (fun w3 s4 e5 => ?_)
      refine e_ifz 62 rfl rfl rfl (fun c6 => ?_) (fun c6 => ?_)
      · refine e_L 1 (f' := (63, [(0, .ref 65), (1, .int v1), (2, .int v2), (3, .int v3), (4, .int v4), (5, .int v5)], [.ref 65])) rfl ?_
        refine e_gR (q := 11) 6 1 rfl rfl lc_65 lr_65_1 ?_
        refine e_L 1 (f' := (67, [(0, .ref 65), (1, .int v1), (2, .int v2), (3, .int v3), (4, .int v4), (5, .int v5)], [.ref 65, .ref 11])) rfl ?_
        refine e_gI 6 14 rfl rfl lc_65 ?_
        refine e_L 5 (f' := (75, [(0, .ref 65), (1, .int v1), (2, .int v2), (3, .int v3), (4, .int v4), (5, .int v5)], [.int (v1 - (1 : Int32)), .int v3, .int v2, .int (s4.1 65 14), .ref 11])) rfl ?_
        refine e_vI 99 rfl rfl ix_X5_addLine rfl (q_recvOf lc_11 rfl) (Nat.le_of_ble_eq_true rfl) (fun w7 s8 e9 => ?_)
        refine e_L 2 (f' := (81, [(6, .int w7), (0, .ref 65), (1, .int v1), (2, .int v2), (3, .int v3), (4, .int v4), (5, .int v5)], [.ref 65])) rfl ?_
        refine e_gR (q := 11) 6 1 rfl rfl lc_65 lr_65_1 ?_
        refine e_L 2 (f' := (88, [(6, .int w7), (0, .ref 65), (1, .int v1), (2, .int v2), (3, .int v3), (4, .int v4), (5, .int v5)], [.int w7, .int v4, .ref 11])) rfl ?_
        refine e_vV 100 rfl rfl ix_X5_link rfl (q_recvOf lc_11 rfl) (Nat.le_of_ble_eq_true rfl) (fun s11 e12 => ?_)
        refine e_L 5 (f' := (99, [(4, .int w7), (6, .int w7), (0, .ref 65), (1, .int v1), (2, .int v2), (3, .int v3), (5, .int v5)], [.int v1, .int w7, .ref 65])) rfl ?_
        refine e_vV 124 rfl rfl ix_X6_readStatement rfl (q_recvOf lc_65 rfl) (Nat.le_of_ble_eq_true rfl) (fun s14 e15 => ?_)
        refine e_L 2 (f' := (35, [(5, .int (v5 + (1 : Int32))), (4, .int w7), (6, .int w7), (0, .ref 65), (1, .int v1), (2, .int v2), (3, .int v3)], [])) rfl ?_
        exact qE_sub (qsubL [3, 4, 5, 6, 1, 0] rfl (ks := [5, 4, 6, 0, 1, 2, 3]) rfl (by decide))
      · exact e_rV rfl rfl
set_option maxRecDepth 100000 in
set_option maxHeartbeats 4000000 in
theorem le_X6_readBlock_108 (en : pN) (d : Nat) (s : qS) : qle (bV (qev en d 115 [.ref 65, .int (125 : Int32)] s) (fun s2 => some (none, s2))) (L_X6_readBlock_108 en d s) := by
  show qle _ (qE (qev en d) en none tb_X6_readBlock (108, [(0, .ref 65)], []) s)
  refine e_L 2 (f' := (111, [(0, .ref 65)], [.int (125 : Int32), .ref 65])) rfl ?_
  refine e_vV 115 rfl rfl ix_X6_need rfl (q_recvOf lc_65 rfl) (Nat.le_of_ble_eq_true rfl) (fun s2 e3 => ?_)
  exact e_rV rfl rfl
set_option maxRecDepth 100000 in
set_option maxHeartbeats 4000000 in
theorem le_X6_readBlock (en : pN) (d : Nat) (a1 : Int32) (a2 : Int32) (a3 : Int32) (s : qS) : qle (if ¬ (s.1 1 9) = (123 : Int32) then L_X6_readBlock_23 en d a1 a2 a3 s else if a1 ≤ (9 : Int32) then L_X6_readBlock_23 en d a1 a2 a3 s else bV (qev en d 114 [.ref 65, .int (4 : Int32)] s) (fun s4 => L_X6_readBlock_23 en d a1 a2 a3 s4)) (qev en (d + 1) 122 [.ref 65, .int a1, .int a2, .int a3] s) := by
  refine e_enter ix_X6_readBlock (Nat.le_of_ble_eq_true rfl) ?_
  show qle _ (qE (qev en d) en none tb_X6_readBlock (0, [(0, .ref 65), (1, .int a1), (2, .int a2), (3, .int a3)], []) s)
  refine e_L 1 (f' := (1, [(0, .ref 65), (1, .int a1), (2, .int a2), (3, .int a3)], [.ref 65])) rfl ?_
  refine e_gR (q := 1) 6 0 rfl rfl lc_65 lr_65_0 ?_
  refine e_gI 9 9 rfl rfl lc_1 ?_
  refine e_L 1 (f' := (9, [(0, .ref 65), (1, .int a1), (2, .int a2), (3, .int a3)], [.int (123 : Int32), .int (s.1 1 9)])) rfl ?_
  refine e_icmp 23 rfl rfl rfl (fun c1 => ?_) (fun c1 => ?_)
  · exact qE_sub (qsubL [0, 1, 2, 3] rfl (ks := [0, 1, 2, 3]) rfl (by decide))
  · refine e_L 2 (f' := (15, [(0, .ref 65), (1, .int a1), (2, .int a2), (3, .int a3)], [.int (9 : Int32), .int a1])) rfl ?_
    refine e_icmp 23 rfl rfl rfl (fun c2 => ?_) (fun c2 => ?_)
    · exact qE_sub (qsubL [0, 1, 2, 3] rfl (ks := [0, 1, 2, 3]) rfl (by decide))
    · refine e_L 2 (f' := (20, [(0, .ref 65), (1, .int a1), (2, .int a2), (3, .int a3)], [.int (4 : Int32), .ref 65])) rfl ?_
      refine e_vV 114 rfl rfl ix_X6_blame rfl (q_recvOf lc_65 rfl) (Nat.le_of_ble_eq_true rfl) (fun s4 e5 => ?_)
      exact qE_sub (qsubL [0, 1, 2, 3] rfl (ks := [0, 1, 2, 3]) rfl (by decide))
noncomputable def L_X6_mayBegin_16 (en : pN) (d : Nat) (vs0 : Int32) (s : qS) : Option qR := qE (qev en d) en (some .boolean) tb_X6_mayBegin (16, [(0, .ref 65)], [.int vs0]) s
noncomputable def L_X6_mayBegin_39 (en : pN) (d : Nat) (v1 : Int32) (vs0 : Int32) (s : qS) : Option qR := qE (qev en d) en (some .boolean) tb_X6_mayBegin (39, [(0, .ref 65), (1, .int v1)], [.int vs0]) s
noncomputable def L_X6_mayBegin_70 (en : pN) (d : Nat) (s : qS) : Option qR := qE (qev en d) en (some .boolean) tb_X6_mayBegin (70, [(0, .ref 65)], []) s
noncomputable def L_X6_mayBegin_78 (en : pN) (d : Nat) (v2 : Int32) (s : qS) : Option qR := qE (qev en d) en (some .boolean) tb_X6_mayBegin (78, [(0, .ref 65), (2, .int v2)], []) s
noncomputable def L_X6_mayBegin_92 (en : pN) (d : Nat) (s : qS) : Option qR := qE (qev en d) en (some .boolean) tb_X6_mayBegin (92, [(0, .ref 65)], []) s
noncomputable def L_X6_mayBegin_117 (en : pN) (d : Nat) (s : qS) : Option qR := qE (qev en d) en (some .boolean) tb_X6_mayBegin (117, [(0, .ref 65)], []) s
set_option maxRecDepth 100000 in
set_option maxHeartbeats 4000000 in
theorem le_X6_mayBegin_16 (en : pN) (d : Nat) (vs0 : Int32) (s : qS) : qle (if vs0 = (0 : Int32) then L_X6_mayBegin_39 en d vs0 (-1 : Int32) s else bI (qev en d 84 [.ref 11, .long (s.2.1 1 11)] s) (fun w2 s3 => L_X6_mayBegin_39 en d vs0 w2 s3)) (L_X6_mayBegin_16 en d vs0 s) := by
  show qle _ (qE (qev en d) en (some .boolean) tb_X6_mayBegin (16, [(0, .ref 65)], [.int vs0]) s)
  refine e_L 2 (f' := (18, [(1, .int vs0), (0, .ref 65)], [.int vs0])) rfl ?_
  refine e_ifz 38 rfl rfl rfl (fun c1 => ?_) (fun c1 => ?_)
  · refine e_L 1 (f' := (39, [(1, .int vs0), (0, .ref 65)], [.int (-1 : Int32)])) rfl ?_
    exact qE_sub (qsubL [1, 0] rfl (ks := [1, 0]) rfl (by decide))
  · refine e_L 1 (f' := (22, [(1, .int vs0), (0, .ref 65)], [.ref 65])) rfl ?_
    refine e_gR (q := 11) 6 1 rfl rfl lc_65 lr_65_1 ?_
    refine e_L 1 (f' := (26, [(1, .int vs0), (0, .ref 65)], [.ref 65, .ref 11])) rfl ?_
    refine e_gR (q := 1) 6 0 rfl rfl lc_65 lr_65_0 ?_
    refine e_gJ 9 11 rfl rfl lc_1 ?_
    refine e_vI 84 rfl rfl ix_X5_named rfl (q_recvOf lc_11 rfl) (Nat.le_of_ble_eq_true rfl) (fun w2 s3 e4 => ?_)
    refine e_L 1 (f' := (39, [(1, .int vs0), (0, .ref 65)], [.int w2])) rfl ?_
    exact qE_sub (qsubL [1, 0] rfl (ks := [1, 0]) rfl (by decide))
set_option maxRecDepth 100000 in
set_option maxHeartbeats 4000000 in
theorem le_X6_mayBegin_39 (en : pN) (d : Nat) (v1 : Int32) (vs0 : Int32) (s : qS) : qle (if ¬ v1 = (0 : Int32) then L_X6_mayBegin_78 en d vs0 s else if (s.1 1 9) < (300 : Int32) then L_X6_mayBegin_70 en d s else if (s.1 1 9) ≤ (315 : Int32) then L_X6_mayBegin_78 en d vs0 s else L_X6_mayBegin_70 en d s) (L_X6_mayBegin_39 en d v1 vs0 s) := by
  show qle _ (qE (qev en d) en (some .boolean) tb_X6_mayBegin (39, [(0, .ref 65), (1, .int v1)], [.int vs0]) s)
  refine e_L 2 (f' := (41, [(2, .int vs0), (0, .ref 65), (1, .int v1)], [.int v1])) rfl ?_
  refine e_ifz 78 rfl rfl rfl (fun c1 => ?_) (fun c1 => ?_)
  · exact qE_sub (qsubL [1, 0] rfl (ks := [2, 0, 1]) rfl (by decide))
  · refine e_L 1 (f' := (45, [(2, .int vs0), (0, .ref 65), (1, .int v1)], [.ref 65])) rfl ?_
    refine e_gR (q := 1) 6 0 rfl rfl lc_65 lr_65_0 ?_
    refine e_gI 9 9 rfl rfl lc_1 ?_
    refine e_L 1 (f' := (54, [(2, .int vs0), (0, .ref 65), (1, .int v1)], [.int (300 : Int32), .int (s.1 1 9)])) rfl ?_
    refine e_icmp 70 rfl rfl rfl (fun c2 => ?_) (fun c2 => ?_)
    · exact qE_sub (qsubL [1] rfl (ks := [2, 0, 1]) rfl (by decide))
    · refine e_L 1 (f' := (58, [(2, .int vs0), (0, .ref 65), (1, .int v1)], [.ref 65])) rfl ?_
      refine e_gR (q := 1) 6 0 rfl rfl lc_65 lr_65_0 ?_
      refine e_gI 9 9 rfl rfl lc_1 ?_
      refine e_L 1 (f' := (67, [(2, .int vs0), (0, .ref 65), (1, .int v1)], [.int (315 : Int32), .int (s.1 1 9)])) rfl ?_
      refine e_icmp 78 rfl rfl rfl (fun c3 => ?_) (fun c3 => ?_)
      · exact qE_sub (qsubL [1, 0] rfl (ks := [2, 0, 1]) rfl (by decide))
      · exact qE_sub (qsubL [1] rfl (ks := [2, 0, 1]) rfl (by decide))
set_option maxRecDepth 100000 in
set_option maxHeartbeats 4000000 in
theorem le_X6_mayBegin_70 (en : pN) (d : Nat) (s : qS) : qle (bV (qev en d 114 [.ref 65, .int (2 : Int32)] s) (fun s2 => L_X6_mayBegin_117 en d s2)) (L_X6_mayBegin_70 en d s) := by
  show qle _ (qE (qev en d) en (some .boolean) tb_X6_mayBegin (70, [(0, .ref 65)], []) s)
  refine e_L 2 (f' := (72, [(0, .ref 65)], [.int (2 : Int32), .ref 65])) rfl ?_
  refine e_vV 114 rfl rfl ix_X6_blame rfl (q_recvOf lc_65 rfl) (Nat.le_of_ble_eq_true rfl) (fun s2 e3 => ?_)
  refine e_L 1 (f' := (117, [(0, .ref 65)], [])) rfl ?_
  exact qE_sub (qsubL [0] rfl (ks := [0]) rfl (by decide))
set_option maxRecDepth 100000 in
set_option maxHeartbeats 4000000 in
theorem le_X6_mayBegin_78 (en : pN) (d : Nat) (v2 : Int32) (s : qS) : qle (bI (qev en d 86 [.int v2] s) (fun w1 s2 => if ¬ w1 = (0 : Int32) then L_X6_mayBegin_92 en d s2 else bI (qev en d 87 [.int v2] s2) (fun w5 s6 => if w5 = (0 : Int32) then if (s6.1 11 12) < (100 : Int32) then L_X6_mayBegin_117 en d s6 else bV (qev en d 114 [.ref 65, .int (4 : Int32)] s6) (fun s11 => L_X6_mayBegin_117 en d s11) else L_X6_mayBegin_92 en d s6))) (L_X6_mayBegin_78 en d v2 s) := by
  show qle _ (qE (qev en d) en (some .boolean) tb_X6_mayBegin (78, [(0, .ref 65), (2, .int v2)], []) s)
  refine e_L 1 (f' := (79, [(0, .ref 65), (2, .int v2)], [.int v2])) rfl ?_
  refine e_sI 86 rfl rfl rfl ix_X5_isLock rfl (Nat.le_of_ble_eq_true rfl) (fun w1 s2 e3 => ?_)
  refine e_ifz 92 rfl rfl rfl (fun c4 => ?_) (fun c4 => ?_)
  · exact qE_sub (qsubL [0] rfl (ks := [0, 2]) rfl (by decide))
  · refine e_L 1 (f' := (86, [(0, .ref 65), (2, .int v2)], [.int v2])) rfl ?_
    refine e_sI 87 rfl rfl rfl ix_X5_isThread rfl (Nat.le_of_ble_eq_true rfl) (fun w5 s6 e7 => ?_)
    refine e_ifz 100 rfl rfl rfl (fun c8 => ?_) (fun c8 => ?_)
    · refine e_L 1 (f' := (101, [(0, .ref 65), (2, .int v2)], [.ref 65])) rfl ?_
      refine e_gR (q := 11) 6 1 rfl rfl lc_65 lr_65_1 ?_
      refine e_gI 5 12 rfl rfl lc_11 ?_
      refine e_L 1 (f' := (109, [(0, .ref 65), (2, .int v2)], [.int (100 : Int32), .int (s6.1 11 12)])) rfl ?_
      refine e_icmp 117 rfl rfl rfl (fun c9 => ?_) (fun c9 => ?_)
      · exact qE_sub (qsubL [0] rfl (ks := [0, 2]) rfl (by decide))
      · refine e_L 2 (f' := (114, [(0, .ref 65), (2, .int v2)], [.int (4 : Int32), .ref 65])) rfl ?_
        refine e_vV 114 rfl rfl ix_X6_blame rfl (q_recvOf lc_65 rfl) (Nat.le_of_ble_eq_true rfl) (fun s11 e12 => ?_)
        exact qE_sub (qsubL [0] rfl (ks := [0, 2]) rfl (by decide))
    · exact qE_sub (qsubL [0] rfl (ks := [0, 2]) rfl (by decide))
set_option maxRecDepth 100000 in
set_option maxHeartbeats 4000000 in
theorem le_X6_mayBegin_92 (en : pN) (d : Nat) (s : qS) : qle (bV (qev en d 114 [.ref 65, .int (3 : Int32)] s) (fun s2 => L_X6_mayBegin_117 en d s2)) (L_X6_mayBegin_92 en d s) := by
  show qle _ (qE (qev en d) en (some .boolean) tb_X6_mayBegin (92, [(0, .ref 65)], []) s)
  refine e_L 2 (f' := (94, [(0, .ref 65)], [.int (3 : Int32), .ref 65])) rfl ?_
  refine e_vV 114 rfl rfl ix_X6_blame rfl (q_recvOf lc_65 rfl) (Nat.le_of_ble_eq_true rfl) (fun s2 e3 => ?_)
  refine e_L 1 (f' := (117, [(0, .ref 65)], [])) rfl ?_
  exact qE_sub (qsubL [0] rfl (ks := [0]) rfl (by decide))
set_option maxRecDepth 100000 in
set_option maxHeartbeats 4000000 in
theorem le_X6_mayBegin_117 (en : pN) (d : Nat) (s : qS) : qle (if (s.1 1 9) = (0 : Int32) then some (some (.int (0 : Int32)), s) else some (some (.int (1 : Int32)), s)) (L_X6_mayBegin_117 en d s) := by
  show qle _ (qE (qev en d) en (some .boolean) tb_X6_mayBegin (117, [(0, .ref 65)], []) s)
  refine e_L 1 (f' := (118, [(0, .ref 65)], [.ref 65])) rfl ?_
  refine e_gR (q := 1) 6 0 rfl rfl lc_65 lr_65_0 ?_
  refine e_gI 9 9 rfl rfl lc_1 ?_
  refine e_ifz 131 rfl rfl rfl (fun c1 => ?_) (fun c1 => ?_)
  · refine e_L 1 (f' := (132, [(0, .ref 65)], [.int (0 : Int32)])) rfl ?_
    exact e_rZ rfl rfl (by decide)
  · refine e_L 2 (f' := (132, [(0, .ref 65)], [.int (1 : Int32)])) rfl ?_
    exact e_rZ rfl rfl (by decide)
set_option maxRecDepth 100000 in
set_option maxHeartbeats 4000000 in
theorem le_X6_mayBegin (en : pN) (d : Nat) (s : qS) : qle (if ¬ (s.1 1 9) = (2 : Int32) then L_X6_mayBegin_16 en d (0 : Int32) s else L_X6_mayBegin_16 en d (1 : Int32) s) (qev en (d + 1) 123 [.ref 65] s) := by
  refine e_enter ix_X6_mayBegin (Nat.le_of_ble_eq_true rfl) ?_
  show qle _ (qE (qev en d) en (some .boolean) tb_X6_mayBegin (0, [(0, .ref 65)], []) s)
  refine e_L 1 (f' := (1, [(0, .ref 65)], [.ref 65])) rfl ?_
  refine e_gR (q := 1) 6 0 rfl rfl lc_65 lr_65_0 ?_
  refine e_gI 9 9 rfl rfl lc_1 ?_
  refine e_L 1 (f' := (8, [(0, .ref 65)], [.int (2 : Int32), .int (s.1 1 9)])) rfl ?_
  refine e_icmp 15 rfl rfl rfl (fun c1 => ?_) (fun c1 => ?_)
  · refine e_L 1 (f' := (16, [(0, .ref 65)], [.int (0 : Int32)])) rfl ?_
    exact qE_sub (qsubL [0] rfl (ks := [0]) rfl (by decide))
  · refine e_L 2 (f' := (16, [(0, .ref 65)], [.int (1 : Int32)])) rfl ?_
    exact qE_sub (qsubL [0] rfl (ks := [0]) rfl (by decide))
noncomputable def L_X6_readStatement_47 (en : pN) (d : Nat) (v1 : Int32) (v2 : Int32) (v3 : Int32) (s : qS) : Option qR := qE (qev en d) en none tb_X6_readStatement (47, [(0, .ref 65), (1, .int v1), (2, .int v2), (3, .int v3)], []) s
noncomputable def L_X6_readStatement_90 (en : pN) (d : Nat) (v1 : Int32) (v2 : Int32) (v3 : Int32) (s : qS) : Option qR := qE (qev en d) en none tb_X6_readStatement (90, [(0, .ref 65), (1, .int v1), (2, .int v2), (3, .int v3), (4, .ref 17)], []) s
noncomputable def L_X6_readStatement_149 (en : pN) (d : Nat) (v1 : Int32) (v2 : Int32) (v3 : Int32) (s : qS) : Option qR := qE (qev en d) en none tb_X6_readStatement (149, [(0, .ref 65), (1, .int v1), (2, .int v2), (3, .int v3)], []) s
noncomputable def L_X6_readStatement_159 (en : pN) (d : Nat) (v1 : Int32) (v2 : Int32) (v3 : Int32) (s : qS) : Option qR := qE (qev en d) en none tb_X6_readStatement (159, [(0, .ref 65), (1, .int v1), (2, .int v2), (3, .int v3)], []) s
noncomputable def L_X6_readStatement_164 (en : pN) (d : Nat) (v1 : Int32) (v2 : Int32) (v3 : Int32) (s : qS) : Option qR := qE (qev en d) en none tb_X6_readStatement (164, [(0, .ref 65), (1, .int v1), (2, .int v2), (3, .int v3)], []) s
noncomputable def L_X6_readStatement_183 (en : pN) (d : Nat) (v1 : Int32) (v2 : Int32) (v3 : Int32) (s : qS) : Option qR := qE (qev en d) en none tb_X6_readStatement (183, [(0, .ref 65), (1, .int v1), (2, .int v2), (3, .int v3)], []) s
set_option maxRecDepth 100000 in
set_option maxHeartbeats 4000000 in
theorem le_X6_readStatement_47 (en : pN) (d : Nat) (v1 : Int32) (v2 : Int32) (v3 : Int32) (s : qS) : qle (gd (p_inB v1 100 = true) (nm (uI s 18 (v1.toNatClampNeg) v3) (fun s2 => gd (s2.2.2 65 7 ≠ 0 ∧ lc (s2.2.2 65 7 - 1) = 4) (nm (s2.2.2 65 7 - 1) (fun q4 => nm (uI s2 23 (v1.toNatClampNeg) (s2.1 q4 3)) (fun s5 => bI (qev en d 125 [.ref 65, .int v3] s5) (fun w6 s7 => if w6 = (0 : Int32) then L_X6_readStatement_90 en d v1 v2 v3 s7 else bV (qev en d 134 [.ref 65, .int (0 : Int32), .int (1 : Int32)] s7) (fun s11 => L_X6_readStatement_90 en d v1 v2 v3 s11)))))))) (L_X6_readStatement_47 en d v1 v2 v3 s) := by
  show qle _ (qE (qev en d) en none tb_X6_readStatement (47, [(0, .ref 65), (1, .int v1), (2, .int v2), (3, .int v3)], []) s)
  refine e_L 1 (f' := (48, [(0, .ref 65), (1, .int v1), (2, .int v2), (3, .int v3)], [.ref 65])) rfl ?_
  refine e_gR (q := 11) 6 1 rfl rfl lc_65 lr_65_1 ?_
  refine e_gR (q := 17) 5 6 rfl rfl lc_11 lr_11_6 ?_
  refine e_L 3 (f' := (59, [(4, .ref 17), (0, .ref 65), (1, .int v1), (2, .int v2), (3, .int v3)], [.int (0 : Int32), .ref 17])) rfl ?_
  refine e_aal (n := 18) (q := 18) rfl lc_17 ln_17 (by decide +kernel) (by decide +kernel) ?_
  refine e_L 2 (f' := (62, [(4, .ref 17), (0, .ref 65), (1, .int v1), (2, .int v2), (3, .int v3)], [.int v3, .int v1, .ref 18])) rfl ?_
  refine qle_gd fun h1 => ?_
  refine e_ias (n := 100) (k := v1.toNatClampNeg) rfl lc_18 ln_18 h1 rfl ?_
  refine e_nS fun s2 => ?_
  refine e_L 2 (f' := (66, [(4, .ref 17), (0, .ref 65), (1, .int v1), (2, .int v2), (3, .int v3)], [.int (5 : Int32), .ref 17])) rfl ?_
  refine e_aal (n := 18) (q := 23) rfl lc_17 ln_17 (by decide +kernel) (by decide +kernel) ?_
  refine e_L 2 (f' := (69, [(4, .ref 17), (0, .ref 65), (1, .int v1), (2, .int v2), (3, .int v3)], [.ref 65, .int v1, .ref 23])) rfl ?_
  refine qle_gd fun h3 => ?_
  refine e_gM 6 7 rfl rfl lc_65 h3.1 ?_
  refine e_nR (ci := 4) h3.2 fun q4 h_q4 => ?_
  refine e_gI 4 3 rfl rfl h_q4 ?_
  refine e_ias (n := 100) (k := v1.toNatClampNeg) rfl lc_23 ln_23 h1 rfl ?_
  refine e_nS fun s5 => ?_
  refine e_L 2 (f' := (78, [(4, .ref 17), (0, .ref 65), (1, .int v1), (2, .int v2), (3, .int v3)], [.int v3, .ref 65])) rfl ?_
  refine e_vI 125 rfl rfl ix_X6_hasExp rfl (q_recvOf lc_65 rfl) (Nat.le_of_ble_eq_true rfl) (fun w6 s7 e8 => ?_)
  refine e_ifz 90 rfl rfl rfl (fun c9 => ?_) (fun c9 => ?_)
  · exact qE_sub (qsubL [1, 2, 3, 4, 0] rfl (ks := [4, 0, 1, 2, 3]) rfl (by decide))
  · refine e_L 3 (f' := (87, [(4, .ref 17), (0, .ref 65), (1, .int v1), (2, .int v2), (3, .int v3)], [.int (1 : Int32), .int (0 : Int32), .ref 65])) rfl ?_
    refine e_vV 134 rfl rfl ix_X6_readLevel rfl (q_recvOf lc_65 rfl) (Nat.le_of_ble_eq_true rfl) (fun s11 e12 => ?_)
    exact qE_sub (qsubL [1, 2, 3, 4, 0] rfl (ks := [4, 0, 1, 2, 3]) rfl (by decide))
set_option maxRecDepth 100000 in
set_option maxHeartbeats 4000000 in
theorem le_X6_readStatement_90 (en : pN) (d : Nat) (v1 : Int32) (v2 : Int32) (v3 : Int32) (s : qS) : qle (gd (s.2.2 65 7 ≠ 0 ∧ lc (s.2.2 65 7 - 1) = 4) (nm (s.2.2 65 7 - 1) (fun q2 => gd (p_inB v1 100 = true) (nm (uI s 24 (v1.toNatClampNeg) (s.1 q2 3)) (fun s4 => if ¬ v3 = (3 : Int32) then L_X6_readStatement_149 en d v1 v2 v3 s4 else bV (qev en d 115 [.ref 65, .int (44 : Int32)] s4) (fun s7 => gd (s7.2.2 65 7 ≠ 0 ∧ lc (s7.2.2 65 7 - 1) = 4) (nm (s7.2.2 65 7 - 1) (fun q10 => nm (uI s7 25 (v1.toNatClampNeg) (s7.1 q10 3)) (fun s11 => bV (qev en d 134 [.ref 65, .int (0 : Int32), .int (1 : Int32)] s11) (fun s13 => gd (s13.2.2 65 7 ≠ 0 ∧ lc (s13.2.2 65 7 - 1) = 4) (nm (s13.2.2 65 7 - 1) (fun q16 => nm (uI s13 26 (v1.toNatClampNeg) (s13.1 q16 3)) (fun s17 => L_X6_readStatement_149 en d v1 v2 v3 s17))))))))))))) (L_X6_readStatement_90 en d v1 v2 v3 s) := by
  show qle _ (qE (qev en d) en none tb_X6_readStatement (90, [(0, .ref 65), (1, .int v1), (2, .int v2), (3, .int v3), (4, .ref 17)], []) s)
  refine e_L 2 (f' := (94, [(0, .ref 65), (1, .int v1), (2, .int v2), (3, .int v3), (4, .ref 17)], [.int (6 : Int32), .ref 17])) rfl ?_
  refine e_aal (n := 18) (q := 24) rfl lc_17 ln_17 (by decide +kernel) (by decide +kernel) ?_
  refine e_L 2 (f' := (97, [(0, .ref 65), (1, .int v1), (2, .int v2), (3, .int v3), (4, .ref 17)], [.ref 65, .int v1, .ref 24])) rfl ?_
  refine qle_gd fun h1 => ?_
  refine e_gM 6 7 rfl rfl lc_65 h1.1 ?_
  refine e_nR (ci := 4) h1.2 fun q2 h_q2 => ?_
  refine e_gI 4 3 rfl rfl h_q2 ?_
  refine qle_gd fun h3 => ?_
  refine e_ias (n := 100) (k := v1.toNatClampNeg) rfl lc_24 ln_24 h3 rfl ?_
  refine e_nS fun s4 => ?_
  refine e_L 2 (f' := (106, [(0, .ref 65), (1, .int v1), (2, .int v2), (3, .int v3), (4, .ref 17)], [.int (3 : Int32), .int v3])) rfl ?_
  refine e_icmp 149 rfl rfl rfl (fun c5 => ?_) (fun c5 => ?_)
  · exact qE_sub (qsubL [0, 1, 2, 3] rfl (ks := [0, 1, 2, 3, 4]) rfl (by decide))
  · refine e_L 2 (f' := (112, [(0, .ref 65), (1, .int v1), (2, .int v2), (3, .int v3), (4, .ref 17)], [.int (44 : Int32), .ref 65])) rfl ?_
    refine e_vV 115 rfl rfl ix_X6_need rfl (q_recvOf lc_65 rfl) (Nat.le_of_ble_eq_true rfl) (fun s7 e8 => ?_)
    refine e_L 2 (f' := (119, [(0, .ref 65), (1, .int v1), (2, .int v2), (3, .int v3), (4, .ref 17)], [.int (7 : Int32), .ref 17])) rfl ?_
    refine e_aal (n := 18) (q := 25) rfl lc_17 ln_17 (by decide +kernel) (by decide +kernel) ?_
    refine e_L 2 (f' := (122, [(0, .ref 65), (1, .int v1), (2, .int v2), (3, .int v3), (4, .ref 17)], [.ref 65, .int v1, .ref 25])) rfl ?_
    refine qle_gd fun h9 => ?_
    refine e_gM 6 7 rfl rfl lc_65 h9.1 ?_
    refine e_nR (ci := 4) h9.2 fun q10 h_q10 => ?_
    refine e_gI 4 3 rfl rfl h_q10 ?_
    refine e_ias (n := 100) (k := v1.toNatClampNeg) rfl lc_25 ln_25 h3 rfl ?_
    refine e_nS fun s11 => ?_
    refine e_L 3 (f' := (132, [(0, .ref 65), (1, .int v1), (2, .int v2), (3, .int v3), (4, .ref 17)], [.int (1 : Int32), .int (0 : Int32), .ref 65])) rfl ?_
    refine e_vV 134 rfl rfl ix_X6_readLevel rfl (q_recvOf lc_65 rfl) (Nat.le_of_ble_eq_true rfl) (fun s13 e14 => ?_)
    refine e_L 2 (f' := (139, [(0, .ref 65), (1, .int v1), (2, .int v2), (3, .int v3), (4, .ref 17)], [.int (8 : Int32), .ref 17])) rfl ?_
    refine e_aal (n := 18) (q := 26) rfl lc_17 ln_17 (by decide +kernel) (by decide +kernel) ?_
    refine e_L 2 (f' := (142, [(0, .ref 65), (1, .int v1), (2, .int v2), (3, .int v3), (4, .ref 17)], [.ref 65, .int v1, .ref 26])) rfl ?_
    refine qle_gd fun h15 => ?_
    refine e_gM 6 7 rfl rfl lc_65 h15.1 ?_
    refine e_nR (ci := 4) h15.2 fun q16 h_q16 => ?_
    refine e_gI 4 3 rfl rfl h_q16 ?_
    refine e_ias (n := 100) (k := v1.toNatClampNeg) rfl lc_26 ln_26 h3 rfl ?_
    refine e_nS fun s17 => ?_
    exact qE_sub (qsubL [0, 1, 2, 3] rfl (ks := [0, 1, 2, 3, 4]) rfl (by decide))
set_option maxRecDepth 100000 in
set_option maxHeartbeats 4000000 in
theorem le_X6_readStatement_149 (en : pN) (d : Nat) (v1 : Int32) (v2 : Int32) (v3 : Int32) (s : qS) : qle (if v3 = (3 : Int32) then L_X6_readStatement_159 en d v1 v2 v3 s else if ¬ v3 = (4 : Int32) then L_X6_readStatement_164 en d v1 v2 v3 s else L_X6_readStatement_159 en d v1 v2 v3 s) (L_X6_readStatement_149 en d v1 v2 v3 s) := by
  show qle _ (qE (qev en d) en none tb_X6_readStatement (149, [(0, .ref 65), (1, .int v1), (2, .int v2), (3, .int v3)], []) s)
  refine e_L 2 (f' := (151, [(0, .ref 65), (1, .int v1), (2, .int v2), (3, .int v3)], [.int (3 : Int32), .int v3])) rfl ?_
  refine e_icmp 159 rfl rfl rfl (fun c1 => ?_) (fun c1 => ?_)
  · exact qE_sub (qsubL [0, 1, 2, 3] rfl (ks := [0, 1, 2, 3]) rfl (by decide))
  · refine e_L 2 (f' := (156, [(0, .ref 65), (1, .int v1), (2, .int v2), (3, .int v3)], [.int (4 : Int32), .int v3])) rfl ?_
    refine e_icmp 164 rfl rfl rfl (fun c2 => ?_) (fun c2 => ?_)
    · exact qE_sub (qsubL [0, 1, 2, 3] rfl (ks := [0, 1, 2, 3]) rfl (by decide))
    · exact qE_sub (qsubL [0, 1, 2, 3] rfl (ks := [0, 1, 2, 3]) rfl (by decide))
set_option maxRecDepth 100000 in
set_option maxHeartbeats 4000000 in
theorem le_X6_readStatement_159 (en : pN) (d : Nat) (v1 : Int32) (v2 : Int32) (v3 : Int32) (s : qS) : qle (bV (qev en d 131 [.ref 65, .int v1] s) (fun s2 => L_X6_readStatement_164 en d v1 v2 v3 s2)) (L_X6_readStatement_159 en d v1 v2 v3 s) := by
  show qle _ (qE (qev en d) en none tb_X6_readStatement (159, [(0, .ref 65), (1, .int v1), (2, .int v2), (3, .int v3)], []) s)
  refine e_L 2 (f' := (161, [(0, .ref 65), (1, .int v1), (2, .int v2), (3, .int v3)], [.int v1, .ref 65])) rfl ?_
  refine e_vV 131 rfl rfl ix_X6_readInto rfl (q_recvOf lc_65 rfl) (Nat.le_of_ble_eq_true rfl) (fun s2 e3 => ?_)
  exact qE_sub (qsubL [0, 1, 2, 3] rfl (ks := [0, 1, 2, 3]) rfl (by decide))
set_option maxRecDepth 100000 in
set_option maxHeartbeats 4000000 in
theorem le_X6_readStatement_164 (en : pN) (d : Nat) (v1 : Int32) (v2 : Int32) (v3 : Int32) (s : qS) : qle (if v3 = (17 : Int32) then L_X6_readStatement_183 en d v1 v2 v3 s else if v3 = (18 : Int32) then L_X6_readStatement_183 en d v1 v2 v3 s else bV (qev en d 115 [.ref 65, .int (59 : Int32)] s) (fun s4 => some (none, s4))) (L_X6_readStatement_164 en d v1 v2 v3 s) := by
  show qle _ (qE (qev en d) en none tb_X6_readStatement (164, [(0, .ref 65), (1, .int v1), (2, .int v2), (3, .int v3)], []) s)
  refine e_L 2 (f' := (167, [(0, .ref 65), (1, .int v1), (2, .int v2), (3, .int v3)], [.int (17 : Int32), .int v3])) rfl ?_
  refine e_icmp 183 rfl rfl rfl (fun c1 => ?_) (fun c1 => ?_)
  · exact qE_sub (qsubL [0, 1, 2, 3] rfl (ks := [0, 1, 2, 3]) rfl (by decide))
  · refine e_L 2 (f' := (173, [(0, .ref 65), (1, .int v1), (2, .int v2), (3, .int v3)], [.int (18 : Int32), .int v3])) rfl ?_
    refine e_icmp 183 rfl rfl rfl (fun c2 => ?_) (fun c2 => ?_)
    · exact qE_sub (qsubL [0, 1, 2, 3] rfl (ks := [0, 1, 2, 3]) rfl (by decide))
    · refine e_L 2 (f' := (179, [(0, .ref 65), (1, .int v1), (2, .int v2), (3, .int v3)], [.int (59 : Int32), .ref 65])) rfl ?_
      refine e_vV 115 rfl rfl ix_X6_need rfl (q_recvOf lc_65 rfl) (Nat.le_of_ble_eq_true rfl) (fun s4 e5 => ?_)
      exact e_rV rfl rfl
set_option maxRecDepth 100000 in
set_option maxHeartbeats 4000000 in
theorem le_X6_readStatement_183 (en : pN) (d : Nat) (v1 : Int32) (v2 : Int32) (v3 : Int32) (s : qS) : qle (bV (qev en d 122 [.ref 65, .int (v2 + (1 : Int32)), .int v1, .int (0 : Int32)] s) (fun s2 => if ¬ v3 = (17 : Int32) then some (none, s2) else bI (qev en d 116 [.ref 65, .int (316 : Int32)] s2) (fun w5 s6 => if w5 = (0 : Int32) then some (none, s6) else bV (qev en d 122 [.ref 65, .int (v2 + (1 : Int32)), .int v1, .int (1 : Int32)] s6) (fun s10 => some (none, s10))))) (L_X6_readStatement_183 en d v1 v2 v3 s) := by
  show qle _ (qE (qev en d) en none tb_X6_readStatement (183, [(0, .ref 65), (1, .int v1), (2, .int v2), (3, .int v3)], []) s)
  refine e_L 6 (f' := (189, [(0, .ref 65), (1, .int v1), (2, .int v2), (3, .int v3)], [.int (0 : Int32), .int v1, .int (v2 + (1 : Int32)), .ref 65])) rfl ?_
  refine e_vV 122 rfl rfl ix_X6_readBlock rfl (q_recvOf lc_65 rfl) (Nat.le_of_ble_eq_true rfl) (fun s2 e3 => ?_)
  refine e_L 2 (f' := (195, [(0, .ref 65), (1, .int v1), (2, .int v2), (3, .int v3)], [.int (17 : Int32), .int v3])) rfl ?_
  refine e_icmp 217 rfl rfl rfl (fun c4 => ?_) (fun c4 => ?_)
  · exact e_rV rfl rfl
  · refine e_L 2 (f' := (202, [(0, .ref 65), (1, .int v1), (2, .int v2), (3, .int v3)], [.int (316 : Int32), .ref 65])) rfl ?_
    refine e_vI 116 rfl rfl ix_X6_skip rfl (q_recvOf lc_65 rfl) (Nat.le_of_ble_eq_true rfl) (fun w5 s6 e7 => ?_)
    refine e_ifz 217 rfl rfl rfl (fun c8 => ?_) (fun c8 => ?_)
    · exact e_rV rfl rfl
    · refine e_L 6 (f' := (214, [(0, .ref 65), (1, .int v1), (2, .int v2), (3, .int v3)], [.int (1 : Int32), .int v1, .int (v2 + (1 : Int32)), .ref 65])) rfl ?_
      refine e_vV 122 rfl rfl ix_X6_readBlock rfl (q_recvOf lc_65 rfl) (Nat.le_of_ble_eq_true rfl) (fun s10 e11 => ?_)
      exact e_rV rfl rfl
set_option maxRecDepth 100000 in
set_option maxHeartbeats 4000000 in
theorem le_X6_readStatement (en : pN) (d : Nat) (a1 : Int32) (a2 : Int32) (s : qS) : qle (if ¬ (s.1 1 9) = (2 : Int32) then nm (((s.1 1 9) - (300 : Int32)) + (3 : Int32)) (fun z2 => bV (qev en d 167 [.ref 1] s) (fun s4 => bV (qev en d 129 [.ref 65, .int a1, .int z2] s4) (fun s7 => L_X6_readStatement_47 en d a1 a2 z2 s7))) else bI (qev en d 126 [.ref 65, .int a1] s) (fun w9 s10 => L_X6_readStatement_47 en d a1 a2 w9 s10)) (qev en (d + 1) 124 [.ref 65, .int a1, .int a2] s) := by
  refine e_enter ix_X6_readStatement (Nat.le_of_ble_eq_true rfl) ?_
  show qle _ (qE (qev en d) en none tb_X6_readStatement (0, [(0, .ref 65), (1, .int a1), (2, .int a2)], []) s)
  refine e_L 1 (f' := (1, [(0, .ref 65), (1, .int a1), (2, .int a2)], [.ref 65])) rfl ?_
  refine e_gR (q := 1) 6 0 rfl rfl lc_65 lr_65_0 ?_
  refine e_gI 9 9 rfl rfl lc_1 ?_
  refine e_L 1 (f' := (8, [(0, .ref 65), (1, .int a1), (2, .int a2)], [.int (2 : Int32), .int (s.1 1 9)])) rfl ?_
  refine e_icmp 20 rfl rfl rfl (fun c1 => ?_) (fun c1 => ?_)
  · refine e_L 1 (f' := (21, [(0, .ref 65), (1, .int a1), (2, .int a2)], [.ref 65])) rfl ?_
    refine e_gR (q := 1) 6 0 rfl rfl lc_65 lr_65_0 ?_
    refine e_gI 9 9 rfl rfl lc_1 ?_
    refine e_L 4 (f' := (33, [(0, .ref 65), (1, .int a1), (2, .int a2)], [.int (((s.1 1 9) - (300 : Int32)) + (3 : Int32))])) rfl ?_
    refine e_nI fun z2 => ?_
    refine e_L 2 (f' := (35, [(3, .int z2), (0, .ref 65), (1, .int a1), (2, .int a2)], [.ref 65])) rfl ?_
    refine e_gR (q := 1) 6 0 rfl rfl lc_65 lr_65_0 ?_
    refine e_vV 167 rfl rfl ix_X9_advance rfl (q_recvOf lc_1 rfl) (Nat.le_of_ble_eq_true rfl) (fun s4 e5 => ?_)
    refine e_L 3 (f' := (44, [(3, .int z2), (0, .ref 65), (1, .int a1), (2, .int a2)], [.int z2, .int a1, .ref 65])) rfl ?_
    refine e_vV 129 rfl rfl ix_X6_readObject rfl (q_recvOf lc_65 rfl) (Nat.le_of_ble_eq_true rfl) (fun s7 e8 => ?_)
    exact qE_sub (qsubL [1, 2, 3, 0] rfl (ks := [3, 0, 1, 2]) rfl (by decide))
  · refine e_L 2 (f' := (13, [(0, .ref 65), (1, .int a1), (2, .int a2)], [.int a1, .ref 65])) rfl ?_
    refine e_vI 126 rfl rfl ix_X6_readTarget rfl (q_recvOf lc_65 rfl) (Nat.le_of_ble_eq_true rfl) (fun w9 s10 e11 => ?_)
    refine e_L 2 (f' := (47, [(3, .int w9), (0, .ref 65), (1, .int a1), (2, .int a2)], [])) rfl ?_
    exact qE_sub (qsubL [1, 2, 3, 0] rfl (ks := [3, 0, 1, 2]) rfl (by decide))
noncomputable def L_X6_hasExp_12 (en : pN) (d : Nat) (s : qS) : Option qR := qE (qev en d) en (some .boolean) tb_X6_hasExp (12, [(0, .ref 65)], []) s
noncomputable def L_X6_hasExp_44 (en : pN) (d : Nat) (v1 : Int32) (s : qS) : Option qR := qE (qev en d) en (some .boolean) tb_X6_hasExp (44, [(1, .int v1)], []) s
set_option maxRecDepth 100000 in
set_option maxHeartbeats 4000000 in
theorem le_X6_hasExp_12 (en : pN) (d : Nat) (s : qS) : qle (if (s.1 1 9) = (59 : Int32) then some (some (.int (0 : Int32)), s) else some (some (.int (1 : Int32)), s)) (L_X6_hasExp_12 en d s) := by
  show qle _ (qE (qev en d) en (some .boolean) tb_X6_hasExp (12, [(0, .ref 65)], []) s)
  refine e_L 1 (f' := (13, [(0, .ref 65)], [.ref 65])) rfl ?_
  refine e_gR (q := 1) 6 0 rfl rfl lc_65 lr_65_0 ?_
  refine e_gI 9 9 rfl rfl lc_1 ?_
  refine e_L 1 (f' := (21, [(0, .ref 65)], [.int (59 : Int32), .int (s.1 1 9)])) rfl ?_
  refine e_icmp 28 rfl rfl rfl (fun c1 => ?_) (fun c1 => ?_)
  · refine e_L 1 (f' := (29, [(0, .ref 65)], [.int (0 : Int32)])) rfl ?_
    exact e_rZ rfl rfl (by decide)
  · refine e_L 2 (f' := (29, [(0, .ref 65)], [.int (1 : Int32)])) rfl ?_
    exact e_rZ rfl rfl (by decide)
set_option maxRecDepth 100000 in
set_option maxHeartbeats 4000000 in
theorem le_X6_hasExp_44 (en : pN) (d : Nat) (v1 : Int32) (s : qS) : qle (if v1 = (14 : Int32) then some (some (.int (1 : Int32)), s) else if v1 = (17 : Int32) then some (some (.int (1 : Int32)), s) else if ¬ v1 = (18 : Int32) then some (some (.int (0 : Int32)), s) else some (some (.int (1 : Int32)), s)) (L_X6_hasExp_44 en d v1 s) := by
  show qle _ (qE (qev en d) en (some .boolean) tb_X6_hasExp (44, [(1, .int v1)], []) s)
  refine e_L 2 (f' := (47, [(1, .int v1)], [.int (14 : Int32), .int v1])) rfl ?_
  refine e_icmp 62 rfl rfl rfl (fun c1 => ?_) (fun c1 => ?_)
  · refine e_L 2 (f' := (67, [(1, .int v1)], [.int (1 : Int32)])) rfl ?_
    exact e_rZ rfl rfl (by decide)
  · refine e_L 2 (f' := (53, [(1, .int v1)], [.int (17 : Int32), .int v1])) rfl ?_
    refine e_icmp 62 rfl rfl rfl (fun c2 => ?_) (fun c2 => ?_)
    · refine e_L 2 (f' := (67, [(1, .int v1)], [.int (1 : Int32)])) rfl ?_
      exact e_rZ rfl rfl (by decide)
    · refine e_L 2 (f' := (59, [(1, .int v1)], [.int (18 : Int32), .int v1])) rfl ?_
      refine e_icmp 66 rfl rfl rfl (fun c3 => ?_) (fun c3 => ?_)
      · refine e_L 1 (f' := (67, [(1, .int v1)], [.int (0 : Int32)])) rfl ?_
        exact e_rZ rfl rfl (by decide)
      · refine e_L 2 (f' := (67, [(1, .int v1)], [.int (1 : Int32)])) rfl ?_
        exact e_rZ rfl rfl (by decide)
set_option maxRecDepth 100000 in
set_option maxHeartbeats 4000000 in
theorem le_X6_hasExp (en : pN) (d : Nat) (a1 : Int32) (s : qS) : qle (if a1 = (15 : Int32) then L_X6_hasExp_12 en d s else if ¬ a1 = (16 : Int32) then if a1 = (0 : Int32) then some (some (.int (1 : Int32)), s) else if a1 < (2 : Int32) then L_X6_hasExp_44 en d a1 s else if a1 ≤ (4 : Int32) then some (some (.int (1 : Int32)), s) else L_X6_hasExp_44 en d a1 s else L_X6_hasExp_12 en d s) (qev en (d + 1) 125 [.ref 65, .int a1] s) := by
  refine e_enter ix_X6_hasExp (Nat.le_of_ble_eq_true rfl) ?_
  show qle _ (qE (qev en d) en (some .boolean) tb_X6_hasExp (0, [(0, .ref 65), (1, .int a1)], []) s)
  refine e_L 2 (f' := (3, [(0, .ref 65), (1, .int a1)], [.int (15 : Int32), .int a1])) rfl ?_
  refine e_icmp 12 rfl rfl rfl (fun c1 => ?_) (fun c1 => ?_)
  · exact qE_sub (qsubL [0] rfl (ks := [0, 1]) rfl (by decide))
  · refine e_L 2 (f' := (9, [(0, .ref 65), (1, .int a1)], [.int (16 : Int32), .int a1])) rfl ?_
    refine e_icmp 30 rfl rfl rfl (fun c2 => ?_) (fun c2 => ?_)
    · refine e_L 1 (f' := (31, [(0, .ref 65), (1, .int a1)], [.int a1])) rfl ?_
      refine e_ifz 62 rfl rfl rfl (fun c3 => ?_) (fun c3 => ?_)
      · refine e_L 2 (f' := (67, [(0, .ref 65), (1, .int a1)], [.int (1 : Int32)])) rfl ?_
        exact e_rZ rfl rfl (by decide)
      · refine e_L 2 (f' := (36, [(0, .ref 65), (1, .int a1)], [.int (2 : Int32), .int a1])) rfl ?_
        refine e_icmp 44 rfl rfl rfl (fun c4 => ?_) (fun c4 => ?_)
        · exact qE_sub (qsubL [1] rfl (ks := [0, 1]) rfl (by decide))
        · refine e_L 2 (f' := (41, [(0, .ref 65), (1, .int a1)], [.int (4 : Int32), .int a1])) rfl ?_
          refine e_icmp 62 rfl rfl rfl (fun c5 => ?_) (fun c5 => ?_)
          · refine e_L 2 (f' := (67, [(0, .ref 65), (1, .int a1)], [.int (1 : Int32)])) rfl ?_
            exact e_rZ rfl rfl (by decide)
          · exact qE_sub (qsubL [1] rfl (ks := [0, 1]) rfl (by decide))
    · exact qE_sub (qsubL [0] rfl (ks := [0, 1]) rfl (by decide))
noncomputable def L_X6_readTarget_89 (en : pN) (d : Nat) (v1 : Int32) (vs0 : Int32) (s : qS) : Option qR := qE (qev en d) en (some .int) tb_X6_readTarget (89, [(0, .ref 65), (1, .int v1)], [.int vs0]) s
set_option maxRecDepth 100000 in
set_option maxHeartbeats 4000000 in
theorem le_X6_readTarget_89 (en : pN) (d : Nat) (v1 : Int32) (vs0 : Int32) (s : qS) : qle (bI (qev en d 85 [.int vs0] s) (fun w1 s2 => if ¬ w1 = (0 : Int32) then gd (p_inB v1 100 = true) (nm (uI s2 20 (v1.toNatClampNeg) vs0) (fun s6 => bV (qev en d 167 [.ref 1] s6) (fun s8 => some (some (.int (1 : Int32)), s8)))) else some (some (.int (0 : Int32)), s2))) (L_X6_readTarget_89 en d v1 vs0 s) := by
  show qle _ (qE (qev en d) en (some .int) tb_X6_readTarget (89, [(0, .ref 65), (1, .int v1)], [.int vs0]) s)
  refine e_L 2 (f' := (91, [(3, .int vs0), (0, .ref 65), (1, .int v1)], [.int vs0])) rfl ?_
  refine e_sI 85 rfl rfl rfl ix_X5_isCell rfl (Nat.le_of_ble_eq_true rfl) (fun w1 s2 e3 => ?_)
  refine e_ifz 99 rfl rfl rfl (fun c4 => ?_) (fun c4 => ?_)
  · refine e_L 1 (f' := (100, [(3, .int vs0), (0, .ref 65), (1, .int v1)], [.ref 65])) rfl ?_
    refine e_gR (q := 11) 6 1 rfl rfl lc_65 lr_65_1 ?_
    refine e_gR (q := 17) 5 6 rfl rfl lc_11 lr_11_6 ?_
    refine e_L 1 (f' := (107, [(3, .int vs0), (0, .ref 65), (1, .int v1)], [.int (2 : Int32), .ref 17])) rfl ?_
    refine e_aal (n := 18) (q := 20) rfl lc_17 ln_17 (by decide +kernel) (by decide +kernel) ?_
    refine e_L 2 (f' := (110, [(3, .int vs0), (0, .ref 65), (1, .int v1)], [.int vs0, .int v1, .ref 20])) rfl ?_
    refine qle_gd fun h5 => ?_
    refine e_ias (n := 100) (k := v1.toNatClampNeg) rfl lc_20 ln_20 h5 rfl ?_
    refine e_nS fun s6 => ?_
    refine e_L 1 (f' := (112, [(3, .int vs0), (0, .ref 65), (1, .int v1)], [.ref 65])) rfl ?_
    refine e_gR (q := 1) 6 0 rfl rfl lc_65 lr_65_0 ?_
    refine e_vV 167 rfl rfl ix_X9_advance rfl (q_recvOf lc_1 rfl) (Nat.le_of_ble_eq_true rfl) (fun s8 e9 => ?_)
    refine e_L 1 (f' := (119, [(3, .int vs0), (0, .ref 65), (1, .int v1)], [.int (1 : Int32)])) rfl ?_
    exact e_rI rfl rfl
  · refine e_L 1 (f' := (98, [(3, .int vs0), (0, .ref 65), (1, .int v1)], [.int (0 : Int32)])) rfl ?_
    exact e_rI rfl rfl
set_option maxRecDepth 100000 in
set_option maxHeartbeats 4000000 in
theorem le_X6_readTarget (en : pN) (d : Nat) (a1 : Int32) (s : qS) : qle (bI (qev en d 84 [.ref 11, .long (s.2.1 1 11)] s) (fun w1 s2 => bI (qev en d 85 [.int w1] s2) (fun w4 s5 => if w4 = (0 : Int32) then bV (qev en d 127 [.ref 65, .int a1] s5) (fun s9 => bV (qev en d 115 [.ref 65, .int (61 : Int32)] s9) (fun s12 => if ¬ (s12.1 1 9) = (2 : Int32) then L_X6_readTarget_89 en d a1 (-1 : Int32) s12 else bI (qev en d 84 [.ref 11, .long (s12.2.1 1 11)] s12) (fun w15 s16 => L_X6_readTarget_89 en d a1 w15 s16))) else gd (p_inB a1 100 = true) (nm (uI s5 20 (a1.toNatClampNeg) w1) (fun s19 => bV (qev en d 167 [.ref 1] s19) (fun s21 => bV (qev en d 115 [.ref 65, .int (61 : Int32)] s21) (fun s24 => some (some (.int (2 : Int32)), s24)))))))) (qev en (d + 1) 126 [.ref 65, .int a1] s) := by
  refine e_enter ix_X6_readTarget (Nat.le_of_ble_eq_true rfl) ?_
  show qle _ (qE (qev en d) en (some .int) tb_X6_readTarget (0, [(0, .ref 65), (1, .int a1)], []) s)
  refine e_L 1 (f' := (1, [(0, .ref 65), (1, .int a1)], [.ref 65])) rfl ?_
  refine e_gR (q := 11) 6 1 rfl rfl lc_65 lr_65_1 ?_
  refine e_L 1 (f' := (5, [(0, .ref 65), (1, .int a1)], [.ref 65, .ref 11])) rfl ?_
  refine e_gR (q := 1) 6 0 rfl rfl lc_65 lr_65_0 ?_
  refine e_gJ 9 11 rfl rfl lc_1 ?_
  refine e_vI 84 rfl rfl ix_X5_named rfl (q_recvOf lc_11 rfl) (Nat.le_of_ble_eq_true rfl) (fun w1 s2 e3 => ?_)
  refine e_L 2 (f' := (16, [(2, .int w1), (0, .ref 65), (1, .int a1)], [.int w1])) rfl ?_
  refine e_sI 85 rfl rfl rfl ix_X5_isCell rfl (Nat.le_of_ble_eq_true rfl) (fun w4 s5 e6 => ?_)
  refine e_ifz 49 rfl rfl rfl (fun c7 => ?_) (fun c7 => ?_)
  · refine e_L 2 (f' := (51, [(2, .int w1), (0, .ref 65), (1, .int a1)], [.int a1, .ref 65])) rfl ?_
    refine e_vV 127 rfl rfl ix_X6_readLocal rfl (q_recvOf lc_65 rfl) (Nat.le_of_ble_eq_true rfl) (fun s9 e10 => ?_)
    refine e_L 2 (f' := (57, [(2, .int w1), (0, .ref 65), (1, .int a1)], [.int (61 : Int32), .ref 65])) rfl ?_
    refine e_vV 115 rfl rfl ix_X6_need rfl (q_recvOf lc_65 rfl) (Nat.le_of_ble_eq_true rfl) (fun s12 e13 => ?_)
    refine e_L 1 (f' := (61, [(2, .int w1), (0, .ref 65), (1, .int a1)], [.ref 65])) rfl ?_
    refine e_gR (q := 1) 6 0 rfl rfl lc_65 lr_65_0 ?_
    refine e_gI 9 9 rfl rfl lc_1 ?_
    refine e_L 1 (f' := (68, [(2, .int w1), (0, .ref 65), (1, .int a1)], [.int (2 : Int32), .int (s12.1 1 9)])) rfl ?_
    refine e_icmp 88 rfl rfl rfl (fun c14 => ?_) (fun c14 => ?_)
    · refine e_L 1 (f' := (89, [(2, .int w1), (0, .ref 65), (1, .int a1)], [.int (-1 : Int32)])) rfl ?_
      exact qE_sub (qsubL [1, 2] rfl (ks := [2, 0, 1]) rfl (by decide))
    · refine e_L 1 (f' := (72, [(2, .int w1), (0, .ref 65), (1, .int a1)], [.ref 65])) rfl ?_
      refine e_gR (q := 11) 6 1 rfl rfl lc_65 lr_65_1 ?_
      refine e_L 1 (f' := (76, [(2, .int w1), (0, .ref 65), (1, .int a1)], [.ref 65, .ref 11])) rfl ?_
      refine e_gR (q := 1) 6 0 rfl rfl lc_65 lr_65_0 ?_
      refine e_gJ 9 11 rfl rfl lc_1 ?_
      refine e_vI 84 rfl rfl ix_X5_named rfl (q_recvOf lc_11 rfl) (Nat.le_of_ble_eq_true rfl) (fun w15 s16 e17 => ?_)
      refine e_L 1 (f' := (89, [(2, .int w1), (0, .ref 65), (1, .int a1)], [.int w15])) rfl ?_
      exact qE_sub (qsubL [1, 2] rfl (ks := [2, 0, 1]) rfl (by decide))
  · refine e_L 1 (f' := (23, [(2, .int w1), (0, .ref 65), (1, .int a1)], [.ref 65])) rfl ?_
    refine e_gR (q := 11) 6 1 rfl rfl lc_65 lr_65_1 ?_
    refine e_gR (q := 17) 5 6 rfl rfl lc_11 lr_11_6 ?_
    refine e_L 1 (f' := (30, [(2, .int w1), (0, .ref 65), (1, .int a1)], [.int (2 : Int32), .ref 17])) rfl ?_
    refine e_aal (n := 18) (q := 20) rfl lc_17 ln_17 (by decide +kernel) (by decide +kernel) ?_
    refine e_L 2 (f' := (33, [(2, .int w1), (0, .ref 65), (1, .int a1)], [.int w1, .int a1, .ref 20])) rfl ?_
    refine qle_gd fun h18 => ?_
    refine e_ias (n := 100) (k := a1.toNatClampNeg) rfl lc_20 ln_20 h18 rfl ?_
    refine e_nS fun s19 => ?_
    refine e_L 1 (f' := (35, [(2, .int w1), (0, .ref 65), (1, .int a1)], [.ref 65])) rfl ?_
    refine e_gR (q := 1) 6 0 rfl rfl lc_65 lr_65_0 ?_
    refine e_vV 167 rfl rfl ix_X9_advance rfl (q_recvOf lc_1 rfl) (Nat.le_of_ble_eq_true rfl) (fun s21 e22 => ?_)
    refine e_L 2 (f' := (44, [(2, .int w1), (0, .ref 65), (1, .int a1)], [.int (61 : Int32), .ref 65])) rfl ?_
    refine e_vV 115 rfl rfl ix_X6_need rfl (q_recvOf lc_65 rfl) (Nat.le_of_ble_eq_true rfl) (fun s24 e25 => ?_)
    refine e_L 1 (f' := (48, [(2, .int w1), (0, .ref 65), (1, .int a1)], [.int (2 : Int32)])) rfl ?_
    exact e_rI rfl rfl
set_option maxRecDepth 100000 in
set_option maxHeartbeats 4000000 in
theorem le_X6_readLocal (en : pN) (d : Nat) (a1 : Int32) (s : qS) : qle (bI (qev en d 128 [.ref 65] s) (fun w1 s2 => if w1 < (0 : Int32) then some (none, s2) else gd (p_inB a1 100 = true) (nm (uI s2 21 (a1.toNatClampNeg) w1) (fun s6 => bV (qev en d 167 [.ref 1] s6) (fun s8 => some (none, s8)))))) (qev en (d + 1) 127 [.ref 65, .int a1] s) := by
  refine e_enter ix_X6_readLocal (Nat.le_of_ble_eq_true rfl) ?_
  show qle _ (qE (qev en d) en none tb_X6_readLocal (0, [(0, .ref 65), (1, .int a1)], []) s)
  refine e_L 1 (f' := (1, [(0, .ref 65), (1, .int a1)], [.ref 65])) rfl ?_
  refine e_vI 128 rfl rfl ix_X6_localHere rfl (q_recvOf lc_65 rfl) (Nat.le_of_ble_eq_true rfl) (fun w1 s2 e3 => ?_)
  refine e_L 2 (f' := (6, [(2, .int w1), (0, .ref 65), (1, .int a1)], [.int w1])) rfl ?_
  refine e_ifz 28 rfl rfl rfl (fun c4 => ?_) (fun c4 => ?_)
  · exact e_rV rfl rfl
  · refine e_L 1 (f' := (10, [(2, .int w1), (0, .ref 65), (1, .int a1)], [.ref 65])) rfl ?_
    refine e_gR (q := 11) 6 1 rfl rfl lc_65 lr_65_1 ?_
    refine e_gR (q := 17) 5 6 rfl rfl lc_11 lr_11_6 ?_
    refine e_L 1 (f' := (17, [(2, .int w1), (0, .ref 65), (1, .int a1)], [.int (3 : Int32), .ref 17])) rfl ?_
    refine e_aal (n := 18) (q := 21) rfl lc_17 ln_17 (by decide +kernel) (by decide +kernel) ?_
    refine e_L 2 (f' := (20, [(2, .int w1), (0, .ref 65), (1, .int a1)], [.int w1, .int a1, .ref 21])) rfl ?_
    refine qle_gd fun h5 => ?_
    refine e_ias (n := 100) (k := a1.toNatClampNeg) rfl lc_21 ln_21 h5 rfl ?_
    refine e_nS fun s6 => ?_
    refine e_L 1 (f' := (22, [(2, .int w1), (0, .ref 65), (1, .int a1)], [.ref 65])) rfl ?_
    refine e_gR (q := 1) 6 0 rfl rfl lc_65 lr_65_0 ?_
    refine e_vV 167 rfl rfl ix_X9_advance rfl (q_recvOf lc_1 rfl) (Nat.le_of_ble_eq_true rfl) (fun s8 e9 => ?_)
    exact e_rV rfl rfl
set_option maxRecDepth 100000 in
set_option maxHeartbeats 4000000 in
theorem le_X6_localHere (en : pN) (d : Nat) (s : qS) : qle (gd (p_inB (s.1 65 14) 4 = true) (bI (qev en d 83 [.ref 13, .int ((s.1 65 14) * (6 : Int32)), .int (s.1 14 (s.1 65 14).toNatClampNeg), .long (s.2.1 1 11)] s) (fun w2 s3 => if w2 < (0 : Int32) then gd (p_inB (s3.1 65 14) 4 = true) (if (s3.1 14 (s3.1 65 14).toNatClampNeg) < (6 : Int32) then bI (qev en d 98 [.ref 11, .int (s3.1 65 14), .long (s3.2.1 1 11)] s3) (fun w8 s9 => some (some (.int w8), s9)) else bV (qev en d 114 [.ref 65, .int (4 : Int32)] s3) (fun s12 => some (some (.int (-1 : Int32)), s12))) else some (some (.int w2), s3)))) (qev en (d + 1) 128 [.ref 65] s) := by
  refine e_enter ix_X6_localHere (Nat.le_of_ble_eq_true rfl) ?_
  show qle _ (qE (qev en d) en (some .int) tb_X6_localHere (0, [(0, .ref 65)], []) s)
  refine e_L 1 (f' := (1, [(0, .ref 65)], [.ref 65])) rfl ?_
  refine e_gR (q := 11) 6 1 rfl rfl lc_65 lr_65_1 ?_
  refine e_gR (q := 13) 5 2 rfl rfl lc_11 lr_11_2 ?_
  refine e_L 1 (f' := (8, [(0, .ref 65)], [.ref 65, .ref 13])) rfl ?_
  refine e_gI 6 14 rfl rfl lc_65 ?_
  refine e_L 3 (f' := (15, [(0, .ref 65)], [.ref 65, .int ((s.1 65 14) * (6 : Int32)), .ref 13])) rfl ?_
  refine e_gR (q := 11) 6 1 rfl rfl lc_65 lr_65_1 ?_
  refine e_gR (q := 14) 5 3 rfl rfl lc_11 lr_11_3 ?_
  refine e_L 1 (f' := (22, [(0, .ref 65)], [.ref 65, .ref 14, .int ((s.1 65 14) * (6 : Int32)), .ref 13])) rfl ?_
  refine e_gI 6 14 rfl rfl lc_65 ?_
  refine qle_gd fun h1 => ?_
  refine e_ial (n := 4) (k := (s.1 65 14).toNatClampNeg) rfl lc_14 ln_14 h1 rfl ?_
  refine e_L 1 (f' := (27, [(0, .ref 65)], [.ref 65, .int (s.1 14 (s.1 65 14).toNatClampNeg), .int ((s.1 65 14) * (6 : Int32)), .ref 13])) rfl ?_
  refine e_gR (q := 1) 6 0 rfl rfl lc_65 lr_65_0 ?_
  refine e_gJ 9 11 rfl rfl lc_1 ?_
  refine e_sI 83 rfl rfl rfl ix_X5_find rfl (Nat.le_of_ble_eq_true rfl) (fun w2 s3 e4 => ?_)
  refine e_L 2 (f' := (38, [(1, .int w2), (0, .ref 65)], [.int w2])) rfl ?_
  refine e_ifz 43 rfl rfl rfl (fun c5 => ?_) (fun c5 => ?_)
  · refine e_L 1 (f' := (44, [(1, .int w2), (0, .ref 65)], [.ref 65])) rfl ?_
    refine e_gR (q := 11) 6 1 rfl rfl lc_65 lr_65_1 ?_
    refine e_gR (q := 14) 5 3 rfl rfl lc_11 lr_11_3 ?_
    refine e_L 1 (f' := (51, [(1, .int w2), (0, .ref 65)], [.ref 65, .ref 14])) rfl ?_
    refine e_gI 6 14 rfl rfl lc_65 ?_
    refine qle_gd fun h6 => ?_
    refine e_ial (n := 4) (k := (s3.1 65 14).toNatClampNeg) rfl lc_14 ln_14 h6 rfl ?_
    refine e_L 1 (f' := (57, [(1, .int w2), (0, .ref 65)], [.int (6 : Int32), .int (s3.1 14 (s3.1 65 14).toNatClampNeg)])) rfl ?_
    refine e_icmp 67 rfl rfl rfl (fun c7 => ?_) (fun c7 => ?_)
    · refine e_L 1 (f' := (68, [(1, .int w2), (0, .ref 65)], [.ref 65])) rfl ?_
      refine e_gR (q := 11) 6 1 rfl rfl lc_65 lr_65_1 ?_
      refine e_L 1 (f' := (72, [(1, .int w2), (0, .ref 65)], [.ref 65, .ref 11])) rfl ?_
      refine e_gI 6 14 rfl rfl lc_65 ?_
      refine e_L 1 (f' := (76, [(1, .int w2), (0, .ref 65)], [.ref 65, .int (s3.1 65 14), .ref 11])) rfl ?_
      refine e_gR (q := 1) 6 0 rfl rfl lc_65 lr_65_0 ?_
      refine e_gJ 9 11 rfl rfl lc_1 ?_
      refine e_vI 98 rfl rfl ix_X5_addLocal rfl (q_recvOf lc_11 rfl) (Nat.le_of_ble_eq_true rfl) (fun w8 s9 e10 => ?_)
      exact e_rI rfl rfl
    · refine e_L 2 (f' := (62, [(1, .int w2), (0, .ref 65)], [.int (4 : Int32), .ref 65])) rfl ?_
      refine e_vV 114 rfl rfl ix_X6_blame rfl (q_recvOf lc_65 rfl) (Nat.le_of_ble_eq_true rfl) (fun s12 e13 => ?_)
      refine e_L 1 (f' := (66, [(1, .int w2), (0, .ref 65)], [.int (-1 : Int32)])) rfl ?_
      exact e_rI rfl rfl
  · refine e_L 1 (f' := (42, [(1, .int w2), (0, .ref 65)], [.int w2])) rfl ?_
    exact e_rI rfl rfl
noncomputable def L_X6_readObject_29 (en : pN) (d : Nat) (v1 : Int32) (v2 : Int32) (vs0 : Int32) (s : qS) : Option qR := qE (qev en d) en none tb_X6_readObject (29, [(0, .ref 65), (1, .int v1), (2, .int v2)], [.int vs0]) s
noncomputable def L_X6_readObject_40 (en : pN) (d : Nat) (v1 : Int32) (v3 : Int32) (s : qS) : Option qR := qE (qev en d) en none tb_X6_readObject (40, [(0, .ref 65), (1, .int v1), (3, .int v3)], []) s
noncomputable def L_X6_readObject_86 (en : pN) (d : Nat) (v1 : Int32) (v2 : Int32) (s : qS) : Option qR := qE (qev en d) en none tb_X6_readObject (86, [(0, .ref 65), (1, .int v1), (2, .int v2)], []) s
noncomputable def L_X6_readObject_98 (en : pN) (d : Nat) (v1 : Int32) (s : qS) : Option qR := qE (qev en d) en none tb_X6_readObject (98, [(0, .ref 65), (1, .int v1)], []) s
set_option maxRecDepth 100000 in
set_option maxHeartbeats 4000000 in
theorem le_X6_readObject_29 (en : pN) (d : Nat) (v1 : Int32) (v2 : Int32) (vs0 : Int32) (s : qS) : qle (if v2 = (3 : Int32) then L_X6_readObject_40 en d v1 vs0 s else if ¬ v2 = (4 : Int32) then if v2 < (5 : Int32) then L_X6_readObject_86 en d v1 v2 s else if (9 : Int32) < v2 then L_X6_readObject_86 en d v1 v2 s else bI (qev en d 86 [.int vs0] s) (fun w5 s6 => bV (qev en d 130 [.ref 65, .int v1, .int w5, .int (vs0 - (8 : Int32))] s6) (fun s9 => some (none, s9))) else L_X6_readObject_40 en d v1 vs0 s) (L_X6_readObject_29 en d v1 v2 vs0 s) := by
  show qle _ (qE (qev en d) en none tb_X6_readObject (29, [(0, .ref 65), (1, .int v1), (2, .int v2)], [.int vs0]) s)
  refine e_L 3 (f' := (32, [(3, .int vs0), (0, .ref 65), (1, .int v1), (2, .int v2)], [.int (3 : Int32), .int v2])) rfl ?_
  refine e_icmp 40 rfl rfl rfl (fun c1 => ?_) (fun c1 => ?_)
  · exact qE_sub (qsubL [1, 2, 0] rfl (ks := [3, 0, 1, 2]) rfl (by decide))
  · refine e_L 2 (f' := (37, [(3, .int vs0), (0, .ref 65), (1, .int v1), (2, .int v2)], [.int (4 : Int32), .int v2])) rfl ?_
    refine e_icmp 59 rfl rfl rfl (fun c2 => ?_) (fun c2 => ?_)
    · refine e_L 2 (f' := (61, [(3, .int vs0), (0, .ref 65), (1, .int v1), (2, .int v2)], [.int (5 : Int32), .int v2])) rfl ?_
      refine e_icmp 86 rfl rfl rfl (fun c3 => ?_) (fun c3 => ?_)
      · exact qE_sub (qsubL [1, 2, 3] rfl (ks := [3, 0, 1, 2]) rfl (by decide))
      · refine e_L 2 (f' := (67, [(3, .int vs0), (0, .ref 65), (1, .int v1), (2, .int v2)], [.int (9 : Int32), .int v2])) rfl ?_
        refine e_icmp 86 rfl rfl rfl (fun c4 => ?_) (fun c4 => ?_)
        · exact qE_sub (qsubL [1, 2, 3] rfl (ks := [3, 0, 1, 2]) rfl (by decide))
        · refine e_L 3 (f' := (73, [(3, .int vs0), (0, .ref 65), (1, .int v1), (2, .int v2)], [.int vs0, .int v1, .ref 65])) rfl ?_
          refine e_sI 86 rfl rfl rfl ix_X5_isLock rfl (Nat.le_of_ble_eq_true rfl) (fun w5 s6 e7 => ?_)
          refine e_L 3 (f' := (80, [(3, .int vs0), (0, .ref 65), (1, .int v1), (2, .int v2)], [.int (vs0 - (8 : Int32)), .int w5, .int v1, .ref 65])) rfl ?_
          refine e_vV 130 rfl rfl ix_X6_needName rfl (q_recvOf lc_65 rfl) (Nat.le_of_ble_eq_true rfl) (fun s9 e10 => ?_)
          refine e_L 1 (f' := (172, [(3, .int vs0), (0, .ref 65), (1, .int v1), (2, .int v2)], [])) rfl ?_
          exact e_rV rfl rfl
    · exact qE_sub (qsubL [1, 2, 0] rfl (ks := [3, 0, 1, 2]) rfl (by decide))
set_option maxRecDepth 100000 in
set_option maxHeartbeats 4000000 in
theorem le_X6_readObject_40 (en : pN) (d : Nat) (v1 : Int32) (v3 : Int32) (s : qS) : qle (bI (qev en d 85 [.int v3] s) (fun w1 s2 => bV (qev en d 130 [.ref 65, .int v1, .int w1, .int v3] s2) (fun s5 => bV (qev en d 115 [.ref 65, .int (44 : Int32)] s5) (fun s8 => some (none, s8))))) (L_X6_readObject_40 en d v1 v3 s) := by
  show qle _ (qE (qev en d) en none tb_X6_readObject (40, [(0, .ref 65), (1, .int v1), (3, .int v3)], []) s)
  refine e_L 3 (f' := (43, [(0, .ref 65), (1, .int v1), (3, .int v3)], [.int v3, .int v1, .ref 65])) rfl ?_
  refine e_sI 85 rfl rfl rfl ix_X5_isCell rfl (Nat.le_of_ble_eq_true rfl) (fun w1 s2 e3 => ?_)
  refine e_L 1 (f' := (47, [(0, .ref 65), (1, .int v1), (3, .int v3)], [.int v3, .int w1, .int v1, .ref 65])) rfl ?_
  refine e_vV 130 rfl rfl ix_X6_needName rfl (q_recvOf lc_65 rfl) (Nat.le_of_ble_eq_true rfl) (fun s5 e6 => ?_)
  refine e_L 2 (f' := (53, [(0, .ref 65), (1, .int v1), (3, .int v3)], [.int (44 : Int32), .ref 65])) rfl ?_
  refine e_vV 115 rfl rfl ix_X6_need rfl (q_recvOf lc_65 rfl) (Nat.le_of_ble_eq_true rfl) (fun s8 e9 => ?_)
  refine e_L 1 (f' := (172, [(0, .ref 65), (1, .int v1), (3, .int v3)], [])) rfl ?_
  exact e_rV rfl rfl
set_option maxRecDepth 100000 in
set_option maxHeartbeats 4000000 in
theorem le_X6_readObject_86 (en : pN) (d : Nat) (v1 : Int32) (v2 : Int32) (s : qS) : qle (if v2 = (10 : Int32) then L_X6_readObject_98 en d v1 s else if ¬ v2 = (11 : Int32) then if ¬ v2 = (15 : Int32) then some (none, s) else bI (qev en d 83 [.ref 66, .int (0 : Int32), .int (7 : Int32), .long (s.2.1 1 11)] s) (fun w4 s5 => gd (p_inB v1 100 = true) (nm (uI s5 27 (v1.toNatClampNeg) w4) (fun s8 => bV (qev en d 115 [.ref 65, .int (2 : Int32)] s8) (fun s10 => some (none, s10))))) else L_X6_readObject_98 en d v1 s) (L_X6_readObject_86 en d v1 v2 s) := by
  show qle _ (qE (qev en d) en none tb_X6_readObject (86, [(0, .ref 65), (1, .int v1), (2, .int v2)], []) s)
  refine e_L 2 (f' := (89, [(0, .ref 65), (1, .int v1), (2, .int v2)], [.int (10 : Int32), .int v2])) rfl ?_
  refine e_icmp 98 rfl rfl rfl (fun c1 => ?_) (fun c1 => ?_)
  · exact qE_sub (qsubL [0, 1] rfl (ks := [0, 1, 2]) rfl (by decide))
  · refine e_L 2 (f' := (95, [(0, .ref 65), (1, .int v1), (2, .int v2)], [.int (11 : Int32), .int v2])) rfl ?_
    refine e_icmp 132 rfl rfl rfl (fun c2 => ?_) (fun c2 => ?_)
    · refine e_L 2 (f' := (135, [(0, .ref 65), (1, .int v1), (2, .int v2)], [.int (15 : Int32), .int v2])) rfl ?_
      refine e_icmp 172 rfl rfl rfl (fun c3 => ?_) (fun c3 => ?_)
      · exact e_rV rfl rfl
      · refine e_L 1 (f' := (139, [(0, .ref 65), (1, .int v1), (2, .int v2)], [.ref 65])) rfl ?_
        refine e_gR (q := 11) 6 1 rfl rfl lc_65 lr_65_1 ?_
        refine e_gR (q := 17) 5 6 rfl rfl lc_11 lr_11_6 ?_
        refine e_L 1 (f' := (147, [(0, .ref 65), (1, .int v1), (2, .int v2)], [.int (9 : Int32), .ref 17])) rfl ?_
        refine e_aal (n := 18) (q := 27) rfl lc_17 ln_17 (by decide +kernel) (by decide +kernel) ?_
        refine e_L 2 (f' := (150, [(0, .ref 65), (1, .int v1), (2, .int v2)], [.ref 65, .int v1, .ref 27])) rfl ?_
        refine e_gR (q := 66) 6 3 rfl rfl lc_65 lr_65_3 ?_
        refine e_L 3 (f' := (157, [(0, .ref 65), (1, .int v1), (2, .int v2)], [.ref 65, .int (7 : Int32), .int (0 : Int32), .ref 66, .int v1, .ref 27])) rfl ?_
        refine e_gR (q := 1) 6 0 rfl rfl lc_65 lr_65_0 ?_
        refine e_gJ 9 11 rfl rfl lc_1 ?_
        refine e_sI 83 rfl rfl rfl ix_X5_find rfl (Nat.le_of_ble_eq_true rfl) (fun w4 s5 e6 => ?_)
        refine qle_gd fun h7 => ?_
        refine e_ias (n := 100) (k := v1.toNatClampNeg) rfl lc_27 ln_27 h7 rfl ?_
        refine e_nS fun s8 => ?_
        refine e_L 2 (f' := (169, [(0, .ref 65), (1, .int v1), (2, .int v2)], [.int (2 : Int32), .ref 65])) rfl ?_
        refine e_vV 115 rfl rfl ix_X6_need rfl (q_recvOf lc_65 rfl) (Nat.le_of_ble_eq_true rfl) (fun s10 e11 => ?_)
        exact e_rV rfl rfl
    · exact qE_sub (qsubL [0, 1] rfl (ks := [0, 1, 2]) rfl (by decide))
set_option maxRecDepth 100000 in
set_option maxHeartbeats 4000000 in
theorem le_X6_readObject_98 (en : pN) (d : Nat) (v1 : Int32) (s : qS) : qle (gd (p_inB v1 100 = true) (nm (uJ s 67 (v1.toNatClampNeg) (s.2.1 1 11)) (fun s2 => nm (uI s2 68 (v1.toNatClampNeg) (s2.1 1 10)) (fun s3 => bV (qev en d 115 [.ref 65, .int (2 : Int32)] s3) (fun s5 => some (none, s5)))))) (L_X6_readObject_98 en d v1 s) := by
  show qle _ (qE (qev en d) en none tb_X6_readObject (98, [(0, .ref 65), (1, .int v1)], []) s)
  refine e_L 1 (f' := (99, [(0, .ref 65), (1, .int v1)], [.ref 65])) rfl ?_
  refine e_gR (q := 67) 6 4 rfl rfl lc_65 lr_65_4 ?_
  refine e_L 2 (f' := (104, [(0, .ref 65), (1, .int v1)], [.ref 65, .int v1, .ref 67])) rfl ?_
  refine e_gR (q := 1) 6 0 rfl rfl lc_65 lr_65_0 ?_
  refine e_gJ 9 11 rfl rfl lc_1 ?_
  refine qle_gd fun h1 => ?_
  refine e_las (n := 100) (k := v1.toNatClampNeg) rfl lc_67 ln_67 h1 rfl ?_
  refine e_nS fun s2 => ?_
  refine e_L 1 (f' := (112, [(0, .ref 65), (1, .int v1)], [.ref 65])) rfl ?_
  refine e_gR (q := 68) 6 5 rfl rfl lc_65 lr_65_5 ?_
  refine e_L 2 (f' := (117, [(0, .ref 65), (1, .int v1)], [.ref 65, .int v1, .ref 68])) rfl ?_
  refine e_gR (q := 1) 6 0 rfl rfl lc_65 lr_65_0 ?_
  refine e_gI 9 10 rfl rfl lc_1 ?_
  refine e_ias (n := 100) (k := v1.toNatClampNeg) rfl lc_68 ln_68 h1 rfl ?_
  refine e_nS fun s3 => ?_
  refine e_L 2 (f' := (126, [(0, .ref 65), (1, .int v1)], [.int (2 : Int32), .ref 65])) rfl ?_
  refine e_vV 115 rfl rfl ix_X6_need rfl (q_recvOf lc_65 rfl) (Nat.le_of_ble_eq_true rfl) (fun s5 e6 => ?_)
  refine e_L 1 (f' := (172, [(0, .ref 65), (1, .int v1)], [])) rfl ?_
  exact e_rV rfl rfl
set_option maxRecDepth 100000 in
set_option maxHeartbeats 4000000 in
theorem le_X6_readObject (en : pN) (d : Nat) (a1 : Int32) (a2 : Int32) (s : qS) : qle (if ¬ (s.1 1 9) = (2 : Int32) then L_X6_readObject_29 en d a1 a2 (-1 : Int32) s else bI (qev en d 84 [.ref 11, .long (s.2.1 1 11)] s) (fun w2 s3 => L_X6_readObject_29 en d a1 a2 w2 s3)) (qev en (d + 1) 129 [.ref 65, .int a1, .int a2] s) := by
  refine e_enter ix_X6_readObject (Nat.le_of_ble_eq_true rfl) ?_
  show qle _ (qE (qev en d) en none tb_X6_readObject (0, [(0, .ref 65), (1, .int a1), (2, .int a2)], []) s)
  refine e_L 1 (f' := (1, [(0, .ref 65), (1, .int a1), (2, .int a2)], [.ref 65])) rfl ?_
  refine e_gR (q := 1) 6 0 rfl rfl lc_65 lr_65_0 ?_
  refine e_gI 9 9 rfl rfl lc_1 ?_
  refine e_L 1 (f' := (8, [(0, .ref 65), (1, .int a1), (2, .int a2)], [.int (2 : Int32), .int (s.1 1 9)])) rfl ?_
  refine e_icmp 28 rfl rfl rfl (fun c1 => ?_) (fun c1 => ?_)
  · refine e_L 1 (f' := (29, [(0, .ref 65), (1, .int a1), (2, .int a2)], [.int (-1 : Int32)])) rfl ?_
    exact qE_sub (qsubL [0, 1, 2] rfl (ks := [0, 1, 2]) rfl (by decide))
  · refine e_L 1 (f' := (12, [(0, .ref 65), (1, .int a1), (2, .int a2)], [.ref 65])) rfl ?_
    refine e_gR (q := 11) 6 1 rfl rfl lc_65 lr_65_1 ?_
    refine e_L 1 (f' := (16, [(0, .ref 65), (1, .int a1), (2, .int a2)], [.ref 65, .ref 11])) rfl ?_
    refine e_gR (q := 1) 6 0 rfl rfl lc_65 lr_65_0 ?_
    refine e_gJ 9 11 rfl rfl lc_1 ?_
    refine e_vI 84 rfl rfl ix_X5_named rfl (q_recvOf lc_11 rfl) (Nat.le_of_ble_eq_true rfl) (fun w2 s3 e4 => ?_)
    refine e_L 1 (f' := (29, [(0, .ref 65), (1, .int a1), (2, .int a2)], [.int w2])) rfl ?_
    exact qE_sub (qsubL [0, 1, 2] rfl (ks := [0, 1, 2]) rfl (by decide))
noncomputable def L_X6_needName_20 (en : pN) (d : Nat) (v1 : Int32) (v3 : Int32) (s : qS) : Option qR := qE (qev en d) en none tb_X6_needName (20, [(0, .ref 65), (1, .int v1), (3, .int v3)], []) s
set_option maxRecDepth 100000 in
set_option maxHeartbeats 4000000 in
theorem le_X6_needName_20 (en : pN) (d : Nat) (v1 : Int32) (v3 : Int32) (s : qS) : qle (gd (p_inB v1 100 = true) (nm (uI s 20 (v1.toNatClampNeg) v3) (fun s2 => bV (qev en d 115 [.ref 65, .int (2 : Int32)] s2) (fun s4 => some (none, s4))))) (L_X6_needName_20 en d v1 v3 s) := by
  show qle _ (qE (qev en d) en none tb_X6_needName (20, [(0, .ref 65), (1, .int v1), (3, .int v3)], []) s)
  refine e_L 1 (f' := (21, [(0, .ref 65), (1, .int v1), (3, .int v3)], [.ref 65])) rfl ?_
  refine e_gR (q := 11) 6 1 rfl rfl lc_65 lr_65_1 ?_
  refine e_gR (q := 17) 5 6 rfl rfl lc_11 lr_11_6 ?_
  refine e_L 1 (f' := (28, [(0, .ref 65), (1, .int v1), (3, .int v3)], [.int (2 : Int32), .ref 17])) rfl ?_
  refine e_aal (n := 18) (q := 20) rfl lc_17 ln_17 (by decide +kernel) (by decide +kernel) ?_
  refine e_L 2 (f' := (31, [(0, .ref 65), (1, .int v1), (3, .int v3)], [.int v3, .int v1, .ref 20])) rfl ?_
  refine qle_gd fun h1 => ?_
  refine e_ias (n := 100) (k := v1.toNatClampNeg) rfl lc_20 ln_20 h1 rfl ?_
  refine e_nS fun s2 => ?_
  refine e_L 2 (f' := (34, [(0, .ref 65), (1, .int v1), (3, .int v3)], [.int (2 : Int32), .ref 65])) rfl ?_
  refine e_vV 115 rfl rfl ix_X6_need rfl (q_recvOf lc_65 rfl) (Nat.le_of_ble_eq_true rfl) (fun s4 e5 => ?_)
  exact e_rV rfl rfl
set_option maxRecDepth 100000 in
set_option maxHeartbeats 4000000 in
theorem le_X6_needName (en : pN) (d : Nat) (a1 : Int32) (a2 : Int32) (a3 : Int32) (s : qS) : qle (if ¬ (s.1 1 9) = (2 : Int32) then L_X6_needName_20 en d a1 a3 s else if ¬ a2 = (0 : Int32) then L_X6_needName_20 en d a1 a3 s else bV (qev en d 114 [.ref 65, .int (3 : Int32)] s) (fun s4 => L_X6_needName_20 en d a1 a3 s4)) (qev en (d + 1) 130 [.ref 65, .int a1, .int a2, .int a3] s) := by
  refine e_enter ix_X6_needName (Nat.le_of_ble_eq_true rfl) ?_
  show qle _ (qE (qev en d) en none tb_X6_needName (0, [(0, .ref 65), (1, .int a1), (2, .int a2), (3, .int a3)], []) s)
  refine e_L 1 (f' := (1, [(0, .ref 65), (1, .int a1), (2, .int a2), (3, .int a3)], [.ref 65])) rfl ?_
  refine e_gR (q := 1) 6 0 rfl rfl lc_65 lr_65_0 ?_
  refine e_gI 9 9 rfl rfl lc_1 ?_
  refine e_L 1 (f' := (8, [(0, .ref 65), (1, .int a1), (2, .int a2), (3, .int a3)], [.int (2 : Int32), .int (s.1 1 9)])) rfl ?_
  refine e_icmp 20 rfl rfl rfl (fun c1 => ?_) (fun c1 => ?_)
  · exact qE_sub (qsubL [0, 1, 3] rfl (ks := [0, 1, 2, 3]) rfl (by decide))
  · refine e_L 1 (f' := (12, [(0, .ref 65), (1, .int a1), (2, .int a2), (3, .int a3)], [.int a2])) rfl ?_
    refine e_ifz 20 rfl rfl rfl (fun c2 => ?_) (fun c2 => ?_)
    · exact qE_sub (qsubL [0, 1, 3] rfl (ks := [0, 1, 2, 3]) rfl (by decide))
    · refine e_L 2 (f' := (17, [(0, .ref 65), (1, .int a1), (2, .int a2), (3, .int a3)], [.int (3 : Int32), .ref 65])) rfl ?_
      refine e_vV 114 rfl rfl ix_X6_blame rfl (q_recvOf lc_65 rfl) (Nat.le_of_ble_eq_true rfl) (fun s4 e5 => ?_)
      exact qE_sub (qsubL [0, 1, 3] rfl (ks := [0, 1, 2, 3]) rfl (by decide))
set_option maxRecDepth 100000 in
set_option maxHeartbeats 4000000 in
theorem le_X6_readInto (en : pN) (d : Nat) (a1 : Int32) (s : qS) : qle (bI (qev en d 116 [.ref 65, .int (321 : Int32)] s) (fun w1 s2 => if ¬ w1 = (0 : Int32) then if (s2.1 1 9) = (2 : Int32) then bI (qev en d 84 [.ref 11, .long (s2.2.1 1 11)] s2) (fun w6 s7 => if w6 < (0 : Int32) then bV (qev en d 127 [.ref 65, .int a1] s7) (fun s11 => some (none, s11)) else bV (qev en d 114 [.ref 65, .int (3 : Int32)] s7) (fun s14 => some (none, s14))) else bV (qev en d 114 [.ref 65, .int (2 : Int32)] s2) (fun s17 => some (none, s17)) else some (none, s2))) (qev en (d + 1) 131 [.ref 65, .int a1] s) := by
  refine e_enter ix_X6_readInto (Nat.le_of_ble_eq_true rfl) ?_
  show qle _ (qE (qev en d) en none tb_X6_readInto (0, [(0, .ref 65), (1, .int a1)], []) s)
  refine e_L 2 (f' := (4, [(0, .ref 65), (1, .int a1)], [.int (321 : Int32), .ref 65])) rfl ?_
  refine e_vI 116 rfl rfl ix_X6_skip rfl (q_recvOf lc_65 rfl) (Nat.le_of_ble_eq_true rfl) (fun w1 s2 e3 => ?_)
  refine e_ifz 11 rfl rfl rfl (fun c4 => ?_) (fun c4 => ?_)
  · refine e_L 1 (f' := (12, [(0, .ref 65), (1, .int a1)], [.ref 65])) rfl ?_
    refine e_gR (q := 1) 6 0 rfl rfl lc_65 lr_65_0 ?_
    refine e_gI 9 9 rfl rfl lc_1 ?_
    refine e_L 1 (f' := (19, [(0, .ref 65), (1, .int a1)], [.int (2 : Int32), .int (s2.1 1 9)])) rfl ?_
    refine e_icmp 30 rfl rfl rfl (fun c5 => ?_) (fun c5 => ?_)
    · refine e_L 1 (f' := (31, [(0, .ref 65), (1, .int a1)], [.ref 65])) rfl ?_
      refine e_gR (q := 11) 6 1 rfl rfl lc_65 lr_65_1 ?_
      refine e_L 1 (f' := (35, [(0, .ref 65), (1, .int a1)], [.ref 65, .ref 11])) rfl ?_
      refine e_gR (q := 1) 6 0 rfl rfl lc_65 lr_65_0 ?_
      refine e_gJ 9 11 rfl rfl lc_1 ?_
      refine e_vI 84 rfl rfl ix_X5_named rfl (q_recvOf lc_11 rfl) (Nat.le_of_ble_eq_true rfl) (fun w6 s7 e8 => ?_)
      refine e_ifz 55 rfl rfl rfl (fun c9 => ?_) (fun c9 => ?_)
      · refine e_L 2 (f' := (57, [(0, .ref 65), (1, .int a1)], [.int a1, .ref 65])) rfl ?_
        refine e_vV 127 rfl rfl ix_X6_readLocal rfl (q_recvOf lc_65 rfl) (Nat.le_of_ble_eq_true rfl) (fun s11 e12 => ?_)
        exact e_rV rfl rfl
      · refine e_L 2 (f' := (49, [(0, .ref 65), (1, .int a1)], [.int (3 : Int32), .ref 65])) rfl ?_
        refine e_vV 114 rfl rfl ix_X6_blame rfl (q_recvOf lc_65 rfl) (Nat.le_of_ble_eq_true rfl) (fun s14 e15 => ?_)
        refine e_L 1 (f' := (60, [(0, .ref 65), (1, .int a1)], [])) rfl ?_
        exact e_rV rfl rfl
    · refine e_L 2 (f' := (24, [(0, .ref 65), (1, .int a1)], [.int (2 : Int32), .ref 65])) rfl ?_
      refine e_vV 114 rfl rfl ix_X6_blame rfl (q_recvOf lc_65 rfl) (Nat.le_of_ble_eq_true rfl) (fun s17 e18 => ?_)
      refine e_L 1 (f' := (60, [(0, .ref 65), (1, .int a1)], [])) rfl ?_
      exact e_rV rfl rfl
  · exact e_rV rfl rfl
noncomputable def L_X6_aimThreads_2 (en : pN) (d : Nat) (v1 : Int32) (s : qS) : Option qR := qE (qev en d) en none tb_X6_aimThreads (2, [(0, .ref 65), (1, .int v1)], []) s
noncomputable def L_X6_aimThreads_44 (en : pN) (d : Nat) (v1 : Int32) (s : qS) : Option qR := qE (qev en d) en none tb_X6_aimThreads (44, [(0, .ref 65), (1, .int v1)], []) s
set_option maxRecDepth 100000 in
set_option maxHeartbeats 4000000 in
theorem le_X6_aimThreads_2 (en : pN) (d : Nat) (v1 : Int32) (s : qS) : qle (if (s.1 11 12) ≤ v1 then some (none, s) else if ¬ (s.1 65 11) = (0 : Int32) then some (none, s) else gd (p_inB v1 100 = true) (nm (s.1 18 v1.toNatClampNeg) (fun z4 => if z4 = (10 : Int32) then L_X6_aimThreads_44 en d v1 s else if ¬ z4 = (11 : Int32) then L_X6_aimThreads_2 en d (v1 + (1 : Int32)) s else L_X6_aimThreads_44 en d v1 s))) (L_X6_aimThreads_2 en d v1 s) := by
  show qle _ (qE (qev en d) en none tb_X6_aimThreads (2, [(0, .ref 65), (1, .int v1)], []) s)
  refine e_L 2 (f' := (4, [(0, .ref 65), (1, .int v1)], [.ref 65, .int v1])) rfl ?_
  refine e_gR (q := 11) 6 1 rfl rfl lc_65 lr_65_1 ?_
  refine e_gI 5 12 rfl rfl lc_11 ?_
  refine e_icmp 101 rfl rfl rfl (fun c1 => ?_) (fun c1 => ?_)
  · exact e_rV rfl rfl
  · refine e_L 1 (f' := (14, [(0, .ref 65), (1, .int v1)], [.ref 65])) rfl ?_
    refine e_gI 6 11 rfl rfl lc_65 ?_
    refine e_ifz 101 rfl rfl rfl (fun c2 => ?_) (fun c2 => ?_)
    · exact e_rV rfl rfl
    · refine e_L 1 (f' := (21, [(0, .ref 65), (1, .int v1)], [.ref 65])) rfl ?_
      refine e_gR (q := 11) 6 1 rfl rfl lc_65 lr_65_1 ?_
      refine e_gR (q := 17) 5 6 rfl rfl lc_11 lr_11_6 ?_
      refine e_L 1 (f' := (28, [(0, .ref 65), (1, .int v1)], [.int (0 : Int32), .ref 17])) rfl ?_
      refine e_aal (n := 18) (q := 18) rfl lc_17 ln_17 (by decide +kernel) (by decide +kernel) ?_
      refine e_L 1 (f' := (30, [(0, .ref 65), (1, .int v1)], [.int v1, .ref 18])) rfl ?_
      refine qle_gd fun h3 => ?_
      refine e_ial (n := 100) (k := v1.toNatClampNeg) rfl lc_18 ln_18 h3 rfl ?_
      refine e_nI fun z4 => ?_
      refine e_L 3 (f' := (35, [(2, .int z4), (0, .ref 65), (1, .int v1)], [.int (10 : Int32), .int z4])) rfl ?_
      refine e_icmp 44 rfl rfl rfl (fun c5 => ?_) (fun c5 => ?_)
      · exact qE_sub (qsubL [1, 2] rfl (ks := [2, 0, 1]) rfl (by decide))
      · refine e_L 2 (f' := (41, [(2, .int z4), (0, .ref 65), (1, .int v1)], [.int (11 : Int32), .int z4])) rfl ?_
        refine e_icmp 95 rfl rfl rfl (fun c6 => ?_) (fun c6 => ?_)
        · refine e_L 2 (f' := (2, [(1, .int (v1 + (1 : Int32))), (2, .int z4), (0, .ref 65)], [])) rfl ?_
          exact qE_sub (qsubL [2, 0] rfl (ks := [1, 2, 0]) rfl (by decide))
        · exact qE_sub (qsubL [1, 2] rfl (ks := [2, 0, 1]) rfl (by decide))
set_option maxRecDepth 100000 in
set_option maxHeartbeats 4000000 in
theorem le_X6_aimThreads_44 (en : pN) (d : Nat) (v1 : Int32) (s : qS) : qle (gd (p_inB v1 100 = true) (bI (qev en d 84 [.ref 11, .long (s.2.1 67 v1.toNatClampNeg)] s) (fun w2 s3 => nm (uI s3 20 (v1.toNatClampNeg) (w2 - (12 : Int32))) (fun s5 => bI (qev en d 87 [.int w2] s5) (fun w6 s7 => if ¬ w6 = (0 : Int32) then L_X6_aimThreads_2 en d (v1 + (1 : Int32)) s7 else nm (uI s7 65 11 (5 : Int32)) (fun s10 => nm (uI s10 65 12 (s10.1 68 v1.toNatClampNeg)) (fun s11 => L_X6_aimThreads_2 en d (v1 + (1 : Int32)) s11))))))) (L_X6_aimThreads_44 en d v1 s) := by
  show qle _ (qE (qev en d) en none tb_X6_aimThreads (44, [(0, .ref 65), (1, .int v1)], []) s)
  refine e_L 1 (f' := (45, [(0, .ref 65), (1, .int v1)], [.ref 65])) rfl ?_
  refine e_gR (q := 11) 6 1 rfl rfl lc_65 lr_65_1 ?_
  refine e_L 1 (f' := (49, [(0, .ref 65), (1, .int v1)], [.ref 65, .ref 11])) rfl ?_
  refine e_gR (q := 67) 6 4 rfl rfl lc_65 lr_65_4 ?_
  refine e_L 1 (f' := (53, [(0, .ref 65), (1, .int v1)], [.int v1, .ref 67, .ref 11])) rfl ?_
  refine qle_gd fun h1 => ?_
  refine e_lal (n := 100) (k := v1.toNatClampNeg) rfl lc_67 ln_67 h1 rfl ?_
  refine e_vI 84 rfl rfl ix_X5_named rfl (q_recvOf lc_11 rfl) (Nat.le_of_ble_eq_true rfl) (fun w2 s3 e4 => ?_)
  refine e_L 2 (f' := (59, [(3, .int w2), (0, .ref 65), (1, .int v1)], [.ref 65])) rfl ?_
  refine e_gR (q := 11) 6 1 rfl rfl lc_65 lr_65_1 ?_
  refine e_gR (q := 17) 5 6 rfl rfl lc_11 lr_11_6 ?_
  refine e_L 1 (f' := (66, [(3, .int w2), (0, .ref 65), (1, .int v1)], [.int (2 : Int32), .ref 17])) rfl ?_
  refine e_aal (n := 18) (q := 20) rfl lc_17 ln_17 (by decide +kernel) (by decide +kernel) ?_
  refine e_L 4 (f' := (72, [(3, .int w2), (0, .ref 65), (1, .int v1)], [.int (w2 - (12 : Int32)), .int v1, .ref 20])) rfl ?_
  refine e_ias (n := 100) (k := v1.toNatClampNeg) rfl lc_20 ln_20 h1 rfl ?_
  refine e_nS fun s5 => ?_
  refine e_L 1 (f' := (74, [(3, .int w2), (0, .ref 65), (1, .int v1)], [.int w2])) rfl ?_
  refine e_sI 87 rfl rfl rfl ix_X5_isThread rfl (Nat.le_of_ble_eq_true rfl) (fun w6 s7 e8 => ?_)
  refine e_ifz 95 rfl rfl rfl (fun c9 => ?_) (fun c9 => ?_)
  · refine e_L 2 (f' := (2, [(1, .int (v1 + (1 : Int32))), (3, .int w2), (0, .ref 65)], [])) rfl ?_
    exact qE_sub (qsubL [2, 0] rfl (ks := [1, 3, 0]) rfl (by decide))
  · refine e_L 2 (f' := (82, [(3, .int w2), (0, .ref 65), (1, .int v1)], [.int (5 : Int32), .ref 65])) rfl ?_
    refine e_pI 6 11 rfl rfl lc_65 rfl ?_
    refine e_nS fun s10 => ?_
    refine e_L 2 (f' := (87, [(3, .int w2), (0, .ref 65), (1, .int v1)], [.ref 65, .ref 65])) rfl ?_
    refine e_gR (q := 68) 6 5 rfl rfl lc_65 lr_65_5 ?_
    refine e_L 1 (f' := (91, [(3, .int w2), (0, .ref 65), (1, .int v1)], [.int v1, .ref 68, .ref 65])) rfl ?_
    refine e_ial (n := 100) (k := v1.toNatClampNeg) rfl lc_68 ln_68 h1 rfl ?_
    refine e_pI 6 12 rfl rfl lc_65 rfl ?_
    refine e_nS fun s11 => ?_
    refine e_L 2 (f' := (2, [(1, .int (v1 + (1 : Int32))), (3, .int w2), (0, .ref 65)], [])) rfl ?_
    exact qE_sub (qsubL [2, 0] rfl (ks := [1, 3, 0]) rfl (by decide))
set_option maxRecDepth 100000 in
set_option maxHeartbeats 4000000 in
theorem le_X6_aimThreads (en : pN) (d : Nat) (s : qS) : qle (L_X6_aimThreads_2 en d (0 : Int32) s) (qev en (d + 1) 132 [.ref 65] s) := by
  refine e_enter ix_X6_aimThreads (Nat.le_of_ble_eq_true rfl) ?_
  show qle _ (qE (qev en d) en none tb_X6_aimThreads (0, [(0, .ref 65)], []) s)
  refine e_L 2 (f' := (2, [(1, .int (0 : Int32)), (0, .ref 65)], [])) rfl ?_
  exact qE_sub (qsubL [1, 0] rfl (ks := [1, 0]) rfl (by decide))
set_option maxRecDepth 100000 in
set_option maxHeartbeats 4000000 in
theorem le_X6_levelOf (en : pN) (d : Nat) (a1 : Int32) (s : qS) : qle (swL a1.toInt [(38, some (some (.int (1 : Int32)), s)), (42, some (some (.int (4 : Int32)), s)), (43, some (some (.int (3 : Int32)), s)), (45, some (some (.int (3 : Int32)), s)), (60, some (some (.int (2 : Int32)), s)), (62, some (some (.int (2 : Int32)), s)), (124, some (some (.int (0 : Int32)), s)), (161, some (some (.int (2 : Int32)), s)), (188, some (some (.int (2 : Int32)), s)), (189, some (some (.int (2 : Int32)), s)), (190, some (some (.int (2 : Int32)), s))] (some (some (.int (-1 : Int32)), s))) (qev en (d + 1) 133 [.int a1] s) := by
  refine e_enter ix_X6_levelOf (Nat.le_of_ble_eq_true rfl) ?_
  show qle _ (qE (qev en d) en (some .int) tb_X6_levelOf (0, [(0, .int a1)], []) s)
  refine e_L 1 (f' := (1, [(0, .int a1)], [.int a1])) rfl ?_
  refine e_lsw rfl ⟨rfl, ?_, rfl, ?_, rfl, ?_, rfl, ?_, rfl, ?_, rfl, ?_, rfl, ?_, rfl, ?_, rfl, ?_, rfl, ?_, rfl, ?_, trivial⟩ ?_
  · refine e_L 1 (f' := (103, [(0, .int a1)], [.int (1 : Int32)])) rfl ?_
    exact e_rI rfl rfl
  · refine e_L 1 (f' := (109, [(0, .int a1)], [.int (4 : Int32)])) rfl ?_
    exact e_rI rfl rfl
  · refine e_L 1 (f' := (107, [(0, .int a1)], [.int (3 : Int32)])) rfl ?_
    exact e_rI rfl rfl
  · refine e_L 1 (f' := (107, [(0, .int a1)], [.int (3 : Int32)])) rfl ?_
    exact e_rI rfl rfl
  · refine e_L 1 (f' := (105, [(0, .int a1)], [.int (2 : Int32)])) rfl ?_
    exact e_rI rfl rfl
  · refine e_L 1 (f' := (105, [(0, .int a1)], [.int (2 : Int32)])) rfl ?_
    exact e_rI rfl rfl
  · refine e_L 1 (f' := (101, [(0, .int a1)], [.int (0 : Int32)])) rfl ?_
    exact e_rI rfl rfl
  · refine e_L 1 (f' := (105, [(0, .int a1)], [.int (2 : Int32)])) rfl ?_
    exact e_rI rfl rfl
  · refine e_L 1 (f' := (105, [(0, .int a1)], [.int (2 : Int32)])) rfl ?_
    exact e_rI rfl rfl
  · refine e_L 1 (f' := (105, [(0, .int a1)], [.int (2 : Int32)])) rfl ?_
    exact e_rI rfl rfl
  · refine e_L 1 (f' := (105, [(0, .int a1)], [.int (2 : Int32)])) rfl ?_
    exact e_rI rfl rfl
  · refine e_L 1 (f' := (111, [(0, .int a1)], [.int (-1 : Int32)])) rfl ?_
    exact e_rI rfl rfl
noncomputable def L_X6_readLevel_10 (en : pN) (d : Nat) (v1 : Int32) (v2 : Int32) (v3 : Int32) (s : qS) : Option qR := qE (qev en d) en none tb_X6_readLevel (10, [(0, .ref 65), (1, .int v1), (2, .int v2), (3, .int v3)], []) s
set_option maxRecDepth 100000 in
set_option maxHeartbeats 4000000 in
theorem le_X6_readLevel_10 (en : pN) (d : Nat) (v1 : Int32) (v2 : Int32) (v3 : Int32) (s : qS) : qle (if (400 : Int32) ≤ v3 then some (none, s) else bI (qev en d 133 [.int (s.1 1 9)] s) (fun w2 s3 => if ¬ w2 = v1 then some (none, s3) else bI (qev en d 136 [.ref 65] s3) (fun w6 s7 => if ¬ w6 = (0 : Int32) then bV (qev en d 167 [.ref 1] s7) (fun s11 => bV (qev en d 135 [.ref 65, .int (v1 + (1 : Int32)), .int v2] s11) (fun s14 => gd (s14.2.2 65 7 ≠ 0 ∧ lc (s14.2.2 65 7 - 1) = 4) (nm (s14.2.2 65 7 - 1) (fun q17 => bV (qev en d 76 [.ref q17, .int (s3.1 1 9), .int (0 : Int32)] s14) (fun s19 => if ¬ v1 = (2 : Int32) then L_X6_readLevel_10 en d v1 v2 (v3 + (1 : Int32)) s19 else some (none, s19)))))) else some (none, s7)))) (L_X6_readLevel_10 en d v1 v2 v3 s) := by
  show qle _ (qE (qev en d) en none tb_X6_readLevel (10, [(0, .ref 65), (1, .int v1), (2, .int v2), (3, .int v3)], []) s)
  refine e_L 2 (f' := (14, [(0, .ref 65), (1, .int v1), (2, .int v2), (3, .int v3)], [.int (400 : Int32), .int v3])) rfl ?_
  refine e_icmp 85 rfl rfl rfl (fun c1 => ?_) (fun c1 => ?_)
  · exact e_rV rfl rfl
  · refine e_L 1 (f' := (18, [(0, .ref 65), (1, .int v1), (2, .int v2), (3, .int v3)], [.ref 65])) rfl ?_
    refine e_gR (q := 1) 6 0 rfl rfl lc_65 lr_65_0 ?_
    refine e_gI 9 9 rfl rfl lc_1 ?_
    refine e_sI 133 rfl rfl rfl ix_X6_levelOf rfl (Nat.le_of_ble_eq_true rfl) (fun w2 s3 e4 => ?_)
    refine e_L 1 (f' := (28, [(0, .ref 65), (1, .int v1), (2, .int v2), (3, .int v3)], [.int v1, .int w2])) rfl ?_
    refine e_icmp 85 rfl rfl rfl (fun c5 => ?_) (fun c5 => ?_)
    · exact e_rV rfl rfl
    · refine e_L 1 (f' := (32, [(0, .ref 65), (1, .int v1), (2, .int v2), (3, .int v3)], [.ref 65])) rfl ?_
      refine e_gR (q := 1) 6 0 rfl rfl lc_65 lr_65_0 ?_
      refine e_gI 9 9 rfl rfl lc_1 ?_
      refine e_L 2 (f' := (41, [(4, .int (s3.1 1 9)), (0, .ref 65), (1, .int v1), (2, .int v2), (3, .int v3)], [.ref 65])) rfl ?_
      refine e_vI 136 rfl rfl ix_X6_countNode rfl (q_recvOf lc_65 rfl) (Nat.le_of_ble_eq_true rfl) (fun w6 s7 e8 => ?_)
      refine e_ifz 48 rfl rfl rfl (fun c9 => ?_) (fun c9 => ?_)
      · refine e_L 1 (f' := (49, [(4, .int (s3.1 1 9)), (0, .ref 65), (1, .int v1), (2, .int v2), (3, .int v3)], [.ref 65])) rfl ?_
        refine e_gR (q := 1) 6 0 rfl rfl lc_65 lr_65_0 ?_
        refine e_vV 167 rfl rfl ix_X9_advance rfl (q_recvOf lc_1 rfl) (Nat.le_of_ble_eq_true rfl) (fun s11 e12 => ?_)
        refine e_L 5 (f' := (60, [(4, .int (s3.1 1 9)), (0, .ref 65), (1, .int v1), (2, .int v2), (3, .int v3)], [.int v2, .int (v1 + (1 : Int32)), .ref 65])) rfl ?_
        refine e_vV 135 rfl rfl ix_X6_readSide rfl (q_recvOf lc_65 rfl) (Nat.le_of_ble_eq_true rfl) (fun s14 e15 => ?_)
        refine e_L 1 (f' := (64, [(4, .int (s3.1 1 9)), (0, .ref 65), (1, .int v1), (2, .int v2), (3, .int v3)], [.ref 65])) rfl ?_
        refine qle_gd fun h16 => ?_
        refine e_gM 6 7 rfl rfl lc_65 h16.1 ?_
        refine e_nR (ci := 4) h16.2 fun q17 h_q17 => ?_
        refine e_L 2 (f' := (70, [(4, .int (s3.1 1 9)), (0, .ref 65), (1, .int v1), (2, .int v2), (3, .int v3)], [.int (0 : Int32), .int (s3.1 1 9), .ref q17])) rfl ?_
        refine e_vV 76 rfl rfl ix_X4_put rfl (q_recvOf h_q17 rfl) (Nat.le_of_ble_eq_true rfl) (fun s19 e20 => ?_)
        refine e_L 2 (f' := (75, [(4, .int (s3.1 1 9)), (0, .ref 65), (1, .int v1), (2, .int v2), (3, .int v3)], [.int (2 : Int32), .int v1])) rfl ?_
        refine e_icmp 79 rfl rfl rfl (fun c21 => ?_) (fun c21 => ?_)
        · refine e_L 2 (f' := (10, [(3, .int (v3 + (1 : Int32))), (4, .int (s3.1 1 9)), (0, .ref 65), (1, .int v1), (2, .int v2)], [])) rfl ?_
          exact qE_sub (qsubL [2, 3, 4, 0] rfl (ks := [3, 4, 0, 1, 2]) rfl (by decide))
        · exact e_rV rfl rfl
      · exact e_rV rfl rfl
set_option maxRecDepth 100000 in
set_option maxHeartbeats 4000000 in
theorem le_X6_readLevel (en : pN) (d : Nat) (a1 : Int32) (a2 : Int32) (s : qS) : qle (bV (qev en d 135 [.ref 65, .int (a1 + (1 : Int32)), .int a2] s) (fun s2 => L_X6_readLevel_10 en d a1 a2 (0 : Int32) s2)) (qev en (d + 1) 134 [.ref 65, .int a1, .int a2] s) := by
  refine e_enter ix_X6_readLevel (Nat.le_of_ble_eq_true rfl) ?_
  show qle _ (qE (qev en d) en none tb_X6_readLevel (0, [(0, .ref 65), (1, .int a1), (2, .int a2)], []) s)
  refine e_L 5 (f' := (5, [(0, .ref 65), (1, .int a1), (2, .int a2)], [.int a2, .int (a1 + (1 : Int32)), .ref 65])) rfl ?_
  refine e_vV 135 rfl rfl ix_X6_readSide rfl (q_recvOf lc_65 rfl) (Nat.le_of_ble_eq_true rfl) (fun s2 e3 => ?_)
  refine e_L 2 (f' := (10, [(3, .int (0 : Int32)), (0, .ref 65), (1, .int a1), (2, .int a2)], [])) rfl ?_
  exact qE_sub (qsubL [1, 2, 3, 0] rfl (ks := [3, 0, 1, 2]) rfl (by decide))
set_option maxRecDepth 100000 in
set_option maxHeartbeats 4000000 in
theorem le_X6_readSide (en : pN) (d : Nat) (a1 : Int32) (a2 : Int32) (s : qS) : qle (if (5 : Int32) ≤ a1 then bV (qev en d 139 [.ref 65, .int a2] s) (fun s3 => some (none, s3)) else bV (qev en d 134 [.ref 65, .int a1, .int a2] s) (fun s6 => some (none, s6))) (qev en (d + 1) 135 [.ref 65, .int a1, .int a2] s) := by
  refine e_enter ix_X6_readSide (Nat.le_of_ble_eq_true rfl) ?_
  show qle _ (qE (qev en d) en none tb_X6_readSide (0, [(0, .ref 65), (1, .int a1), (2, .int a2)], []) s)
  refine e_L 2 (f' := (2, [(0, .ref 65), (1, .int a1), (2, .int a2)], [.int (5 : Int32), .int a1])) rfl ?_
  refine e_icmp 14 rfl rfl rfl (fun c1 => ?_) (fun c1 => ?_)
  · refine e_L 2 (f' := (16, [(0, .ref 65), (1, .int a1), (2, .int a2)], [.int a2, .ref 65])) rfl ?_
    refine e_vV 139 rfl rfl ix_X6_readOne rfl (q_recvOf lc_65 rfl) (Nat.le_of_ble_eq_true rfl) (fun s3 e4 => ?_)
    exact e_rV rfl rfl
  · refine e_L 3 (f' := (8, [(0, .ref 65), (1, .int a1), (2, .int a2)], [.int a2, .int a1, .ref 65])) rfl ?_
    refine e_vV 134 rfl rfl ix_X6_readLevel rfl (q_recvOf lc_65 rfl) (Nat.le_of_ble_eq_true rfl) (fun s6 e7 => ?_)
    refine e_L 1 (f' := (19, [(0, .ref 65), (1, .int a1), (2, .int a2)], [])) rfl ?_
    exact e_rV rfl rfl
set_option maxRecDepth 100000 in
set_option maxHeartbeats 4000000 in
theorem le_X6_countNode (en : pN) (d : Nat) (s : qS) : qle (if (s.1 65 13) < (400 : Int32) then nm (uI s 65 13 ((s.1 65 13) + (1 : Int32))) (fun s2 => some (some (.int (1 : Int32)), s2)) else bV (qev en d 114 [.ref 65, .int (4 : Int32)] s) (fun s4 => some (some (.int (0 : Int32)), s4))) (qev en (d + 1) 136 [.ref 65] s) := by
  refine e_enter ix_X6_countNode (Nat.le_of_ble_eq_true rfl) ?_
  show qle _ (qE (qev en d) en (some .boolean) tb_X6_countNode (0, [(0, .ref 65)], []) s)
  refine e_L 1 (f' := (1, [(0, .ref 65)], [.ref 65])) rfl ?_
  refine e_gI 6 13 rfl rfl lc_65 ?_
  refine e_L 1 (f' := (7, [(0, .ref 65)], [.int (400 : Int32), .int (s.1 65 13)])) rfl ?_
  refine e_icmp 17 rfl rfl rfl (fun c1 => ?_) (fun c1 => ?_)
  · refine e_L 2 (f' := (19, [(0, .ref 65)], [.ref 65, .ref 65])) rfl ?_
    refine e_gI 6 13 rfl rfl lc_65 ?_
    refine e_L 2 (f' := (24, [(0, .ref 65)], [.int ((s.1 65 13) + (1 : Int32)), .ref 65])) rfl ?_
    refine e_pI 6 13 rfl rfl lc_65 rfl ?_
    refine e_nS fun s2 => ?_
    refine e_L 1 (f' := (28, [(0, .ref 65)], [.int (1 : Int32)])) rfl ?_
    exact e_rZ rfl rfl (by decide)
  · refine e_L 2 (f' := (12, [(0, .ref 65)], [.int (4 : Int32), .ref 65])) rfl ?_
    refine e_vV 114 rfl rfl ix_X6_blame rfl (q_recvOf lc_65 rfl) (Nat.le_of_ble_eq_true rfl) (fun s4 e5 => ?_)
    refine e_L 1 (f' := (16, [(0, .ref 65)], [.int (0 : Int32)])) rfl ?_
    exact e_rZ rfl rfl (by decide)
noncomputable def L_X6_beginsOne_23 (en : pN) (d : Nat) (v1 : Int32) (s : qS) : Option qR := qE (qev en d) en (some .boolean) tb_X6_beginsOne (23, [(1, .int v1)], []) s
set_option maxRecDepth 100000 in
set_option maxHeartbeats 4000000 in
theorem le_X6_beginsOne_23 (en : pN) (d : Nat) (v1 : Int32) (s : qS) : qle (if v1 = (3 : Int32) then some (some (.int (1 : Int32)), s) else if v1 = (2 : Int32) then some (some (.int (1 : Int32)), s) else if v1 = (45 : Int32) then some (some (.int (1 : Int32)), s) else if v1 = (33 : Int32) then some (some (.int (1 : Int32)), s) else if ¬ v1 = (40 : Int32) then some (some (.int (0 : Int32)), s) else some (some (.int (1 : Int32)), s)) (L_X6_beginsOne_23 en d v1 s) := by
  show qle _ (qE (qev en d) en (some .boolean) tb_X6_beginsOne (23, [(1, .int v1)], []) s)
  refine e_L 2 (f' := (25, [(1, .int v1)], [.int (3 : Int32), .int v1])) rfl ?_
  refine e_icmp 51 rfl rfl rfl (fun c1 => ?_) (fun c1 => ?_)
  · refine e_L 2 (f' := (56, [(1, .int v1)], [.int (1 : Int32)])) rfl ?_
    exact e_rZ rfl rfl (by decide)
  · refine e_L 2 (f' := (30, [(1, .int v1)], [.int (2 : Int32), .int v1])) rfl ?_
    refine e_icmp 51 rfl rfl rfl (fun c2 => ?_) (fun c2 => ?_)
    · refine e_L 2 (f' := (56, [(1, .int v1)], [.int (1 : Int32)])) rfl ?_
      exact e_rZ rfl rfl (by decide)
    · refine e_L 2 (f' := (36, [(1, .int v1)], [.int (45 : Int32), .int v1])) rfl ?_
      refine e_icmp 51 rfl rfl rfl (fun c3 => ?_) (fun c3 => ?_)
      · refine e_L 2 (f' := (56, [(1, .int v1)], [.int (1 : Int32)])) rfl ?_
        exact e_rZ rfl rfl (by decide)
      · refine e_L 2 (f' := (42, [(1, .int v1)], [.int (33 : Int32), .int v1])) rfl ?_
        refine e_icmp 51 rfl rfl rfl (fun c4 => ?_) (fun c4 => ?_)
        · refine e_L 2 (f' := (56, [(1, .int v1)], [.int (1 : Int32)])) rfl ?_
          exact e_rZ rfl rfl (by decide)
        · refine e_L 2 (f' := (48, [(1, .int v1)], [.int (40 : Int32), .int v1])) rfl ?_
          refine e_icmp 55 rfl rfl rfl (fun c5 => ?_) (fun c5 => ?_)
          · refine e_L 1 (f' := (56, [(1, .int v1)], [.int (0 : Int32)])) rfl ?_
            exact e_rZ rfl rfl (by decide)
          · refine e_L 2 (f' := (56, [(1, .int v1)], [.int (1 : Int32)])) rfl ?_
            exact e_rZ rfl rfl (by decide)
set_option maxRecDepth 100000 in
set_option maxHeartbeats 4000000 in
theorem le_X6_beginsOne (en : pN) (d : Nat) (a1 : Int32) (s : qS) : qle (if (s.1 65 8) = (0 : Int32) then L_X6_beginsOne_23 en d a1 s else if a1 < (328 : Int32) then L_X6_beginsOne_23 en d a1 s else if (332 : Int32) < a1 then L_X6_beginsOne_23 en d a1 s else some (some (.int (1 : Int32)), s)) (qev en (d + 1) 137 [.ref 65, .int a1] s) := by
  refine e_enter ix_X6_beginsOne (Nat.le_of_ble_eq_true rfl) ?_
  show qle _ (qE (qev en d) en (some .boolean) tb_X6_beginsOne (0, [(0, .ref 65), (1, .int a1)], []) s)
  refine e_L 1 (f' := (1, [(0, .ref 65), (1, .int a1)], [.ref 65])) rfl ?_
  refine e_gI 6 8 rfl rfl lc_65 ?_
  refine e_ifz 23 rfl rfl rfl (fun c1 => ?_) (fun c1 => ?_)
  · exact qE_sub (qsubL [1] rfl (ks := [0, 1]) rfl (by decide))
  · refine e_L 2 (f' := (11, [(0, .ref 65), (1, .int a1)], [.int (328 : Int32), .int a1])) rfl ?_
    refine e_icmp 23 rfl rfl rfl (fun c2 => ?_) (fun c2 => ?_)
    · exact qE_sub (qsubL [1] rfl (ks := [0, 1]) rfl (by decide))
    · refine e_L 2 (f' := (18, [(0, .ref 65), (1, .int a1)], [.int (332 : Int32), .int a1])) rfl ?_
      refine e_icmp 23 rfl rfl rfl (fun c3 => ?_) (fun c3 => ?_)
      · exact qE_sub (qsubL [1] rfl (ks := [0, 1]) rfl (by decide))
      · refine e_L 1 (f' := (22, [(0, .ref 65), (1, .int a1)], [.int (1 : Int32)])) rfl ?_
        exact e_rZ rfl rfl (by decide)
set_option maxRecDepth 100000 in
set_option maxHeartbeats 4000000 in
theorem le_X6_isStray (en : pN) (d : Nat) (s : qS) : qle (if (s.1 1 9) = (2 : Int32) then bI (qev en d 84 [.ref 11, .long (s.2.1 1 11)] s) (fun w2 s3 => if (s3.1 65 8) = (0 : Int32) then if w2 < (0 : Int32) then some (some (.int (0 : Int32)), s3) else some (some (.int (1 : Int32)), s3) else if w2 < (0 : Int32) then some (some (.int (1 : Int32)), s3) else if w2 < (8 : Int32) then some (some (.int (0 : Int32)), s3) else if (12 : Int32) ≤ w2 then some (some (.int (0 : Int32)), s3) else some (some (.int (1 : Int32)), s3)) else some (some (.int (0 : Int32)), s)) (qev en (d + 1) 138 [.ref 65] s) := by
  refine e_enter ix_X6_isStray (Nat.le_of_ble_eq_true rfl) ?_
  show qle _ (qE (qev en d) en (some .boolean) tb_X6_isStray (0, [(0, .ref 65)], []) s)
  refine e_L 1 (f' := (1, [(0, .ref 65)], [.ref 65])) rfl ?_
  refine e_gR (q := 1) 6 0 rfl rfl lc_65 lr_65_0 ?_
  refine e_gI 9 9 rfl rfl lc_1 ?_
  refine e_L 1 (f' := (8, [(0, .ref 65)], [.int (2 : Int32), .int (s.1 1 9)])) rfl ?_
  refine e_icmp 13 rfl rfl rfl (fun c1 => ?_) (fun c1 => ?_)
  · refine e_L 1 (f' := (14, [(0, .ref 65)], [.ref 65])) rfl ?_
    refine e_gR (q := 11) 6 1 rfl rfl lc_65 lr_65_1 ?_
    refine e_L 1 (f' := (18, [(0, .ref 65)], [.ref 65, .ref 11])) rfl ?_
    refine e_gR (q := 1) 6 0 rfl rfl lc_65 lr_65_0 ?_
    refine e_gJ 9 11 rfl rfl lc_1 ?_
    refine e_vI 84 rfl rfl ix_X5_named rfl (q_recvOf lc_11 rfl) (Nat.le_of_ble_eq_true rfl) (fun w2 s3 e4 => ?_)
    refine e_L 2 (f' := (29, [(1, .int w2), (0, .ref 65)], [.ref 65])) rfl ?_
    refine e_gI 6 8 rfl rfl lc_65 ?_
    refine e_ifz 59 rfl rfl rfl (fun c5 => ?_) (fun c5 => ?_)
    · refine e_L 1 (f' := (60, [(1, .int w2), (0, .ref 65)], [.int w2])) rfl ?_
      refine e_ifz 67 rfl rfl rfl (fun c6 => ?_) (fun c6 => ?_)
      · refine e_L 1 (f' := (68, [(1, .int w2), (0, .ref 65)], [.int (0 : Int32)])) rfl ?_
        exact e_rZ rfl rfl (by decide)
      · refine e_L 2 (f' := (68, [(1, .int w2), (0, .ref 65)], [.int (1 : Int32)])) rfl ?_
        exact e_rZ rfl rfl (by decide)
    · refine e_L 1 (f' := (36, [(1, .int w2), (0, .ref 65)], [.int w2])) rfl ?_
      refine e_ifz 51 rfl rfl rfl (fun c7 => ?_) (fun c7 => ?_)
      · refine e_L 2 (f' := (68, [(1, .int w2), (0, .ref 65)], [.int (1 : Int32)])) rfl ?_
        exact e_rZ rfl rfl (by decide)
      · refine e_L 2 (f' := (42, [(1, .int w2), (0, .ref 65)], [.int (8 : Int32), .int w2])) rfl ?_
        refine e_icmp 55 rfl rfl rfl (fun c8 => ?_) (fun c8 => ?_)
        · refine e_L 2 (f' := (68, [(1, .int w2), (0, .ref 65)], [.int (0 : Int32)])) rfl ?_
          exact e_rZ rfl rfl (by decide)
        · refine e_L 2 (f' := (48, [(1, .int w2), (0, .ref 65)], [.int (12 : Int32), .int w2])) rfl ?_
          refine e_icmp 55 rfl rfl rfl (fun c9 => ?_) (fun c9 => ?_)
          · refine e_L 2 (f' := (68, [(1, .int w2), (0, .ref 65)], [.int (0 : Int32)])) rfl ?_
            exact e_rZ rfl rfl (by decide)
          · refine e_L 2 (f' := (68, [(1, .int w2), (0, .ref 65)], [.int (1 : Int32)])) rfl ?_
            exact e_rZ rfl rfl (by decide)
  · refine e_L 1 (f' := (12, [(0, .ref 65)], [.int (0 : Int32)])) rfl ?_
    exact e_rZ rfl rfl (by decide)
set_option maxRecDepth 100000 in
set_option maxHeartbeats 4000000 in
theorem le_X6_readOne (en : pN) (d : Nat) (a1 : Int32) (s : qS) : qle (bI (qev en d 137 [.ref 65, .int (s.1 1 9)] s) (fun w1 s2 => if ¬ w1 = (0 : Int32) then bI (qev en d 138 [.ref 65] s2) (fun w5 s6 => if w5 = (0 : Int32) then if a1 ≤ (9 : Int32) then if ¬ (s.1 1 9) = (40 : Int32) then bI (qev en d 136 [.ref 65] s6) (fun w11 s12 => if w11 = (0 : Int32) then some (none, s12) else bV (qev en d 140 [.ref 65, .int (s.1 1 9), .int a1] s12) (fun s16 => some (none, s16))) else bV (qev en d 167 [.ref 1] s6) (fun s19 => bV (qev en d 134 [.ref 65, .int (0 : Int32), .int (a1 + (1 : Int32))] s19) (fun s22 => bV (qev en d 115 [.ref 65, .int (41 : Int32)] s22) (fun s25 => some (none, s25)))) else bV (qev en d 114 [.ref 65, .int (4 : Int32)] s6) (fun s28 => some (none, s28)) else bV (qev en d 114 [.ref 65, .int (3 : Int32)] s6) (fun s31 => some (none, s31))) else bV (qev en d 114 [.ref 65, .int (2 : Int32)] s2) (fun s34 => some (none, s34)))) (qev en (d + 1) 139 [.ref 65, .int a1] s) := by
  refine e_enter ix_X6_readOne (Nat.le_of_ble_eq_true rfl) ?_
  show qle _ (qE (qev en d) en none tb_X6_readOne (0, [(0, .ref 65), (1, .int a1)], []) s)
  refine e_L 1 (f' := (1, [(0, .ref 65), (1, .int a1)], [.ref 65])) rfl ?_
  refine e_gR (q := 1) 6 0 rfl rfl lc_65 lr_65_0 ?_
  refine e_gI 9 9 rfl rfl lc_1 ?_
  refine e_L 3 (f' := (10, [(2, .int (s.1 1 9)), (0, .ref 65), (1, .int a1)], [.int (s.1 1 9), .ref 65])) rfl ?_
  refine e_vI 137 rfl rfl ix_X6_beginsOne rfl (q_recvOf lc_65 rfl) (Nat.le_of_ble_eq_true rfl) (fun w1 s2 e3 => ?_)
  refine e_ifz 24 rfl rfl rfl (fun c4 => ?_) (fun c4 => ?_)
  · refine e_L 1 (f' := (25, [(2, .int (s.1 1 9)), (0, .ref 65), (1, .int a1)], [.ref 65])) rfl ?_
    refine e_vI 138 rfl rfl ix_X6_isStray rfl (q_recvOf lc_65 rfl) (Nat.le_of_ble_eq_true rfl) (fun w5 s6 e7 => ?_)
    refine e_ifz 39 rfl rfl rfl (fun c8 => ?_) (fun c8 => ?_)
    · refine e_L 2 (f' := (42, [(2, .int (s.1 1 9)), (0, .ref 65), (1, .int a1)], [.int (9 : Int32), .int a1])) rfl ?_
      refine e_icmp 53 rfl rfl rfl (fun c9 => ?_) (fun c9 => ?_)
      · refine e_L 2 (f' := (56, [(2, .int (s.1 1 9)), (0, .ref 65), (1, .int a1)], [.int (40 : Int32), .int (s.1 1 9)])) rfl ?_
        refine e_icmp 83 rfl rfl rfl (fun c10 => ?_) (fun c10 => ?_)
        · refine e_L 1 (f' := (84, [(2, .int (s.1 1 9)), (0, .ref 65), (1, .int a1)], [.ref 65])) rfl ?_
          refine e_vI 136 rfl rfl ix_X6_countNode rfl (q_recvOf lc_65 rfl) (Nat.le_of_ble_eq_true rfl) (fun w11 s12 e13 => ?_)
          refine e_ifz 96 rfl rfl rfl (fun c14 => ?_) (fun c14 => ?_)
          · exact e_rV rfl rfl
          · refine e_L 3 (f' := (93, [(2, .int (s.1 1 9)), (0, .ref 65), (1, .int a1)], [.int a1, .int (s.1 1 9), .ref 65])) rfl ?_
            refine e_vV 140 rfl rfl ix_X6_readNode rfl (q_recvOf lc_65 rfl) (Nat.le_of_ble_eq_true rfl) (fun s16 e17 => ?_)
            exact e_rV rfl rfl
        · refine e_L 1 (f' := (60, [(2, .int (s.1 1 9)), (0, .ref 65), (1, .int a1)], [.ref 65])) rfl ?_
          refine e_gR (q := 1) 6 0 rfl rfl lc_65 lr_65_0 ?_
          refine e_vV 167 rfl rfl ix_X9_advance rfl (q_recvOf lc_1 rfl) (Nat.le_of_ble_eq_true rfl) (fun s19 e20 => ?_)
          refine e_L 5 (f' := (71, [(2, .int (s.1 1 9)), (0, .ref 65), (1, .int a1)], [.int (a1 + (1 : Int32)), .int (0 : Int32), .ref 65])) rfl ?_
          refine e_vV 134 rfl rfl ix_X6_readLevel rfl (q_recvOf lc_65 rfl) (Nat.le_of_ble_eq_true rfl) (fun s22 e23 => ?_)
          refine e_L 2 (f' := (77, [(2, .int (s.1 1 9)), (0, .ref 65), (1, .int a1)], [.int (41 : Int32), .ref 65])) rfl ?_
          refine e_vV 115 rfl rfl ix_X6_need rfl (q_recvOf lc_65 rfl) (Nat.le_of_ble_eq_true rfl) (fun s25 e26 => ?_)
          refine e_L 1 (f' := (96, [(2, .int (s.1 1 9)), (0, .ref 65), (1, .int a1)], [])) rfl ?_
          exact e_rV rfl rfl
      · refine e_L 2 (f' := (47, [(2, .int (s.1 1 9)), (0, .ref 65), (1, .int a1)], [.int (4 : Int32), .ref 65])) rfl ?_
        refine e_vV 114 rfl rfl ix_X6_blame rfl (q_recvOf lc_65 rfl) (Nat.le_of_ble_eq_true rfl) (fun s28 e29 => ?_)
        refine e_L 1 (f' := (96, [(2, .int (s.1 1 9)), (0, .ref 65), (1, .int a1)], [])) rfl ?_
        exact e_rV rfl rfl
    · refine e_L 2 (f' := (33, [(2, .int (s.1 1 9)), (0, .ref 65), (1, .int a1)], [.int (3 : Int32), .ref 65])) rfl ?_
      refine e_vV 114 rfl rfl ix_X6_blame rfl (q_recvOf lc_65 rfl) (Nat.le_of_ble_eq_true rfl) (fun s31 e32 => ?_)
      refine e_L 1 (f' := (96, [(2, .int (s.1 1 9)), (0, .ref 65), (1, .int a1)], [])) rfl ?_
      exact e_rV rfl rfl
  · refine e_L 2 (f' := (18, [(2, .int (s.1 1 9)), (0, .ref 65), (1, .int a1)], [.int (2 : Int32), .ref 65])) rfl ?_
    refine e_vV 114 rfl rfl ix_X6_blame rfl (q_recvOf lc_65 rfl) (Nat.le_of_ble_eq_true rfl) (fun s34 e35 => ?_)
    refine e_L 1 (f' := (96, [(2, .int (s.1 1 9)), (0, .ref 65), (1, .int a1)], [])) rfl ?_
    exact e_rV rfl rfl
noncomputable def L_X6_readNode_43 (en : pN) (d : Nat) (v1 : Int32) (v2 : Int32) (s : qS) : Option qR := qE (qev en d) en none tb_X6_readNode (43, [(0, .ref 65), (1, .int v1), (2, .int v2)], []) s
noncomputable def L_X6_readNode_73 (en : pN) (d : Nat) (rs0 : Nat) (vs1 : Int32) (s : qS) : Option qR := qE (qev en d) en none tb_X6_readNode (73, [], [.int vs1, .ref rs0]) s
noncomputable def L_X6_readNode_99 (en : pN) (d : Nat) (v1 : Int32) (s : qS) : Option qR := qE (qev en d) en none tb_X6_readNode (99, [(0, .ref 65), (1, .int v1)], []) s
set_option maxRecDepth 100000 in
set_option maxHeartbeats 4000000 in
theorem le_X6_readNode_43 (en : pN) (d : Nat) (v1 : Int32) (v2 : Int32) (s : qS) : qle (bV (qev en d 167 [.ref 1] s) (fun s2 => bV (qev en d 139 [.ref 65, .int (v2 + (1 : Int32))] s2) (fun s5 => gd (s5.2.2 65 7 ≠ 0 ∧ lc (s5.2.2 65 7 - 1) = 4) (nm (s5.2.2 65 7 - 1) (fun q8 => if ¬ v1 = (45 : Int32) then L_X6_readNode_73 en d q8 (33 : Int32) s5 else L_X6_readNode_73 en d q8 (4 : Int32) s5))))) (L_X6_readNode_43 en d v1 v2 s) := by
  show qle _ (qE (qev en d) en none tb_X6_readNode (43, [(0, .ref 65), (1, .int v1), (2, .int v2)], []) s)
  refine e_L 1 (f' := (44, [(0, .ref 65), (1, .int v1), (2, .int v2)], [.ref 65])) rfl ?_
  refine e_gR (q := 1) 6 0 rfl rfl lc_65 lr_65_0 ?_
  refine e_vV 167 rfl rfl ix_X9_advance rfl (q_recvOf lc_1 rfl) (Nat.le_of_ble_eq_true rfl) (fun s2 e3 => ?_)
  refine e_L 4 (f' := (54, [(0, .ref 65), (1, .int v1), (2, .int v2)], [.int (v2 + (1 : Int32)), .ref 65])) rfl ?_
  refine e_vV 139 rfl rfl ix_X6_readOne rfl (q_recvOf lc_65 rfl) (Nat.le_of_ble_eq_true rfl) (fun s5 e6 => ?_)
  refine e_L 1 (f' := (58, [(0, .ref 65), (1, .int v1), (2, .int v2)], [.ref 65])) rfl ?_
  refine qle_gd fun h7 => ?_
  refine e_gM 6 7 rfl rfl lc_65 h7.1 ?_
  refine e_nR (ci := 4) h7.2 fun q8 h_q8 => ?_
  refine e_L 2 (f' := (64, [(0, .ref 65), (1, .int v1), (2, .int v2)], [.int (45 : Int32), .int v1, .ref q8])) rfl ?_
  refine e_icmp 71 rfl rfl rfl (fun c9 => ?_) (fun c9 => ?_)
  · refine e_L 1 (f' := (73, [(0, .ref 65), (1, .int v1), (2, .int v2)], [.int (33 : Int32), .ref q8])) rfl ?_
    exact qE_sub (qsubL [] rfl (ks := [0, 1, 2]) rfl (by decide))
  · refine e_L 2 (f' := (73, [(0, .ref 65), (1, .int v1), (2, .int v2)], [.int (4 : Int32), .ref q8])) rfl ?_
    exact qE_sub (qsubL [] rfl (ks := [0, 1, 2]) rfl (by decide))
set_option maxRecDepth 100000 in
set_option maxHeartbeats 4000000 in
theorem le_X6_readNode_73 (en : pN) (d : Nat) (rs0 : Nat) (vs1 : Int32) (s : qS) : qle (gd (lc rs0 = 4) (bV (qev en d 76 [.ref rs0, .int vs1, .int (0 : Int32)] s) (fun s2 => some (none, s2)))) (L_X6_readNode_73 en d rs0 vs1 s) := by
  show qle _ (qE (qev en d) en none tb_X6_readNode (73, [], [.int vs1, .ref rs0]) s)
  refine qle_gd fun h_rs0 => ?_
  refine e_L 1 (f' := (74, [], [.int (0 : Int32), .int vs1, .ref rs0])) rfl ?_
  refine e_vV 76 rfl rfl ix_X4_put rfl (q_recvOf h_rs0 rfl) (Nat.le_of_ble_eq_true rfl) (fun s2 e3 => ?_)
  refine e_L 1 (f' := (146, [], [])) rfl ?_
  exact e_rV rfl rfl
set_option maxRecDepth 100000 in
set_option maxHeartbeats 4000000 in
theorem le_X6_readNode_99 (en : pN) (d : Nat) (v1 : Int32) (s : qS) : qle (if (s.1 65 8) = (0 : Int32) then bI (qev en d 128 [.ref 65] s) (fun w2 s3 => if w2 < (0 : Int32) then some (none, s3) else gd (s3.2.2 65 7 ≠ 0 ∧ lc (s3.2.2 65 7 - 1) = 4) (nm (s3.2.2 65 7 - 1) (fun q7 => bI (qev en d 32 [.int (s3.1 65 14), .int w2] s3) (fun w8 s9 => bV (qev en d 76 [.ref q7, .int (2 : Int32), .int w8] s9) (fun s12 => bV (qev en d 167 [.ref 1] s12) (fun s15 => some (none, s15))))))) else bV (qev en d 143 [.ref 65, .int v1] s) (fun s18 => some (none, s18))) (L_X6_readNode_99 en d v1 s) := by
  show qle _ (qE (qev en d) en none tb_X6_readNode (99, [(0, .ref 65), (1, .int v1)], []) s)
  refine e_L 1 (f' := (100, [(0, .ref 65), (1, .int v1)], [.ref 65])) rfl ?_
  refine e_gI 6 8 rfl rfl lc_65 ?_
  refine e_ifz 114 rfl rfl rfl (fun c1 => ?_) (fun c1 => ?_)
  · refine e_L 1 (f' := (115, [(0, .ref 65), (1, .int v1)], [.ref 65])) rfl ?_
    refine e_vI 128 rfl rfl ix_X6_localHere rfl (q_recvOf lc_65 rfl) (Nat.le_of_ble_eq_true rfl) (fun w2 s3 e4 => ?_)
    refine e_L 2 (f' := (120, [(3, .int w2), (0, .ref 65), (1, .int v1)], [.int w2])) rfl ?_
    refine e_ifz 146 rfl rfl rfl (fun c5 => ?_) (fun c5 => ?_)
    · exact e_rV rfl rfl
    · refine e_L 1 (f' := (124, [(3, .int w2), (0, .ref 65), (1, .int v1)], [.ref 65])) rfl ?_
      refine qle_gd fun h6 => ?_
      refine e_gM 6 7 rfl rfl lc_65 h6.1 ?_
      refine e_nR (ci := 4) h6.2 fun q7 h_q7 => ?_
      refine e_L 2 (f' := (129, [(3, .int w2), (0, .ref 65), (1, .int v1)], [.ref 65, .int (2 : Int32), .ref q7])) rfl ?_
      refine e_gI 6 14 rfl rfl lc_65 ?_
      refine e_L 1 (f' := (133, [(3, .int w2), (0, .ref 65), (1, .int v1)], [.int w2, .int (s3.1 65 14), .int (2 : Int32), .ref q7])) rfl ?_
      refine e_sI 32 rfl rfl rfl ix_X3_localSlot rfl (Nat.le_of_ble_eq_true rfl) (fun w8 s9 e10 => ?_)
      refine e_vV 76 rfl rfl ix_X4_put rfl (q_recvOf h_q7 rfl) (Nat.le_of_ble_eq_true rfl) (fun s12 e13 => ?_)
      refine e_L 1 (f' := (140, [(3, .int w2), (0, .ref 65), (1, .int v1)], [.ref 65])) rfl ?_
      refine e_gR (q := 1) 6 0 rfl rfl lc_65 lr_65_0 ?_
      refine e_vV 167 rfl rfl ix_X9_advance rfl (q_recvOf lc_1 rfl) (Nat.le_of_ble_eq_true rfl) (fun s15 e16 => ?_)
      exact e_rV rfl rfl
  · refine e_L 2 (f' := (108, [(0, .ref 65), (1, .int v1)], [.int v1, .ref 65])) rfl ?_
    refine e_vV 143 rfl rfl ix_X6_readAsked rfl (q_recvOf lc_65 rfl) (Nat.le_of_ble_eq_true rfl) (fun s18 e19 => ?_)
    refine e_L 1 (f' := (146, [(0, .ref 65), (1, .int v1)], [])) rfl ?_
    exact e_rV rfl rfl
set_option maxRecDepth 100000 in
set_option maxHeartbeats 4000000 in
theorem le_X6_readNode (en : pN) (d : Nat) (a1 : Int32) (a2 : Int32) (s : qS) : qle (if ¬ a1 = (3 : Int32) then if a1 = (45 : Int32) then L_X6_readNode_43 en d a1 a2 s else if ¬ a1 = (33 : Int32) then if (s.1 65 8) = (0 : Int32) then L_X6_readNode_99 en d a1 s else if ¬ a1 = (2 : Int32) then L_X6_readNode_99 en d a1 s else bV (qev en d 144 [.ref 65] s) (fun s7 => some (none, s7)) else L_X6_readNode_43 en d a1 a2 s else gd (s.2.2 65 7 ≠ 0 ∧ lc (s.2.2 65 7 - 1) = 4) (nm (s.2.2 65 7 - 1) (fun q10 => bV (qev en d 76 [.ref q10, .int (1 : Int32), .int (s.2.1 1 11).toInt32] s) (fun s12 => bV (qev en d 167 [.ref 1] s12) (fun s15 => some (none, s15)))))) (qev en (d + 1) 140 [.ref 65, .int a1, .int a2] s) := by
  refine e_enter ix_X6_readNode (Nat.le_of_ble_eq_true rfl) ?_
  show qle _ (qE (qev en d) en none tb_X6_readNode (0, [(0, .ref 65), (1, .int a1), (2, .int a2)], []) s)
  refine e_L 2 (f' := (2, [(0, .ref 65), (1, .int a1), (2, .int a2)], [.int (3 : Int32), .int a1])) rfl ?_
  refine e_icmp 31 rfl rfl rfl (fun c1 => ?_) (fun c1 => ?_)
  · refine e_L 2 (f' := (34, [(0, .ref 65), (1, .int a1), (2, .int a2)], [.int (45 : Int32), .int a1])) rfl ?_
    refine e_icmp 43 rfl rfl rfl (fun c2 => ?_) (fun c2 => ?_)
    · exact qE_sub (qsubL [0, 1, 2] rfl (ks := [0, 1, 2]) rfl (by decide))
    · refine e_L 2 (f' := (40, [(0, .ref 65), (1, .int a1), (2, .int a2)], [.int (33 : Int32), .int a1])) rfl ?_
      refine e_icmp 80 rfl rfl rfl (fun c3 => ?_) (fun c3 => ?_)
      · refine e_L 1 (f' := (81, [(0, .ref 65), (1, .int a1), (2, .int a2)], [.ref 65])) rfl ?_
        refine e_gI 6 8 rfl rfl lc_65 ?_
        refine e_ifz 99 rfl rfl rfl (fun c4 => ?_) (fun c4 => ?_)
        · exact qE_sub (qsubL [0, 1] rfl (ks := [0, 1, 2]) rfl (by decide))
        · refine e_L 2 (f' := (89, [(0, .ref 65), (1, .int a1), (2, .int a2)], [.int (2 : Int32), .int a1])) rfl ?_
          refine e_icmp 99 rfl rfl rfl (fun c5 => ?_) (fun c5 => ?_)
          · exact qE_sub (qsubL [0, 1] rfl (ks := [0, 1, 2]) rfl (by decide))
          · refine e_L 1 (f' := (93, [(0, .ref 65), (1, .int a1), (2, .int a2)], [.ref 65])) rfl ?_
            refine e_vV 144 rfl rfl ix_X6_readCellOrLocal rfl (q_recvOf lc_65 rfl) (Nat.le_of_ble_eq_true rfl) (fun s7 e8 => ?_)
            refine e_L 1 (f' := (146, [(0, .ref 65), (1, .int a1), (2, .int a2)], [])) rfl ?_
            exact e_rV rfl rfl
      · exact qE_sub (qsubL [0, 1, 2] rfl (ks := [0, 1, 2]) rfl (by decide))
  · refine e_L 1 (f' := (6, [(0, .ref 65), (1, .int a1), (2, .int a2)], [.ref 65])) rfl ?_
    refine qle_gd fun h9 => ?_
    refine e_gM 6 7 rfl rfl lc_65 h9.1 ?_
    refine e_nR (ci := 4) h9.2 fun q10 h_q10 => ?_
    refine e_L 2 (f' := (11, [(0, .ref 65), (1, .int a1), (2, .int a2)], [.ref 65, .int (1 : Int32), .ref q10])) rfl ?_
    refine e_gR (q := 1) 6 0 rfl rfl lc_65 lr_65_0 ?_
    refine e_gJ 9 11 rfl rfl lc_1 ?_
    refine e_L 1 (f' := (18, [(0, .ref 65), (1, .int a1), (2, .int a2)], [.int (s.2.1 1 11).toInt32, .int (1 : Int32), .ref q10])) rfl ?_
    refine e_vV 76 rfl rfl ix_X4_put rfl (q_recvOf h_q10 rfl) (Nat.le_of_ble_eq_true rfl) (fun s12 e13 => ?_)
    refine e_L 1 (f' := (22, [(0, .ref 65), (1, .int a1), (2, .int a2)], [.ref 65])) rfl ?_
    refine e_gR (q := 1) 6 0 rfl rfl lc_65 lr_65_0 ?_
    refine e_vV 167 rfl rfl ix_X9_advance rfl (q_recvOf lc_1 rfl) (Nat.le_of_ble_eq_true rfl) (fun s15 e16 => ?_)
    refine e_L 1 (f' := (146, [(0, .ref 65), (1, .int a1), (2, .int a2)], [])) rfl ?_
    exact e_rV rfl rfl
noncomputable def L_X6_readAsked_59 (en : pN) (d : Nat) (v1 : Int32) (v2 : Int32) (vs0 : Int32) (s : qS) : Option qR := qE (qev en d) en none tb_X6_readAsked (59, [(0, .ref 65), (1, .int v1), (2, .int v2)], [.int vs0]) s
noncomputable def L_X6_readAsked_80 (en : pN) (d : Nat) (v1 : Int32) (v2 : Int32) (s : qS) : Option qR := qE (qev en d) en none tb_X6_readAsked (80, [(0, .ref 65), (1, .int v1), (2, .int v2)], []) s
noncomputable def L_X6_readAsked_133 (en : pN) (d : Nat) (v2 : Int32) (vs0 : Int32) (s : qS) : Option qR := qE (qev en d) en none tb_X6_readAsked (133, [(0, .ref 65), (2, .int v2)], [.int vs0]) s
set_option maxRecDepth 100000 in
set_option maxHeartbeats 4000000 in
theorem le_X6_readAsked_59 (en : pN) (d : Nat) (v1 : Int32) (v2 : Int32) (vs0 : Int32) (s : qS) : qle (if ¬ (s.1 1 9) = (2 : Int32) then L_X6_readAsked_80 en d v1 v2 s else if ¬ vs0 = (0 : Int32) then L_X6_readAsked_80 en d v1 v2 s else bV (qev en d 114 [.ref 65, .int (3 : Int32)] s) (fun s4 => L_X6_readAsked_80 en d v1 v2 s4)) (L_X6_readAsked_59 en d v1 v2 vs0 s) := by
  show qle _ (qE (qev en d) en none tb_X6_readAsked (59, [(0, .ref 65), (1, .int v1), (2, .int v2)], [.int vs0]) s)
  refine e_L 2 (f' := (61, [(3, .int vs0), (0, .ref 65), (1, .int v1), (2, .int v2)], [.ref 65])) rfl ?_
  refine e_gR (q := 1) 6 0 rfl rfl lc_65 lr_65_0 ?_
  refine e_gI 9 9 rfl rfl lc_1 ?_
  refine e_L 1 (f' := (68, [(3, .int vs0), (0, .ref 65), (1, .int v1), (2, .int v2)], [.int (2 : Int32), .int (s.1 1 9)])) rfl ?_
  refine e_icmp 80 rfl rfl rfl (fun c1 => ?_) (fun c1 => ?_)
  · exact qE_sub (qsubL [1, 2, 3] rfl (ks := [3, 0, 1, 2]) rfl (by decide))
  · refine e_L 1 (f' := (72, [(3, .int vs0), (0, .ref 65), (1, .int v1), (2, .int v2)], [.int vs0])) rfl ?_
    refine e_ifz 80 rfl rfl rfl (fun c2 => ?_) (fun c2 => ?_)
    · exact qE_sub (qsubL [1, 2, 3] rfl (ks := [3, 0, 1, 2]) rfl (by decide))
    · refine e_L 2 (f' := (77, [(3, .int vs0), (0, .ref 65), (1, .int v1), (2, .int v2)], [.int (3 : Int32), .ref 65])) rfl ?_
      refine e_vV 114 rfl rfl ix_X6_blame rfl (q_recvOf lc_65 rfl) (Nat.le_of_ble_eq_true rfl) (fun s4 e5 => ?_)
      exact qE_sub (qsubL [1, 2, 3] rfl (ks := [3, 0, 1, 2]) rfl (by decide))
set_option maxRecDepth 100000 in
set_option maxHeartbeats 4000000 in
theorem le_X6_readAsked_80 (en : pN) (d : Nat) (v1 : Int32) (v2 : Int32) (s : qS) : qle (bV (qev en d 115 [.ref 65, .int (2 : Int32)] s) (fun s2 => if ¬ v1 = (331 : Int32) then if ¬ v1 = (328 : Int32) then if ¬ v1 = (329 : Int32) then L_X6_readAsked_133 en d v2 (2 : Int32) s2 else L_X6_readAsked_133 en d v2 (5 : Int32) s2 else L_X6_readAsked_133 en d v2 (4 : Int32) s2 else gd (s2.2.2 65 7 ≠ 0 ∧ lc (s2.2.2 65 7 - 1) = 4) (nm (s2.2.2 65 7 - 1) (fun q8 => bV (qev en d 76 [.ref q8, .int (2 : Int32), .int (((40 : Int32) + v2) - (8 : Int32))] s2) (fun s10 => some (none, s10)))))) (L_X6_readAsked_80 en d v1 v2 s) := by
  show qle _ (qE (qev en d) en none tb_X6_readAsked (80, [(0, .ref 65), (1, .int v1), (2, .int v2)], []) s)
  refine e_L 2 (f' := (82, [(0, .ref 65), (1, .int v1), (2, .int v2)], [.int (2 : Int32), .ref 65])) rfl ?_
  refine e_vV 115 rfl rfl ix_X6_need rfl (q_recvOf lc_65 rfl) (Nat.le_of_ble_eq_true rfl) (fun s2 e3 => ?_)
  refine e_L 2 (f' := (89, [(0, .ref 65), (1, .int v1), (2, .int v2)], [.int (331 : Int32), .int v1])) rfl ?_
  refine e_icmp 110 rfl rfl rfl (fun c4 => ?_) (fun c4 => ?_)
  · refine e_L 2 (f' := (114, [(0, .ref 65), (1, .int v1), (2, .int v2)], [.int (328 : Int32), .int v1])) rfl ?_
    refine e_icmp 121 rfl rfl rfl (fun c5 => ?_) (fun c5 => ?_)
    · refine e_L 2 (f' := (125, [(0, .ref 65), (1, .int v1), (2, .int v2)], [.int (329 : Int32), .int v1])) rfl ?_
      refine e_icmp 132 rfl rfl rfl (fun c6 => ?_) (fun c6 => ?_)
      · refine e_L 1 (f' := (133, [(0, .ref 65), (1, .int v1), (2, .int v2)], [.int (2 : Int32)])) rfl ?_
        exact qE_sub (qsubL [0, 2] rfl (ks := [0, 1, 2]) rfl (by decide))
      · refine e_L 2 (f' := (133, [(0, .ref 65), (1, .int v1), (2, .int v2)], [.int (5 : Int32)])) rfl ?_
        exact qE_sub (qsubL [0, 2] rfl (ks := [0, 1, 2]) rfl (by decide))
    · refine e_L 2 (f' := (133, [(0, .ref 65), (1, .int v1), (2, .int v2)], [.int (4 : Int32)])) rfl ?_
      exact qE_sub (qsubL [0, 2] rfl (ks := [0, 1, 2]) rfl (by decide))
  · refine e_L 1 (f' := (93, [(0, .ref 65), (1, .int v1), (2, .int v2)], [.ref 65])) rfl ?_
    refine qle_gd fun h7 => ?_
    refine e_gM 6 7 rfl rfl lc_65 h7.1 ?_
    refine e_nR (ci := 4) h7.2 fun q8 h_q8 => ?_
    refine e_L 6 (f' := (104, [(0, .ref 65), (1, .int v1), (2, .int v2)], [.int (((40 : Int32) + v2) - (8 : Int32)), .int (2 : Int32), .ref q8])) rfl ?_
    refine e_vV 76 rfl rfl ix_X4_put rfl (q_recvOf h_q8 rfl) (Nat.le_of_ble_eq_true rfl) (fun s10 e11 => ?_)
    refine e_L 1 (f' := (153, [(0, .ref 65), (1, .int v1), (2, .int v2)], [])) rfl ?_
    exact e_rV rfl rfl
set_option maxRecDepth 100000 in
set_option maxHeartbeats 4000000 in
theorem le_X6_readAsked_133 (en : pN) (d : Nat) (v2 : Int32) (vs0 : Int32) (s : qS) : qle (gd (s.2.2 65 7 ≠ 0 ∧ lc (s.2.2 65 7 - 1) = 4) (nm (s.2.2 65 7 - 1) (fun q2 => bV (qev en d 76 [.ref q2, .int (3 : Int32), .int (((v2 - (12 : Int32)) * (8 : Int32)) + vs0)] s) (fun s4 => some (none, s4))))) (L_X6_readAsked_133 en d v2 vs0 s) := by
  show qle _ (qE (qev en d) en none tb_X6_readAsked (133, [(0, .ref 65), (2, .int v2)], [.int vs0]) s)
  refine e_L 2 (f' := (136, [(4, .int vs0), (0, .ref 65), (2, .int v2)], [.ref 65])) rfl ?_
  refine qle_gd fun h1 => ?_
  refine e_gM 6 7 rfl rfl lc_65 h1.1 ?_
  refine e_nR (ci := 4) h1.2 fun q2 h_q2 => ?_
  refine e_L 8 (f' := (150, [(4, .int vs0), (0, .ref 65), (2, .int v2)], [.int (((v2 - (12 : Int32)) * (8 : Int32)) + vs0), .int (3 : Int32), .ref q2])) rfl ?_
  refine e_vV 76 rfl rfl ix_X4_put rfl (q_recvOf h_q2 rfl) (Nat.le_of_ble_eq_true rfl) (fun s4 e5 => ?_)
  exact e_rV rfl rfl
set_option maxRecDepth 100000 in
set_option maxHeartbeats 4000000 in
theorem le_X6_readAsked (en : pN) (d : Nat) (a1 : Int32) (s : qS) : qle (bV (qev en d 167 [.ref 1] s) (fun s2 => if ¬ a1 = (332 : Int32) then bI (qev en d 84 [.ref 11, .long (s2.2.1 1 11)] s2) (fun w5 s6 => if ¬ a1 = (331 : Int32) then bI (qev en d 87 [.int w5] s6) (fun w9 s10 => L_X6_readAsked_59 en d a1 w5 w9 s10) else bI (qev en d 86 [.int w5] s6) (fun w12 s13 => L_X6_readAsked_59 en d a1 w5 w12 s13)) else gd (s2.2.2 65 7 ≠ 0 ∧ lc (s2.2.2 65 7 - 1) = 4) (nm (s2.2.2 65 7 - 1) (fun q16 => bV (qev en d 76 [.ref q16, .int (2 : Int32), .int (234 : Int32)] s2) (fun s18 => some (none, s18)))))) (qev en (d + 1) 143 [.ref 65, .int a1] s) := by
  refine e_enter ix_X6_readAsked (Nat.le_of_ble_eq_true rfl) ?_
  show qle _ (qE (qev en d) en none tb_X6_readAsked (0, [(0, .ref 65), (1, .int a1)], []) s)
  refine e_L 1 (f' := (1, [(0, .ref 65), (1, .int a1)], [.ref 65])) rfl ?_
  refine e_gR (q := 1) 6 0 rfl rfl lc_65 lr_65_0 ?_
  refine e_vV 167 rfl rfl ix_X9_advance rfl (q_recvOf lc_1 rfl) (Nat.le_of_ble_eq_true rfl) (fun s2 e3 => ?_)
  refine e_L 2 (f' := (11, [(0, .ref 65), (1, .int a1)], [.int (332 : Int32), .int a1])) rfl ?_
  refine e_icmp 26 rfl rfl rfl (fun c4 => ?_) (fun c4 => ?_)
  · refine e_L 1 (f' := (27, [(0, .ref 65), (1, .int a1)], [.ref 65])) rfl ?_
    refine e_gR (q := 11) 6 1 rfl rfl lc_65 lr_65_1 ?_
    refine e_L 1 (f' := (31, [(0, .ref 65), (1, .int a1)], [.ref 65, .ref 11])) rfl ?_
    refine e_gR (q := 1) 6 0 rfl rfl lc_65 lr_65_0 ?_
    refine e_gJ 9 11 rfl rfl lc_1 ?_
    refine e_vI 84 rfl rfl ix_X5_named rfl (q_recvOf lc_11 rfl) (Nat.le_of_ble_eq_true rfl) (fun w5 s6 e7 => ?_)
    refine e_L 3 (f' := (45, [(2, .int w5), (0, .ref 65), (1, .int a1)], [.int (331 : Int32), .int a1])) rfl ?_
    refine e_icmp 55 rfl rfl rfl (fun c8 => ?_) (fun c8 => ?_)
    · refine e_L 1 (f' := (56, [(2, .int w5), (0, .ref 65), (1, .int a1)], [.int w5])) rfl ?_
      refine e_sI 87 rfl rfl rfl ix_X5_isThread rfl (Nat.le_of_ble_eq_true rfl) (fun w9 s10 e11 => ?_)
      exact qE_sub (qsubL [1, 2, 0] rfl (ks := [2, 0, 1]) rfl (by decide))
    · refine e_L 1 (f' := (49, [(2, .int w5), (0, .ref 65), (1, .int a1)], [.int w5])) rfl ?_
      refine e_sI 86 rfl rfl rfl ix_X5_isLock rfl (Nat.le_of_ble_eq_true rfl) (fun w12 s13 e14 => ?_)
      refine e_L 1 (f' := (59, [(2, .int w5), (0, .ref 65), (1, .int a1)], [.int w12])) rfl ?_
      exact qE_sub (qsubL [1, 2, 0] rfl (ks := [2, 0, 1]) rfl (by decide))
  · refine e_L 1 (f' := (15, [(0, .ref 65), (1, .int a1)], [.ref 65])) rfl ?_
    refine qle_gd fun h15 => ?_
    refine e_gM 6 7 rfl rfl lc_65 h15.1 ?_
    refine e_nR (ci := 4) h15.2 fun q16 h_q16 => ?_
    refine e_L 2 (f' := (22, [(0, .ref 65), (1, .int a1)], [.int (234 : Int32), .int (2 : Int32), .ref q16])) rfl ?_
    refine e_vV 76 rfl rfl ix_X4_put rfl (q_recvOf h_q16 rfl) (Nat.le_of_ble_eq_true rfl) (fun s18 e19 => ?_)
    exact e_rV rfl rfl
noncomputable def L_X6_readCellOrLocal_89 (en : pN) (d : Nat) (v2 : Int32) (v3 : Int32) (s : qS) : Option qR := qE (qev en d) en none tb_X6_readCellOrLocal (89, [(0, .ref 65), (2, .int v2), (3, .int v3)], []) s
set_option maxRecDepth 100000 in
set_option maxHeartbeats 4000000 in
theorem le_X6_readCellOrLocal_89 (en : pN) (d : Nat) (v2 : Int32) (v3 : Int32) (s : qS) : qle (bV (qev en d 115 [.ref 65, .int (2 : Int32)] s) (fun s2 => gd (s2.2.2 65 7 ≠ 0 ∧ lc (s2.2.2 65 7 - 1) = 4) (nm (s2.2.2 65 7 - 1) (fun q5 => bI (qev en d 32 [.int v2, .int v3] s2) (fun w6 s7 => bV (qev en d 76 [.ref q5, .int (2 : Int32), .int w6] s7) (fun s10 => some (none, s10))))))) (L_X6_readCellOrLocal_89 en d v2 v3 s) := by
  show qle _ (qE (qev en d) en none tb_X6_readCellOrLocal (89, [(0, .ref 65), (2, .int v2), (3, .int v3)], []) s)
  refine e_L 2 (f' := (91, [(0, .ref 65), (2, .int v2), (3, .int v3)], [.int (2 : Int32), .ref 65])) rfl ?_
  refine e_vV 115 rfl rfl ix_X6_need rfl (q_recvOf lc_65 rfl) (Nat.le_of_ble_eq_true rfl) (fun s2 e3 => ?_)
  refine e_L 1 (f' := (95, [(0, .ref 65), (2, .int v2), (3, .int v3)], [.ref 65])) rfl ?_
  refine qle_gd fun h4 => ?_
  refine e_gM 6 7 rfl rfl lc_65 h4.1 ?_
  refine e_nR (ci := 4) h4.2 fun q5 h_q5 => ?_
  refine e_L 3 (f' := (101, [(0, .ref 65), (2, .int v2), (3, .int v3)], [.int v3, .int v2, .int (2 : Int32), .ref q5])) rfl ?_
  refine e_sI 32 rfl rfl rfl ix_X3_localSlot rfl (Nat.le_of_ble_eq_true rfl) (fun w6 s7 e8 => ?_)
  refine e_vV 76 rfl rfl ix_X4_put rfl (q_recvOf h_q5 rfl) (Nat.le_of_ble_eq_true rfl) (fun s10 e11 => ?_)
  exact e_rV rfl rfl
set_option maxRecDepth 100000 in
set_option maxHeartbeats 4000000 in
theorem le_X6_readCellOrLocal (en : pN) (d : Nat) (s : qS) : qle (bI (qev en d 84 [.ref 11, .long (s.2.1 1 11)] s) (fun w1 s2 => bV (qev en d 167 [.ref 1] s2) (fun s5 => bI (qev en d 85 [.int w1] s5) (fun w7 s8 => if w7 = (0 : Int32) then bV (qev en d 115 [.ref 65, .int (46 : Int32)] s8) (fun s12 => bI (qev en d 88 [.ref 11, .int (w1 - (12 : Int32)), .long (s12.2.1 1 11)] s12) (fun w14 s15 => if ¬ (s15.1 1 9) = (2 : Int32) then L_X6_readCellOrLocal_89 en d (w1 - (12 : Int32)) w14 s15 else if (0 : Int32) ≤ w14 then L_X6_readCellOrLocal_89 en d (w1 - (12 : Int32)) w14 s15 else bV (qev en d 114 [.ref 65, .int (3 : Int32)] s15) (fun s20 => L_X6_readCellOrLocal_89 en d (w1 - (12 : Int32)) w14 s20))) else gd (s8.2.2 65 7 ≠ 0 ∧ lc (s8.2.2 65 7 - 1) = 4) (nm (s8.2.2 65 7 - 1) (fun q23 => bV (qev en d 76 [.ref q23, .int (2 : Int32), .int ((48 : Int32) + w1)] s8) (fun s25 => some (none, s25)))))))) (qev en (d + 1) 144 [.ref 65] s) := by
  refine e_enter ix_X6_readCellOrLocal (Nat.le_of_ble_eq_true rfl) ?_
  show qle _ (qE (qev en d) en none tb_X6_readCellOrLocal (0, [(0, .ref 65)], []) s)
  refine e_L 1 (f' := (1, [(0, .ref 65)], [.ref 65])) rfl ?_
  refine e_gR (q := 11) 6 1 rfl rfl lc_65 lr_65_1 ?_
  refine e_L 1 (f' := (5, [(0, .ref 65)], [.ref 65, .ref 11])) rfl ?_
  refine e_gR (q := 1) 6 0 rfl rfl lc_65 lr_65_0 ?_
  refine e_gJ 9 11 rfl rfl lc_1 ?_
  refine e_vI 84 rfl rfl ix_X5_named rfl (q_recvOf lc_11 rfl) (Nat.le_of_ble_eq_true rfl) (fun w1 s2 e3 => ?_)
  refine e_L 2 (f' := (16, [(1, .int w1), (0, .ref 65)], [.ref 65])) rfl ?_
  refine e_gR (q := 1) 6 0 rfl rfl lc_65 lr_65_0 ?_
  refine e_vV 167 rfl rfl ix_X9_advance rfl (q_recvOf lc_1 rfl) (Nat.le_of_ble_eq_true rfl) (fun s5 e6 => ?_)
  refine e_L 1 (f' := (23, [(1, .int w1), (0, .ref 65)], [.int w1])) rfl ?_
  refine e_sI 85 rfl rfl rfl ix_X5_isCell rfl (Nat.le_of_ble_eq_true rfl) (fun w7 s8 e9 => ?_)
  refine e_ifz 42 rfl rfl rfl (fun c10 => ?_) (fun c10 => ?_)
  · refine e_L 2 (f' := (45, [(1, .int w1), (0, .ref 65)], [.int (46 : Int32), .ref 65])) rfl ?_
    refine e_vV 115 rfl rfl ix_X6_need rfl (q_recvOf lc_65 rfl) (Nat.le_of_ble_eq_true rfl) (fun s12 e13 => ?_)
    refine e_L 5 (f' := (54, [(2, .int (w1 - (12 : Int32))), (1, .int w1), (0, .ref 65)], [.ref 65])) rfl ?_
    refine e_gR (q := 11) 6 1 rfl rfl lc_65 lr_65_1 ?_
    refine e_L 2 (f' := (59, [(2, .int (w1 - (12 : Int32))), (1, .int w1), (0, .ref 65)], [.ref 65, .int (w1 - (12 : Int32)), .ref 11])) rfl ?_
    refine e_gR (q := 1) 6 0 rfl rfl lc_65 lr_65_0 ?_
    refine e_gJ 9 11 rfl rfl lc_1 ?_
    refine e_vI 88 rfl rfl ix_X5_localOf rfl (q_recvOf lc_11 rfl) (Nat.le_of_ble_eq_true rfl) (fun w14 s15 e16 => ?_)
    refine e_L 2 (f' := (70, [(3, .int w14), (2, .int (w1 - (12 : Int32))), (1, .int w1), (0, .ref 65)], [.ref 65])) rfl ?_
    refine e_gR (q := 1) 6 0 rfl rfl lc_65 lr_65_0 ?_
    refine e_gI 9 9 rfl rfl lc_1 ?_
    refine e_L 1 (f' := (77, [(3, .int w14), (2, .int (w1 - (12 : Int32))), (1, .int w1), (0, .ref 65)], [.int (2 : Int32), .int (s15.1 1 9)])) rfl ?_
    refine e_icmp 89 rfl rfl rfl (fun c17 => ?_) (fun c17 => ?_)
    · exact qE_sub (qsubL [3, 1, 0] rfl (ks := [3, 2, 1, 0]) rfl (by decide))
    · refine e_L 1 (f' := (81, [(3, .int w14), (2, .int (w1 - (12 : Int32))), (1, .int w1), (0, .ref 65)], [.int w14])) rfl ?_
      refine e_ifz 89 rfl rfl rfl (fun c18 => ?_) (fun c18 => ?_)
      · exact qE_sub (qsubL [3, 1, 0] rfl (ks := [3, 2, 1, 0]) rfl (by decide))
      · refine e_L 2 (f' := (86, [(3, .int w14), (2, .int (w1 - (12 : Int32))), (1, .int w1), (0, .ref 65)], [.int (3 : Int32), .ref 65])) rfl ?_
        refine e_vV 114 rfl rfl ix_X6_blame rfl (q_recvOf lc_65 rfl) (Nat.le_of_ble_eq_true rfl) (fun s20 e21 => ?_)
        exact qE_sub (qsubL [3, 1, 0] rfl (ks := [3, 2, 1, 0]) rfl (by decide))
  · refine e_L 1 (f' := (30, [(1, .int w1), (0, .ref 65)], [.ref 65])) rfl ?_
    refine qle_gd fun h22 => ?_
    refine e_gM 6 7 rfl rfl lc_65 h22.1 ?_
    refine e_nR (ci := 4) h22.2 fun q23 h_q23 => ?_
    refine e_L 4 (f' := (38, [(1, .int w1), (0, .ref 65)], [.int ((48 : Int32) + w1), .int (2 : Int32), .ref q23])) rfl ?_
    refine e_vV 76 rfl rfl ix_X4_put rfl (q_recvOf h_q23 rfl) (Nat.le_of_ble_eq_true rfl) (fun s25 e26 => ?_)
    exact e_rV rfl rfl
