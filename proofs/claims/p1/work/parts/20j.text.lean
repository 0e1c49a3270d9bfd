/-! what methods do, printed by program out of their tables: X12_readThread .. -/
noncomputable def L_X12_readThread_16 (en : pN) (d : Nat) (s : qS) : Option qR := qE (qev en d) en none tb_X12_readThread (16, [(0, .ref 151)], []) s
noncomputable def L_X12_readThread_47 (en : pN) (d : Nat) (vs1 : Int32) (s : qS) : Option qR := qE (qev en d) en none tb_X12_readThread (47, [(0, .ref 151)], [.int vs1, .ref 151]) s
noncomputable def L_X12_readThread_51 (en : pN) (d : Nat) (s : qS) : Option qR := qE (qev en d) en none tb_X12_readThread (51, [(0, .ref 151)], []) s
noncomputable def L_X12_readThread_72 (en : pN) (d : Nat) (vs1 : Int32) (s : qS) : Option qR := qE (qev en d) en none tb_X12_readThread (72, [(0, .ref 151)], [.int vs1, .ref 151]) s
noncomputable def L_X12_readThread_76 (en : pN) (d : Nat) (s : qS) : Option qR := qE (qev en d) en none tb_X12_readThread (76, [(0, .ref 151)], []) s
noncomputable def L_X12_readThread_175 (en : pN) (d : Nat) (s : qS) : Option qR := qE (qev en d) en none tb_X12_readThread (175, [(0, .ref 151)], []) s
set_option maxRecDepth 100000 in
set_option maxHeartbeats 4000000 in
theorem le_X12_readThread_16 (en : pN) (d : Nat) (s : qS) : qle (bI (qev en d 243 [.ref 151] s) (fun w1 s2 => if w1 = (0 : Int32) then L_X12_readThread_51 en d s2 else bI (qev en d 260 [.ref 151, .long (s2.2.1 151 5)] s2) (fun w5 s6 => if ¬ w5 = (0 : Int32) then L_X12_readThread_47 en d (0 : Int32) s6 else bI (qev en d 285 [.ref 151] s6) (fun w9 s10 => if ¬ w9 = (0 : Int32) then L_X12_readThread_47 en d (0 : Int32) s10 else L_X12_readThread_47 en d (1 : Int32) s10)))) (L_X12_readThread_16 en d s) := by
  show qle _ (qE (qev en d) en none tb_X12_readThread (16, [(0, .ref 151)], []) s)
  refine e_L 1 (f' := (17, [(0, .ref 151)], [.ref 151])) rfl ?_
  refine e_vI 243 rfl rfl ix_X12_good rfl (q_recvOf lc_151 rfl) (Nat.le_of_ble_eq_true rfl) (fun w1 s2 e3 => ?_)
  refine e_ifz 51 rfl rfl rfl (fun c4 => ?_) (fun c4 => ?_)
  · exact qE_sub (qsubL [0] rfl (ks := [0]) rfl (by decide))
  · refine e_L 3 (f' := (26, [(0, .ref 151)], [.ref 151, .ref 151, .ref 151])) rfl ?_
    refine e_gJ 12 5 rfl rfl lc_151 ?_
    refine e_vI 260 rfl rfl ix_X12_isTold rfl (q_recvOf lc_151 rfl) (Nat.le_of_ble_eq_true rfl) (fun w5 s6 e7 => ?_)
    refine e_ifz 46 rfl rfl rfl (fun c8 => ?_) (fun c8 => ?_)
    · refine e_L 1 (f' := (47, [(0, .ref 151)], [.int (0 : Int32), .ref 151])) rfl ?_
      exact qE_sub (qsubL [0] rfl (ks := [0]) rfl (by decide))
    · refine e_L 1 (f' := (36, [(0, .ref 151)], [.ref 151, .ref 151])) rfl ?_
      refine e_vI 285 rfl rfl ix_X12_isLocalOfSome rfl (q_recvOf lc_151 rfl) (Nat.le_of_ble_eq_true rfl) (fun w9 s10 e11 => ?_)
      refine e_ifz 46 rfl rfl rfl (fun c12 => ?_) (fun c12 => ?_)
      · refine e_L 1 (f' := (47, [(0, .ref 151)], [.int (0 : Int32), .ref 151])) rfl ?_
        exact qE_sub (qsubL [0] rfl (ks := [0]) rfl (by decide))
      · refine e_L 2 (f' := (47, [(0, .ref 151)], [.int (1 : Int32), .ref 151])) rfl ?_
        exact qE_sub (qsubL [0] rfl (ks := [0]) rfl (by decide))
set_option maxRecDepth 100000 in
set_option maxHeartbeats 4000000 in
theorem le_X12_readThread_47 (en : pN) (d : Nat) (vs1 : Int32) (s : qS) : qle (bV (qev en d 245 [.ref 151, .int vs1, .int (3 : Int32)] s) (fun s2 => L_X12_readThread_51 en d s2)) (L_X12_readThread_47 en d vs1 s) := by
  show qle _ (qE (qev en d) en none tb_X12_readThread (47, [(0, .ref 151)], [.int vs1, .ref 151]) s)
  refine e_L 1 (f' := (48, [(0, .ref 151)], [.int (3 : Int32), .int vs1, .ref 151])) rfl ?_
  refine e_vV 245 rfl rfl ix_X12_need rfl (q_recvOf lc_151 rfl) (Nat.le_of_ble_eq_true rfl) (fun s2 e3 => ?_)
  exact qE_sub (qsubL [0] rfl (ks := [0]) rfl (by decide))
set_option maxRecDepth 100000 in
set_option maxHeartbeats 4000000 in
theorem le_X12_readThread_51 (en : pN) (d : Nat) (s : qS) : qle (bI (qev en d 243 [.ref 151] s) (fun w1 s2 => if w1 = (0 : Int32) then L_X12_readThread_76 en d s2 else if (4 : Int32) ≤ (s2.1 151 18) then L_X12_readThread_72 en d (0 : Int32) s2 else L_X12_readThread_72 en d (1 : Int32) s2)) (L_X12_readThread_51 en d s) := by
  show qle _ (qE (qev en d) en none tb_X12_readThread (51, [(0, .ref 151)], []) s)
  refine e_L 1 (f' := (52, [(0, .ref 151)], [.ref 151])) rfl ?_
  refine e_vI 243 rfl rfl ix_X12_good rfl (q_recvOf lc_151 rfl) (Nat.le_of_ble_eq_true rfl) (fun w1 s2 e3 => ?_)
  refine e_ifz 76 rfl rfl rfl (fun c4 => ?_) (fun c4 => ?_)
  · exact qE_sub (qsubL [0] rfl (ks := [0]) rfl (by decide))
  · refine e_L 2 (f' := (60, [(0, .ref 151)], [.ref 151, .ref 151])) rfl ?_
    refine e_gI 12 18 rfl rfl lc_151 ?_
    refine e_L 1 (f' := (64, [(0, .ref 151)], [.int (4 : Int32), .int (s2.1 151 18), .ref 151])) rfl ?_
    refine e_icmp 71 rfl rfl rfl (fun c5 => ?_) (fun c5 => ?_)
    · refine e_L 1 (f' := (72, [(0, .ref 151)], [.int (0 : Int32), .ref 151])) rfl ?_
      exact qE_sub (qsubL [0] rfl (ks := [0]) rfl (by decide))
    · refine e_L 2 (f' := (72, [(0, .ref 151)], [.int (1 : Int32), .ref 151])) rfl ?_
      exact qE_sub (qsubL [0] rfl (ks := [0]) rfl (by decide))
set_option maxRecDepth 100000 in
set_option maxHeartbeats 4000000 in
theorem le_X12_readThread_72 (en : pN) (d : Nat) (vs1 : Int32) (s : qS) : qle (bV (qev en d 245 [.ref 151, .int vs1, .int (4 : Int32)] s) (fun s2 => L_X12_readThread_76 en d s2)) (L_X12_readThread_72 en d vs1 s) := by
  show qle _ (qE (qev en d) en none tb_X12_readThread (72, [(0, .ref 151)], [.int vs1, .ref 151]) s)
  refine e_L 1 (f' := (73, [(0, .ref 151)], [.int (4 : Int32), .int vs1, .ref 151])) rfl ?_
  refine e_vV 245 rfl rfl ix_X12_need rfl (q_recvOf lc_151 rfl) (Nat.le_of_ble_eq_true rfl) (fun s2 e3 => ?_)
  exact qE_sub (qsubL [0] rfl (ks := [0]) rfl (by decide))
set_option maxRecDepth 100000 in
set_option maxHeartbeats 4000000 in
theorem le_X12_readThread_76 (en : pN) (d : Nat) (s : qS) : qle (bI (qev en d 243 [.ref 151] s) (fun w1 s2 => if ¬ w1 = (0 : Int32) then gd (p_inB (s2.1 151 18) 4 = true) (nm (uJ s2 157 ((s2.1 151 18).toNatClampNeg) (s2.2.1 151 5)) (fun s6 => gd (p_inB (s6.1 151 18) 4 = true) (nm (uI s6 158 ((s6.1 151 18).toNatClampNeg) (vp_nar .boolean (0 : Int32))) (fun s8 => gd (p_inB (s8.1 151 18) 4 = true) (nm (uI s8 159 ((s8.1 151 18).toNatClampNeg) (0 : Int32)) (fun s10 => gd (p_inB (s10.1 151 18) 16 = true) (nm (uI s10 181 ((s10.1 151 18).toNatClampNeg) (-2 : Int32)) (fun s12 => nm (uI s12 151 18 ((s12.1 151 18) + (1 : Int32))) (fun s13 => bV (qev en d 249 [.ref 151] s13) (fun s15 => bI (qev en d 243 [.ref 151] s15) (fun w17 s18 => if w17 = (0 : Int32) then L_X12_readThread_175 en d s18 else bI (qev en d 255 [.ref 151, .long (465491486066 : Int64)] s18) (fun w21 s22 => if w21 = (0 : Int32) then L_X12_readThread_175 en d s22 else gd (p_inB ((s22.1 151 18) - (1 : Int32)) 4 = true) (nm (uI s22 158 (((s22.1 151 18) - (1 : Int32)).toNatClampNeg) (vp_nar .boolean (1 : Int32))) (fun s26 => bV (qev en d 249 [.ref 151] s26) (fun s28 => L_X12_readThread_175 en d s28))))))))))))))) else some (none, s2))) (L_X12_readThread_76 en d s) := by
  show qle _ (qE (qev en d) en none tb_X12_readThread (76, [(0, .ref 151)], []) s)
  refine e_L 1 (f' := (77, [(0, .ref 151)], [.ref 151])) rfl ?_
  refine e_vI 243 rfl rfl ix_X12_good rfl (q_recvOf lc_151 rfl) (Nat.le_of_ble_eq_true rfl) (fun w1 s2 e3 => ?_)
  refine e_ifz 84 rfl rfl rfl (fun c4 => ?_) (fun c4 => ?_)
  · refine e_L 1 (f' := (85, [(0, .ref 151)], [.ref 151])) rfl ?_
    refine e_gR (q := 157) 12 19 rfl rfl lc_151 lr_151_19 ?_
    refine e_L 1 (f' := (89, [(0, .ref 151)], [.ref 151, .ref 157])) rfl ?_
    refine e_gI 12 18 rfl rfl lc_151 ?_
    refine e_L 1 (f' := (93, [(0, .ref 151)], [.ref 151, .int (s2.1 151 18), .ref 157])) rfl ?_
    refine e_gJ 12 5 rfl rfl lc_151 ?_
    refine qle_gd fun h5 => ?_
    refine e_las (n := 4) (k := (s2.1 151 18).toNatClampNeg) rfl lc_157 ln_157 h5 rfl ?_
    refine e_nS fun s6 => ?_
    refine e_L 1 (f' := (98, [(0, .ref 151)], [.ref 151])) rfl ?_
    refine e_gR (q := 158) 12 20 rfl rfl lc_151 lr_151_20 ?_
    refine e_L 1 (f' := (102, [(0, .ref 151)], [.ref 151, .ref 158])) rfl ?_
    refine e_gI 12 18 rfl rfl lc_151 ?_
    refine e_L 1 (f' := (106, [(0, .ref 151)], [.int (0 : Int32), .int (s6.1 151 18), .ref 158])) rfl ?_
    refine qle_gd fun h7 => ?_
    refine e_bas (n := 4) (k := (s6.1 151 18).toNatClampNeg) rfl lc_158 ln_158 h7 rfl ?_
    refine e_nS fun s8 => ?_
    refine e_L 1 (f' := (108, [(0, .ref 151)], [.ref 151])) rfl ?_
    refine e_gR (q := 159) 12 21 rfl rfl lc_151 lr_151_21 ?_
    refine e_L 1 (f' := (112, [(0, .ref 151)], [.ref 151, .ref 159])) rfl ?_
    refine e_gI 12 18 rfl rfl lc_151 ?_
    refine e_L 1 (f' := (116, [(0, .ref 151)], [.int (0 : Int32), .int (s8.1 151 18), .ref 159])) rfl ?_
    refine qle_gd fun h9 => ?_
    refine e_ias (n := 4) (k := (s8.1 151 18).toNatClampNeg) rfl lc_159 ln_159 h9 rfl ?_
    refine e_nS fun s10 => ?_
    refine e_L 1 (f' := (118, [(0, .ref 151)], [.ref 151])) rfl ?_
    refine e_gR (q := 181) 12 50 rfl rfl lc_151 lr_151_50 ?_
    refine e_L 1 (f' := (122, [(0, .ref 151)], [.ref 151, .ref 181])) rfl ?_
    refine e_gI 12 18 rfl rfl lc_151 ?_
    refine e_L 1 (f' := (127, [(0, .ref 151)], [.int (-2 : Int32), .int (s10.1 151 18), .ref 181])) rfl ?_
    refine qle_gd fun h11 => ?_
    refine e_ias (n := 16) (k := (s10.1 151 18).toNatClampNeg) rfl lc_181 ln_181 h11 rfl ?_
    refine e_nS fun s12 => ?_
    refine e_L 2 (f' := (130, [(0, .ref 151)], [.ref 151, .ref 151])) rfl ?_
    refine e_gI 12 18 rfl rfl lc_151 ?_
    refine e_L 2 (f' := (135, [(0, .ref 151)], [.int ((s12.1 151 18) + (1 : Int32)), .ref 151])) rfl ?_
    refine e_pI 12 18 rfl rfl lc_151 rfl ?_
    refine e_nS fun s13 => ?_
    refine e_L 1 (f' := (139, [(0, .ref 151)], [.ref 151])) rfl ?_
    refine e_vV 249 rfl rfl ix_X12_next rfl (q_recvOf lc_151 rfl) (Nat.le_of_ble_eq_true rfl) (fun s15 e16 => ?_)
    refine e_L 1 (f' := (143, [(0, .ref 151)], [.ref 151])) rfl ?_
    refine e_vI 243 rfl rfl ix_X12_good rfl (q_recvOf lc_151 rfl) (Nat.le_of_ble_eq_true rfl) (fun w17 s18 e19 => ?_)
    refine e_ifz 175 rfl rfl rfl (fun c20 => ?_) (fun c20 => ?_)
    · exact qE_sub (qsubL [0] rfl (ks := [0]) rfl (by decide))
    · refine e_L 1 (f' := (150, [(0, .ref 151)], [.ref 151])) rfl ?_
      refine e_gs (w := .long (465491486066 : Int64)) rfl rfl ?_
      refine e_vI 255 rfl rfl ix_X12_isWord rfl (q_recvOf lc_151 rfl) (Nat.le_of_ble_eq_true rfl) (fun w21 s22 e23 => ?_)
      refine e_ifz 175 rfl rfl rfl (fun c24 => ?_) (fun c24 => ?_)
      · exact qE_sub (qsubL [0] rfl (ks := [0]) rfl (by decide))
      · refine e_L 1 (f' := (160, [(0, .ref 151)], [.ref 151])) rfl ?_
        refine e_gR (q := 158) 12 20 rfl rfl lc_151 lr_151_20 ?_
        refine e_L 1 (f' := (164, [(0, .ref 151)], [.ref 151, .ref 158])) rfl ?_
        refine e_gI 12 18 rfl rfl lc_151 ?_
        refine e_L 3 (f' := (170, [(0, .ref 151)], [.int (1 : Int32), .int ((s22.1 151 18) - (1 : Int32)), .ref 158])) rfl ?_
        refine qle_gd fun h25 => ?_
        refine e_bas (n := 4) (k := ((s22.1 151 18) - (1 : Int32)).toNatClampNeg) rfl lc_158 ln_158 h25 rfl ?_
        refine e_nS fun s26 => ?_
        refine e_L 1 (f' := (172, [(0, .ref 151)], [.ref 151])) rfl ?_
        refine e_vV 249 rfl rfl ix_X12_next rfl (q_recvOf lc_151 rfl) (Nat.le_of_ble_eq_true rfl) (fun s28 e29 => ?_)
        exact qE_sub (qsubL [0] rfl (ks := [0]) rfl (by decide))
  · exact e_rV rfl rfl
set_option maxRecDepth 100000 in
set_option maxHeartbeats 4000000 in
theorem le_X12_readThread_175 (en : pN) (d : Nat) (s : qS) : qle (nm (uI s 151 56 (0 : Int32)) (fun s1 => bV (qev en d 274 [.ref 151, .int (-2 : Int32), .int (0 : Int32)] s1) (fun s3 => bV (qev en d 284 [.ref 151] s3) (fun s6 => some (none, s6))))) (L_X12_readThread_175 en d s) := by
  show qle _ (qE (qev en d) en none tb_X12_readThread (175, [(0, .ref 151)], []) s)
  refine e_L 2 (f' := (177, [(0, .ref 151)], [.int (0 : Int32), .ref 151])) rfl ?_
  refine e_pI 12 56 rfl rfl lc_151 rfl ?_
  refine e_nS fun s1 => ?_
  refine e_L 3 (f' := (184, [(0, .ref 151)], [.int (0 : Int32), .int (-2 : Int32), .ref 151])) rfl ?_
  refine e_vV 274 rfl rfl ix_X12_openBlock rfl (q_recvOf lc_151 rfl) (Nat.le_of_ble_eq_true rfl) (fun s3 e4 => ?_)
  refine e_L 1 (f' := (188, [(0, .ref 151)], [.ref 151])) rfl ?_
  refine e_vV 284 rfl rfl ix_X12_readBlocks rfl (q_recvOf lc_151 rfl) (Nat.le_of_ble_eq_true rfl) (fun s6 e7 => ?_)
  exact e_rV rfl rfl
set_option maxRecDepth 100000 in
set_option maxHeartbeats 4000000 in
theorem le_X12_readThread (en : pN) (d : Nat) (s : qS) : qle (bI (qev en d 243 [.ref 151] s) (fun w1 s2 => if w1 = (0 : Int32) then L_X12_readThread_16 en d s2 else bI (qev en d 254 [.ref 151] s2) (fun w5 s6 => bV (qev en d 245 [.ref 151, .int w5, .int (2 : Int32)] s6) (fun s9 => L_X12_readThread_16 en d s9)))) (qev en (d + 1) 288 [.ref 151] s) := by
  refine e_enter ix_X12_readThread (Nat.le_of_ble_eq_true rfl) ?_
  show qle _ (qE (qev en d) en none tb_X12_readThread (0, [(0, .ref 151)], []) s)
  refine e_L 1 (f' := (1, [(0, .ref 151)], [.ref 151])) rfl ?_
  refine e_vI 243 rfl rfl ix_X12_good rfl (q_recvOf lc_151 rfl) (Nat.le_of_ble_eq_true rfl) (fun w1 s2 e3 => ?_)
  refine e_ifz 16 rfl rfl rfl (fun c4 => ?_) (fun c4 => ?_)
  · exact qE_sub (qsubL [0] rfl (ks := [0]) rfl (by decide))
  · refine e_L 2 (f' := (9, [(0, .ref 151)], [.ref 151, .ref 151])) rfl ?_
    refine e_vI 254 rfl rfl ix_X12_isName rfl (q_recvOf lc_151 rfl) (Nat.le_of_ble_eq_true rfl) (fun w5 s6 e7 => ?_)
    refine e_L 1 (f' := (13, [(0, .ref 151)], [.int (2 : Int32), .int w5, .ref 151])) rfl ?_
    refine e_vV 245 rfl rfl ix_X12_need rfl (q_recvOf lc_151 rfl) (Nat.le_of_ble_eq_true rfl) (fun s9 e10 => ?_)
    exact qE_sub (qsubL [0] rfl (ks := [0]) rfl (by decide))
noncomputable def L_X12_program_71 (en : pN) (d : Nat) (s : qS) : Option qR := qE (qev en d) en (some .int) tb_X12_program (71, [(0, .ref 151)], []) s
noncomputable def L_X12_program_134 (en : pN) (d : Nat) (vs1 : Int32) (s : qS) : Option qR := qE (qev en d) en (some .int) tb_X12_program (134, [(0, .ref 151)], [.int vs1, .ref 151]) s
noncomputable def L_X12_program_167 (en : pN) (d : Nat) (s : qS) : Option qR := qE (qev en d) en (some .int) tb_X12_program (167, [(0, .ref 151)], []) s
noncomputable def L_X12_program_205 (en : pN) (d : Nat) (v1 : Int32) (s : qS) : Option qR := qE (qev en d) en (some .int) tb_X12_program (205, [(0, .ref 151), (1, .int v1)], []) s
noncomputable def L_X12_program_242 (en : pN) (d : Nat) (v1 : Int32) (s : qS) : Option qR := qE (qev en d) en (some .int) tb_X12_program (242, [(0, .ref 151), (1, .int v1)], []) s
noncomputable def L_X12_program_285 (en : pN) (d : Nat) (s : qS) : Option qR := qE (qev en d) en (some .int) tb_X12_program (285, [(0, .ref 151)], []) s
noncomputable def L_X12_program_317 (en : pN) (d : Nat) (s : qS) : Option qR := qE (qev en d) en (some .int) tb_X12_program (317, [(0, .ref 151)], []) s
set_option maxRecDepth 100000 in
set_option maxHeartbeats 4000000 in
theorem le_X12_program_71 (en : pN) (d : Nat) (s : qS) : qle (bI (qev en d 243 [.ref 151] s) (fun w1 s2 => if w1 = (0 : Int32) then L_X12_program_205 en d (0 : Int32) s2 else if (s2.1 151 3) = (0 : Int32) then L_X12_program_205 en d (0 : Int32) s2 else bI (qev en d 255 [.ref 151, .long (1667591276 : Int64)] s2) (fun w6 s7 => if w6 = (0 : Int32) then bI (qev en d 255 [.ref 151, .long (1819239275 : Int64)] s7) (fun w10 s11 => if w10 = (0 : Int32) then bI (qev en d 255 [.ref 151, .long (127991944667492 : Int64)] s11) (fun w14 s15 => bV (qev en d 245 [.ref 151, .int w14, .int (2 : Int32)] s15) (fun s18 => bV (qev en d 249 [.ref 151] s18) (fun s21 => bV (qev en d 288 [.ref 151] s21) (fun s24 => L_X12_program_71 en d s24)))) else bV (qev en d 249 [.ref 151] s11) (fun s27 => if (4 : Int32) ≤ (s27.1 151 16) then L_X12_program_134 en d (0 : Int32) s27 else L_X12_program_134 en d (1 : Int32) s27)) else bV (qev en d 249 [.ref 151] s7) (fun s31 => bV (qev en d 287 [.ref 151] s31) (fun s34 => L_X12_program_71 en d s34))))) (L_X12_program_71 en d s) := by
  show qle _ (qE (qev en d) en (some .int) tb_X12_program (71, [(0, .ref 151)], []) s)
  refine e_L 1 (f' := (72, [(0, .ref 151)], [.ref 151])) rfl ?_
  refine e_vI 243 rfl rfl ix_X12_good rfl (q_recvOf lc_151 rfl) (Nat.le_of_ble_eq_true rfl) (fun w1 s2 e3 => ?_)
  refine e_ifz 203 rfl rfl rfl (fun c4 => ?_) (fun c4 => ?_)
  · refine e_L 2 (f' := (205, [(1, .int (0 : Int32)), (0, .ref 151)], [])) rfl ?_
    exact qE_sub (qsubL [1, 0] rfl (ks := [1, 0]) rfl (by decide))
  · refine e_L 1 (f' := (79, [(0, .ref 151)], [.ref 151])) rfl ?_
    refine e_gI 12 3 rfl rfl lc_151 ?_
    refine e_ifz 203 rfl rfl rfl (fun c5 => ?_) (fun c5 => ?_)
    · refine e_L 2 (f' := (205, [(1, .int (0 : Int32)), (0, .ref 151)], [])) rfl ?_
      exact qE_sub (qsubL [1, 0] rfl (ks := [1, 0]) rfl (by decide))
    · refine e_L 1 (f' := (86, [(0, .ref 151)], [.ref 151])) rfl ?_
      refine e_gs (w := .long (1667591276 : Int64)) rfl rfl ?_
      refine e_vI 255 rfl rfl ix_X12_isWord rfl (q_recvOf lc_151 rfl) (Nat.le_of_ble_eq_true rfl) (fun w6 s7 e8 => ?_)
      refine e_ifz 106 rfl rfl rfl (fun c9 => ?_) (fun c9 => ?_)
      · refine e_L 1 (f' := (107, [(0, .ref 151)], [.ref 151])) rfl ?_
        refine e_gs (w := .long (1819239275 : Int64)) rfl rfl ?_
        refine e_vI 255 rfl rfl ix_X12_isWord rfl (q_recvOf lc_151 rfl) (Nat.le_of_ble_eq_true rfl) (fun w10 s11 e12 => ?_)
        refine e_ifz 180 rfl rfl rfl (fun c13 => ?_) (fun c13 => ?_)
        · refine e_L 2 (f' := (182, [(0, .ref 151)], [.ref 151, .ref 151])) rfl ?_
          refine e_gs (w := .long (127991944667492 : Int64)) rfl rfl ?_
          refine e_vI 255 rfl rfl ix_X12_isWord rfl (q_recvOf lc_151 rfl) (Nat.le_of_ble_eq_true rfl) (fun w14 s15 e16 => ?_)
          refine e_L 1 (f' := (189, [(0, .ref 151)], [.int (2 : Int32), .int w14, .ref 151])) rfl ?_
          refine e_vV 245 rfl rfl ix_X12_need rfl (q_recvOf lc_151 rfl) (Nat.le_of_ble_eq_true rfl) (fun s18 e19 => ?_)
          refine e_L 1 (f' := (193, [(0, .ref 151)], [.ref 151])) rfl ?_
          refine e_vV 249 rfl rfl ix_X12_next rfl (q_recvOf lc_151 rfl) (Nat.le_of_ble_eq_true rfl) (fun s21 e22 => ?_)
          refine e_L 1 (f' := (197, [(0, .ref 151)], [.ref 151])) rfl ?_
          refine e_vV 288 rfl rfl ix_X12_readThread rfl (q_recvOf lc_151 rfl) (Nat.le_of_ble_eq_true rfl) (fun s24 e25 => ?_)
          refine e_L 1 (f' := (71, [(0, .ref 151)], [])) rfl ?_
          exact qE_sub (qsubL [0] rfl (ks := [0]) rfl (by decide))
        · refine e_L 1 (f' := (117, [(0, .ref 151)], [.ref 151])) rfl ?_
          refine e_vV 249 rfl rfl ix_X12_next rfl (q_recvOf lc_151 rfl) (Nat.le_of_ble_eq_true rfl) (fun s27 e28 => ?_)
          refine e_L 2 (f' := (122, [(0, .ref 151)], [.ref 151, .ref 151])) rfl ?_
          refine e_gI 12 16 rfl rfl lc_151 ?_
          refine e_L 1 (f' := (126, [(0, .ref 151)], [.int (4 : Int32), .int (s27.1 151 16), .ref 151])) rfl ?_
          refine e_icmp 133 rfl rfl rfl (fun c29 => ?_) (fun c29 => ?_)
          · refine e_L 1 (f' := (134, [(0, .ref 151)], [.int (0 : Int32), .ref 151])) rfl ?_
            exact qE_sub (qsubL [0] rfl (ks := [0]) rfl (by decide))
          · refine e_L 2 (f' := (134, [(0, .ref 151)], [.int (1 : Int32), .ref 151])) rfl ?_
            exact qE_sub (qsubL [0] rfl (ks := [0]) rfl (by decide))
      · refine e_L 1 (f' := (96, [(0, .ref 151)], [.ref 151])) rfl ?_
        refine e_vV 249 rfl rfl ix_X12_next rfl (q_recvOf lc_151 rfl) (Nat.le_of_ble_eq_true rfl) (fun s31 e32 => ?_)
        refine e_L 1 (f' := (100, [(0, .ref 151)], [.ref 151])) rfl ?_
        refine e_vV 287 rfl rfl ix_X12_readCell rfl (q_recvOf lc_151 rfl) (Nat.le_of_ble_eq_true rfl) (fun s34 e35 => ?_)
        refine e_L 1 (f' := (71, [(0, .ref 151)], [])) rfl ?_
        exact qE_sub (qsubL [0] rfl (ks := [0]) rfl (by decide))
set_option maxRecDepth 100000 in
set_option maxHeartbeats 4000000 in
theorem le_X12_program_134 (en : pN) (d : Nat) (vs1 : Int32) (s : qS) : qle (bV (qev en d 286 [.ref 151, .int vs1] s) (fun s2 => bI (qev en d 243 [.ref 151] s2) (fun w4 s5 => if w4 = (0 : Int32) then L_X12_program_167 en d s5 else gd (p_inB (s5.1 151 16) 4 = true) (nm (uJ s5 156 ((s5.1 151 16).toNatClampNeg) (s5.2.1 151 5)) (fun s9 => nm (uI s9 151 16 ((s9.1 151 16) + (1 : Int32))) (fun s10 => L_X12_program_167 en d s10)))))) (L_X12_program_134 en d vs1 s) := by
  show qle _ (qE (qev en d) en (some .int) tb_X12_program (134, [(0, .ref 151)], [.int vs1, .ref 151]) s)
  refine e_vV 286 rfl rfl ix_X12_checkName rfl (q_recvOf lc_151 rfl) (Nat.le_of_ble_eq_true rfl) (fun s2 e3 => ?_)
  refine e_L 1 (f' := (138, [(0, .ref 151)], [.ref 151])) rfl ?_
  refine e_vI 243 rfl rfl ix_X12_good rfl (q_recvOf lc_151 rfl) (Nat.le_of_ble_eq_true rfl) (fun w4 s5 e6 => ?_)
  refine e_ifz 167 rfl rfl rfl (fun c7 => ?_) (fun c7 => ?_)
  · exact qE_sub (qsubL [0] rfl (ks := [0]) rfl (by decide))
  · refine e_L 1 (f' := (145, [(0, .ref 151)], [.ref 151])) rfl ?_
    refine e_gR (q := 156) 12 17 rfl rfl lc_151 lr_151_17 ?_
    refine e_L 1 (f' := (149, [(0, .ref 151)], [.ref 151, .ref 156])) rfl ?_
    refine e_gI 12 16 rfl rfl lc_151 ?_
    refine e_L 1 (f' := (153, [(0, .ref 151)], [.ref 151, .int (s5.1 151 16), .ref 156])) rfl ?_
    refine e_gJ 12 5 rfl rfl lc_151 ?_
    refine qle_gd fun h8 => ?_
    refine e_las (n := 4) (k := (s5.1 151 16).toNatClampNeg) rfl lc_156 ln_156 h8 rfl ?_
    refine e_nS fun s9 => ?_
    refine e_L 2 (f' := (159, [(0, .ref 151)], [.ref 151, .ref 151])) rfl ?_
    refine e_gI 12 16 rfl rfl lc_151 ?_
    refine e_L 2 (f' := (164, [(0, .ref 151)], [.int ((s9.1 151 16) + (1 : Int32)), .ref 151])) rfl ?_
    refine e_pI 12 16 rfl rfl lc_151 rfl ?_
    refine e_nS fun s10 => ?_
    exact qE_sub (qsubL [0] rfl (ks := [0]) rfl (by decide))
set_option maxRecDepth 100000 in
set_option maxHeartbeats 4000000 in
theorem le_X12_program_167 (en : pN) (d : Nat) (s : qS) : qle (bV (qev en d 249 [.ref 151] s) (fun s2 => bV (qev en d 252 [.ref 151, .int (59 : Int32)] s2) (fun s5 => L_X12_program_71 en d s5))) (L_X12_program_167 en d s) := by
  show qle _ (qE (qev en d) en (some .int) tb_X12_program (167, [(0, .ref 151)], []) s)
  refine e_L 1 (f' := (168, [(0, .ref 151)], [.ref 151])) rfl ?_
  refine e_vV 249 rfl rfl ix_X12_next rfl (q_recvOf lc_151 rfl) (Nat.le_of_ble_eq_true rfl) (fun s2 e3 => ?_)
  refine e_L 2 (f' := (174, [(0, .ref 151)], [.int (59 : Int32), .ref 151])) rfl ?_
  refine e_vV 252 rfl rfl ix_X12_must rfl (q_recvOf lc_151 rfl) (Nat.le_of_ble_eq_true rfl) (fun s5 e6 => ?_)
  refine e_L 1 (f' := (71, [(0, .ref 151)], [])) rfl ?_
  exact qE_sub (qsubL [0] rfl (ks := [0]) rfl (by decide))
set_option maxRecDepth 100000 in
set_option maxHeartbeats 4000000 in
theorem le_X12_program_205 (en : pN) (d : Nat) (v1 : Int32) (s : qS) : qle (if (s.1 151 32) ≤ v1 then L_X12_program_285 en d s else bI (qev en d 243 [.ref 151] s) (fun w2 s3 => if w2 = (0 : Int32) then L_X12_program_285 en d s3 else gd (p_inB v1 400 = true) (if (s3.1 164 v1.toNatClampNeg) = (10 : Int32) then L_X12_program_242 en d v1 s3 else if ¬ (s3.1 164 v1.toNatClampNeg) = (11 : Int32) then L_X12_program_205 en d (v1 + (1 : Int32)) s3 else L_X12_program_242 en d v1 s3))) (L_X12_program_205 en d v1 s) := by
  show qle _ (qE (qev en d) en (some .int) tb_X12_program (205, [(0, .ref 151), (1, .int v1)], []) s)
  refine e_L 2 (f' := (207, [(0, .ref 151), (1, .int v1)], [.ref 151, .int v1])) rfl ?_
  refine e_gI 12 32 rfl rfl lc_151 ?_
  refine e_icmp 285 rfl rfl rfl (fun c1 => ?_) (fun c1 => ?_)
  · exact qE_sub (qsubL [0] rfl (ks := [0, 1]) rfl (by decide))
  · refine e_L 1 (f' := (214, [(0, .ref 151), (1, .int v1)], [.ref 151])) rfl ?_
    refine e_vI 243 rfl rfl ix_X12_good rfl (q_recvOf lc_151 rfl) (Nat.le_of_ble_eq_true rfl) (fun w2 s3 e4 => ?_)
    refine e_ifz 285 rfl rfl rfl (fun c5 => ?_) (fun c5 => ?_)
    · exact qE_sub (qsubL [0] rfl (ks := [0, 1]) rfl (by decide))
    · refine e_L 1 (f' := (221, [(0, .ref 151), (1, .int v1)], [.ref 151])) rfl ?_
      refine e_gR (q := 164) 12 33 rfl rfl lc_151 lr_151_33 ?_
      refine e_L 1 (f' := (225, [(0, .ref 151), (1, .int v1)], [.int v1, .ref 164])) rfl ?_
      refine qle_gd fun h6 => ?_
      refine e_ial (n := 400) (k := v1.toNatClampNeg) rfl lc_164 ln_164 h6 rfl ?_
      refine e_L 1 (f' := (228, [(0, .ref 151), (1, .int v1)], [.int (10 : Int32), .int (s3.1 164 v1.toNatClampNeg)])) rfl ?_
      refine e_icmp 242 rfl rfl rfl (fun c7 => ?_) (fun c7 => ?_)
      · exact qE_sub (qsubL [0, 1] rfl (ks := [0, 1]) rfl (by decide))
      · refine e_L 1 (f' := (232, [(0, .ref 151), (1, .int v1)], [.ref 151])) rfl ?_
        refine e_gR (q := 164) 12 33 rfl rfl lc_151 lr_151_33 ?_
        refine e_L 1 (f' := (236, [(0, .ref 151), (1, .int v1)], [.int v1, .ref 164])) rfl ?_
        refine e_ial (n := 400) (k := v1.toNatClampNeg) rfl lc_164 ln_164 h6 rfl ?_
        refine e_L 1 (f' := (239, [(0, .ref 151), (1, .int v1)], [.int (11 : Int32), .int (s3.1 164 v1.toNatClampNeg)])) rfl ?_
        refine e_icmp 279 rfl rfl rfl (fun c8 => ?_) (fun c8 => ?_)
        · refine e_L 2 (f' := (205, [(1, .int (v1 + (1 : Int32))), (0, .ref 151)], [])) rfl ?_
          exact qE_sub (qsubL [1, 0] rfl (ks := [1, 0]) rfl (by decide))
        · exact qE_sub (qsubL [0, 1] rfl (ks := [0, 1]) rfl (by decide))
set_option maxRecDepth 100000 in
set_option maxHeartbeats 4000000 in
theorem le_X12_program_242 (en : pN) (d : Nat) (v1 : Int32) (s : qS) : qle (gd (p_inB v1 100 = true) (bI (qev en d 258 [.ref 151, .long (s.2.1 182 v1.toNatClampNeg)] s) (fun w2 s3 => gd (p_inB v1 400 = true) (nm (uI s3 166 (v1.toNatClampNeg) w2) (fun s6 => if ¬ (s6.1 166 v1.toNatClampNeg) = (-1 : Int32) then L_X12_program_205 en d (v1 + (1 : Int32)) s6 else bV (qev en d 244 [.ref 151, .int (5 : Int32), .int (s6.1 183 v1.toNatClampNeg)] s6) (fun s9 => L_X12_program_205 en d (v1 + (1 : Int32)) s9)))))) (L_X12_program_242 en d v1 s) := by
  show qle _ (qE (qev en d) en (some .int) tb_X12_program (242, [(0, .ref 151), (1, .int v1)], []) s)
  refine e_L 1 (f' := (243, [(0, .ref 151), (1, .int v1)], [.ref 151])) rfl ?_
  refine e_gR (q := 166) 12 35 rfl rfl lc_151 lr_151_35 ?_
  refine e_L 3 (f' := (249, [(0, .ref 151), (1, .int v1)], [.ref 151, .ref 151, .int v1, .ref 166])) rfl ?_
  refine e_gR (q := 182) 12 51 rfl rfl lc_151 lr_151_51 ?_
  refine e_L 1 (f' := (253, [(0, .ref 151), (1, .int v1)], [.int v1, .ref 182, .ref 151, .int v1, .ref 166])) rfl ?_
  refine qle_gd fun h1 => ?_
  refine e_lal (n := 100) (k := v1.toNatClampNeg) rfl lc_182 ln_182 h1 rfl ?_
  refine e_vI 258 rfl rfl ix_X12_threadOf rfl (q_recvOf lc_151 rfl) (Nat.le_of_ble_eq_true rfl) (fun w2 s3 e4 => ?_)
  refine qle_gd fun h5 => ?_
  refine e_ias (n := 400) (k := v1.toNatClampNeg) rfl lc_166 ln_166 h5 rfl ?_
  refine e_nS fun s6 => ?_
  refine e_L 1 (f' := (259, [(0, .ref 151), (1, .int v1)], [.ref 151])) rfl ?_
  refine e_gR (q := 166) 12 35 rfl rfl lc_151 lr_151_35 ?_
  refine e_L 1 (f' := (263, [(0, .ref 151), (1, .int v1)], [.int v1, .ref 166])) rfl ?_
  refine e_ial (n := 400) (k := v1.toNatClampNeg) rfl lc_166 ln_166 h5 rfl ?_
  refine e_L 1 (f' := (265, [(0, .ref 151), (1, .int v1)], [.int (-1 : Int32), .int (s6.1 166 v1.toNatClampNeg)])) rfl ?_
  refine e_icmp 279 rfl rfl rfl (fun c7 => ?_) (fun c7 => ?_)
  · refine e_L 2 (f' := (205, [(1, .int (v1 + (1 : Int32))), (0, .ref 151)], [])) rfl ?_
    exact qE_sub (qsubL [1, 0] rfl (ks := [1, 0]) rfl (by decide))
  · refine e_L 3 (f' := (271, [(0, .ref 151), (1, .int v1)], [.ref 151, .int (5 : Int32), .ref 151])) rfl ?_
    refine e_gR (q := 183) 12 52 rfl rfl lc_151 lr_151_52 ?_
    refine e_L 1 (f' := (275, [(0, .ref 151), (1, .int v1)], [.int v1, .ref 183, .int (5 : Int32), .ref 151])) rfl ?_
    refine e_ial (n := 100) (k := v1.toNatClampNeg) rfl lc_183 ln_183 h1 rfl ?_
    refine e_vV 244 rfl rfl ix_X12_fail rfl (q_recvOf lc_151 rfl) (Nat.le_of_ble_eq_true rfl) (fun s9 e10 => ?_)
    refine e_L 2 (f' := (205, [(1, .int (v1 + (1 : Int32))), (0, .ref 151)], [])) rfl ?_
    exact qE_sub (qsubL [1, 0] rfl (ks := [1, 0]) rfl (by decide))
set_option maxRecDepth 100000 in
set_option maxHeartbeats 4000000 in
theorem le_X12_program_285 (en : pN) (d : Nat) (s : qS) : qle (bV (qev en d 251 [.ref 151] s) (fun s2 => bI (qev en d 243 [.ref 151] s2) (fun w4 s5 => gd (isB w4 = true) (nm (uI s5 151 11 w4) (fun s8 => nm (uI s8 151 27 (s8.1 151 25)) (fun s9 => if (s9.1 151 11) = (0 : Int32) then L_X12_program_317 en d s9 else bV (qev en d 292 [.ref 151, .int (0 : Int32)] s9) (fun s12 => L_X12_program_317 en d s12))))))) (L_X12_program_285 en d s) := by
  show qle _ (qE (qev en d) en (some .int) tb_X12_program (285, [(0, .ref 151)], []) s)
  refine e_L 1 (f' := (286, [(0, .ref 151)], [.ref 151])) rfl ?_
  refine e_vV 251 rfl rfl ix_X12_endReading rfl (q_recvOf lc_151 rfl) (Nat.le_of_ble_eq_true rfl) (fun s2 e3 => ?_)
  refine e_L 2 (f' := (291, [(0, .ref 151)], [.ref 151, .ref 151])) rfl ?_
  refine e_vI 243 rfl rfl ix_X12_good rfl (q_recvOf lc_151 rfl) (Nat.le_of_ble_eq_true rfl) (fun w4 s5 e6 => ?_)
  refine qle_gd fun h7 => ?_
  refine e_pI 12 11 rfl rfl lc_151 h7 ?_
  refine e_nS fun s8 => ?_
  refine e_L 2 (f' := (299, [(0, .ref 151)], [.ref 151, .ref 151])) rfl ?_
  refine e_gI 12 25 rfl rfl lc_151 ?_
  refine e_pI 12 27 rfl rfl lc_151 rfl ?_
  refine e_nS fun s9 => ?_
  refine e_L 1 (f' := (306, [(0, .ref 151)], [.ref 151])) rfl ?_
  refine e_gI 12 11 rfl rfl lc_151 ?_
  refine e_ifz 317 rfl rfl rfl (fun c10 => ?_) (fun c10 => ?_)
  · exact qE_sub (qsubL [0] rfl (ks := [0]) rfl (by decide))
  · refine e_L 2 (f' := (314, [(0, .ref 151)], [.int (0 : Int32), .ref 151])) rfl ?_
    refine e_vV 292 rfl rfl ix_X12_layFlow rfl (q_recvOf lc_151 rfl) (Nat.le_of_ble_eq_true rfl) (fun s12 e13 => ?_)
    exact qE_sub (qsubL [0] rfl (ks := [0]) rfl (by decide))
set_option maxRecDepth 100000 in
set_option maxHeartbeats 4000000 in
theorem le_X12_program_317 (en : pN) (d : Nat) (s : qS) : qle (some (some (.int (s.1 151 9)), s)) (L_X12_program_317 en d s) := by
  show qle _ (qE (qev en d) en (some .int) tb_X12_program (317, [(0, .ref 151)], []) s)
  refine e_L 1 (f' := (318, [(0, .ref 151)], [.ref 151])) rfl ?_
  refine e_gI 12 9 rfl rfl lc_151 ?_
  exact e_rI rfl rfl
set_option maxRecDepth 100000 in
set_option maxHeartbeats 4000000 in
theorem le_X12_program (en : pN) (d : Nat) (s : qS) : qle (nm (uI s 151 11 (0 : Int32)) (fun s1 => nm (uI s1 151 98 (0 : Int32)) (fun s2 => nm (uI s2 151 74 (0 : Int32)) (fun s3 => nm (uI s3 151 147 (0 : Int32)) (fun s4 => nm (uI s4 151 12 (0 : Int32)) (fun s5 => nm (uI s5 151 16 (0 : Int32)) (fun s6 => nm (uI s6 151 18 (0 : Int32)) (fun s7 => nm (uI s7 151 32 (0 : Int32)) (fun s8 => nm (uI s8 151 25 (0 : Int32)) (fun s9 => nm (uI s9 151 28 (0 : Int32)) (fun s10 => nm (uI s10 151 29 (0 : Int32)) (fun s11 => nm (uI s11 151 150 (-2 : Int32)) (fun s12 => nm (uI s12 151 131 (-2 : Int32)) (fun s13 => bV (qev en d 250 [.ref 151] s13) (fun s15 => L_X12_program_71 en d s15))))))))))))))) (qev en (d + 1) 289 [.ref 151] s) := by
  refine e_enter ix_X12_program (Nat.le_of_ble_eq_true rfl) ?_
  show qle _ (qE (qev en d) en (some .int) tb_X12_program (0, [(0, .ref 151)], []) s)
  refine e_L 2 (f' := (2, [(0, .ref 151)], [.int (0 : Int32), .ref 151])) rfl ?_
  refine e_pI 12 11 rfl rfl lc_151 (by decide +kernel) ?_
  refine e_nS fun s1 => ?_
  refine e_L 2 (f' := (7, [(0, .ref 151)], [.int (0 : Int32), .ref 151])) rfl ?_
  refine e_pI 12 98 rfl rfl lc_151 (by decide +kernel) ?_
  refine e_nS fun s2 => ?_
  refine e_L 2 (f' := (12, [(0, .ref 151)], [.int (0 : Int32), .ref 151])) rfl ?_
  refine e_pI 12 74 rfl rfl lc_151 (by decide +kernel) ?_
  refine e_nS fun s3 => ?_
  refine e_L 2 (f' := (17, [(0, .ref 151)], [.int (0 : Int32), .ref 151])) rfl ?_
  refine e_pI 12 147 rfl rfl lc_151 (by decide +kernel) ?_
  refine e_nS fun s4 => ?_
  refine e_L 2 (f' := (22, [(0, .ref 151)], [.int (0 : Int32), .ref 151])) rfl ?_
  refine e_pI 12 12 rfl rfl lc_151 rfl ?_
  refine e_nS fun s5 => ?_
  refine e_L 2 (f' := (27, [(0, .ref 151)], [.int (0 : Int32), .ref 151])) rfl ?_
  refine e_pI 12 16 rfl rfl lc_151 rfl ?_
  refine e_nS fun s6 => ?_
  refine e_L 2 (f' := (32, [(0, .ref 151)], [.int (0 : Int32), .ref 151])) rfl ?_
  refine e_pI 12 18 rfl rfl lc_151 rfl ?_
  refine e_nS fun s7 => ?_
  refine e_L 2 (f' := (37, [(0, .ref 151)], [.int (0 : Int32), .ref 151])) rfl ?_
  refine e_pI 12 32 rfl rfl lc_151 rfl ?_
  refine e_nS fun s8 => ?_
  refine e_L 2 (f' := (42, [(0, .ref 151)], [.int (0 : Int32), .ref 151])) rfl ?_
  refine e_pI 12 25 rfl rfl lc_151 rfl ?_
  refine e_nS fun s9 => ?_
  refine e_L 2 (f' := (47, [(0, .ref 151)], [.int (0 : Int32), .ref 151])) rfl ?_
  refine e_pI 12 28 rfl rfl lc_151 rfl ?_
  refine e_nS fun s10 => ?_
  refine e_L 2 (f' := (52, [(0, .ref 151)], [.int (0 : Int32), .ref 151])) rfl ?_
  refine e_pI 12 29 rfl rfl lc_151 (by decide +kernel) ?_
  refine e_nS fun s11 => ?_
  refine e_L 2 (f' := (58, [(0, .ref 151)], [.int (-2 : Int32), .ref 151])) rfl ?_
  refine e_pI 12 150 rfl rfl lc_151 rfl ?_
  refine e_nS fun s12 => ?_
  refine e_L 2 (f' := (64, [(0, .ref 151)], [.int (-2 : Int32), .ref 151])) rfl ?_
  refine e_pI 12 131 rfl rfl lc_151 rfl ?_
  refine e_nS fun s13 => ?_
  refine e_L 1 (f' := (68, [(0, .ref 151)], [.ref 151])) rfl ?_
  refine e_vV 250 rfl rfl ix_X12_beginReading rfl (q_recvOf lc_151 rfl) (Nat.le_of_ble_eq_true rfl) (fun s15 e16 => ?_)
  exact qE_sub (qsubL [0] rfl (ks := [0]) rfl (by decide))
set_option maxRecDepth 100000 in
set_option maxHeartbeats 4000000 in
theorem le_X12_count (en : pN) (d : Nat) (a1 : Int32) (s : qS) : qle (swI a1.toInt 0 [some (some (.int (s.1 151 9)), s), some (some (.int (s.1 151 10)), s), some (some (.int (s.1 151 1)), s), if (s.1 151 11) = (0 : Int32) then some (some (.int (0 : Int32)), s) else some (some (.int (s.1 151 12)), s), if (s.1 151 11) = (0 : Int32) then some (some (.int (0 : Int32)), s) else some (some (.int (s.1 151 16)), s), if (s.1 151 11) = (0 : Int32) then some (some (.int (0 : Int32)), s) else some (some (.int (s.1 151 18)), s), if (s.1 151 11) = (0 : Int32) then some (some (.int (0 : Int32)), s) else some (some (.int (s.1 151 32)), s), if (s.1 151 11) = (0 : Int32) then some (some (.int (0 : Int32)), s) else some (some (.int (s.1 151 27)), s)] (some (some (.int (-1 : Int32)), s))) (qev en (d + 1) 290 [.ref 151, .int a1] s) := by
  refine e_enter ix_X12_count (Nat.le_of_ble_eq_true rfl) ?_
  show qle _ (qE (qev en d) en (some .int) tb_X12_count (0, [(0, .ref 151), (1, .int a1)], []) s)
  refine e_L 1 (f' := (1, [(0, .ref 151), (1, .int a1)], [.int a1])) rfl ?_
  refine e_tsw rfl (by decide) ⟨?_, ?_, ?_, ?_, ?_, ?_, ?_, ?_, trivial⟩ ?_
  · refine e_L 1 (f' := (49, [(0, .ref 151), (1, .int a1)], [.ref 151])) rfl ?_
    refine e_gI 12 9 rfl rfl lc_151 ?_
    exact e_rI rfl rfl
  · refine e_L 1 (f' := (54, [(0, .ref 151), (1, .int a1)], [.ref 151])) rfl ?_
    refine e_gI 12 10 rfl rfl lc_151 ?_
    exact e_rI rfl rfl
  · refine e_L 1 (f' := (59, [(0, .ref 151), (1, .int a1)], [.ref 151])) rfl ?_
    refine e_gI 12 1 rfl rfl lc_151 ?_
    exact e_rI rfl rfl
  · refine e_L 1 (f' := (64, [(0, .ref 151), (1, .int a1)], [.ref 151])) rfl ?_
    refine e_gI 12 11 rfl rfl lc_151 ?_
    refine e_ifz 77 rfl rfl rfl (fun c1 => ?_) (fun c1 => ?_)
    · refine e_L 1 (f' := (78, [(0, .ref 151), (1, .int a1)], [.int (0 : Int32)])) rfl ?_
      exact e_rI rfl rfl
    · refine e_L 1 (f' := (71, [(0, .ref 151), (1, .int a1)], [.ref 151])) rfl ?_
      refine e_gI 12 12 rfl rfl lc_151 ?_
      refine e_L 1 (f' := (78, [(0, .ref 151), (1, .int a1)], [.int (s.1 151 12)])) rfl ?_
      exact e_rI rfl rfl
  · refine e_L 1 (f' := (80, [(0, .ref 151), (1, .int a1)], [.ref 151])) rfl ?_
    refine e_gI 12 11 rfl rfl lc_151 ?_
    refine e_ifz 93 rfl rfl rfl (fun c2 => ?_) (fun c2 => ?_)
    · refine e_L 1 (f' := (94, [(0, .ref 151), (1, .int a1)], [.int (0 : Int32)])) rfl ?_
      exact e_rI rfl rfl
    · refine e_L 1 (f' := (87, [(0, .ref 151), (1, .int a1)], [.ref 151])) rfl ?_
      refine e_gI 12 16 rfl rfl lc_151 ?_
      refine e_L 1 (f' := (94, [(0, .ref 151), (1, .int a1)], [.int (s.1 151 16)])) rfl ?_
      exact e_rI rfl rfl
  · refine e_L 1 (f' := (96, [(0, .ref 151), (1, .int a1)], [.ref 151])) rfl ?_
    refine e_gI 12 11 rfl rfl lc_151 ?_
    refine e_ifz 109 rfl rfl rfl (fun c3 => ?_) (fun c3 => ?_)
    · refine e_L 1 (f' := (110, [(0, .ref 151), (1, .int a1)], [.int (0 : Int32)])) rfl ?_
      exact e_rI rfl rfl
    · refine e_L 1 (f' := (103, [(0, .ref 151), (1, .int a1)], [.ref 151])) rfl ?_
      refine e_gI 12 18 rfl rfl lc_151 ?_
      refine e_L 1 (f' := (110, [(0, .ref 151), (1, .int a1)], [.int (s.1 151 18)])) rfl ?_
      exact e_rI rfl rfl
  · refine e_L 1 (f' := (112, [(0, .ref 151), (1, .int a1)], [.ref 151])) rfl ?_
    refine e_gI 12 11 rfl rfl lc_151 ?_
    refine e_ifz 125 rfl rfl rfl (fun c4 => ?_) (fun c4 => ?_)
    · refine e_L 1 (f' := (126, [(0, .ref 151), (1, .int a1)], [.int (0 : Int32)])) rfl ?_
      exact e_rI rfl rfl
    · refine e_L 1 (f' := (119, [(0, .ref 151), (1, .int a1)], [.ref 151])) rfl ?_
      refine e_gI 12 32 rfl rfl lc_151 ?_
      refine e_L 1 (f' := (126, [(0, .ref 151), (1, .int a1)], [.int (s.1 151 32)])) rfl ?_
      exact e_rI rfl rfl
  · refine e_L 1 (f' := (128, [(0, .ref 151), (1, .int a1)], [.ref 151])) rfl ?_
    refine e_gI 12 11 rfl rfl lc_151 ?_
    refine e_ifz 141 rfl rfl rfl (fun c5 => ?_) (fun c5 => ?_)
    · refine e_L 1 (f' := (142, [(0, .ref 151), (1, .int a1)], [.int (0 : Int32)])) rfl ?_
      exact e_rI rfl rfl
    · refine e_L 1 (f' := (135, [(0, .ref 151), (1, .int a1)], [.ref 151])) rfl ?_
      refine e_gI 12 27 rfl rfl lc_151 ?_
      refine e_L 1 (f' := (142, [(0, .ref 151), (1, .int a1)], [.int (s.1 151 27)])) rfl ?_
      exact e_rI rfl rfl
  · refine e_L 1 (f' := (144, [(0, .ref 151), (1, .int a1)], [.int (-1 : Int32)])) rfl ?_
    exact e_rI rfl rfl
set_option maxRecDepth 100000 in
set_option maxHeartbeats 4000000 in
theorem le_X12_line (en : pN) (d : Nat) (a1 : Int32) (a2 : Int32) (s : qS) : qle (if (s.1 151 11) = (0 : Int32) then some (some (.int (-1 : Int32)), s) else if a1 < (0 : Int32) then some (some (.int (-1 : Int32)), s) else if a1 < (s.1 151 32) then swI a2.toInt 0 [gd (p_inB a1 400 = true) (some (some (.int (s.1 164 a1.toNatClampNeg)), s)), gd (p_inB a1 400 = true) (some (some (.int (s.1 165 a1.toNatClampNeg)), s)), gd (p_inB a1 400 = true) (some (some (.int (s.1 166 a1.toNatClampNeg)), s)), gd (p_inB a1 400 = true) (some (some (.int (s.1 167 a1.toNatClampNeg)), s)), gd (p_inB a1 400 = true) (some (some (.int (s.1 168 a1.toNatClampNeg)), s))] (some (some (.int (-1 : Int32)), s)) else some (some (.int (-1 : Int32)), s)) (qev en (d + 1) 291 [.ref 151, .int a1, .int a2] s) := by
  refine e_enter ix_X12_line (Nat.le_of_ble_eq_true rfl) ?_
  show qle _ (qE (qev en d) en (some .int) tb_X12_line (0, [(0, .ref 151), (1, .int a1), (2, .int a2)], []) s)
  refine e_L 1 (f' := (1, [(0, .ref 151), (1, .int a1), (2, .int a2)], [.ref 151])) rfl ?_
  refine e_gI 12 11 rfl rfl lc_151 ?_
  refine e_ifz 19 rfl rfl rfl (fun c1 => ?_) (fun c1 => ?_)
  · refine e_L 1 (f' := (20, [(0, .ref 151), (1, .int a1), (2, .int a2)], [.int (-1 : Int32)])) rfl ?_
    exact e_rI rfl rfl
  · refine e_L 1 (f' := (8, [(0, .ref 151), (1, .int a1), (2, .int a2)], [.int a1])) rfl ?_
    refine e_ifz 19 rfl rfl rfl (fun c2 => ?_) (fun c2 => ?_)
    · refine e_L 1 (f' := (20, [(0, .ref 151), (1, .int a1), (2, .int a2)], [.int (-1 : Int32)])) rfl ?_
      exact e_rI rfl rfl
    · refine e_L 2 (f' := (13, [(0, .ref 151), (1, .int a1), (2, .int a2)], [.ref 151, .int a1])) rfl ?_
      refine e_gI 12 32 rfl rfl lc_151 ?_
      refine e_icmp 21 rfl rfl rfl (fun c3 => ?_) (fun c3 => ?_)
      · refine e_L 1 (f' := (22, [(0, .ref 151), (1, .int a1), (2, .int a2)], [.int a2])) rfl ?_
        refine e_tsw rfl (by decide) ⟨?_, ?_, ?_, ?_, ?_, trivial⟩ ?_
        · refine e_L 1 (f' := (57, [(0, .ref 151), (1, .int a1), (2, .int a2)], [.ref 151])) rfl ?_
          refine e_gR (q := 164) 12 33 rfl rfl lc_151 lr_151_33 ?_
          refine e_L 1 (f' := (61, [(0, .ref 151), (1, .int a1), (2, .int a2)], [.int a1, .ref 164])) rfl ?_
          refine qle_gd fun h4 => ?_
          refine e_ial (n := 400) (k := a1.toNatClampNeg) rfl lc_164 ln_164 h4 rfl ?_
          exact e_rI rfl rfl
        · refine e_L 1 (f' := (64, [(0, .ref 151), (1, .int a1), (2, .int a2)], [.ref 151])) rfl ?_
          refine e_gR (q := 165) 12 34 rfl rfl lc_151 lr_151_34 ?_
          refine e_L 1 (f' := (68, [(0, .ref 151), (1, .int a1), (2, .int a2)], [.int a1, .ref 165])) rfl ?_
          refine qle_gd fun h5 => ?_
          refine e_ial (n := 400) (k := a1.toNatClampNeg) rfl lc_165 ln_165 h5 rfl ?_
          exact e_rI rfl rfl
        · refine e_L 1 (f' := (71, [(0, .ref 151), (1, .int a1), (2, .int a2)], [.ref 151])) rfl ?_
          refine e_gR (q := 166) 12 35 rfl rfl lc_151 lr_151_35 ?_
          refine e_L 1 (f' := (75, [(0, .ref 151), (1, .int a1), (2, .int a2)], [.int a1, .ref 166])) rfl ?_
          refine qle_gd fun h6 => ?_
          refine e_ial (n := 400) (k := a1.toNatClampNeg) rfl lc_166 ln_166 h6 rfl ?_
          exact e_rI rfl rfl
        · refine e_L 1 (f' := (78, [(0, .ref 151), (1, .int a1), (2, .int a2)], [.ref 151])) rfl ?_
          refine e_gR (q := 167) 12 36 rfl rfl lc_151 lr_151_36 ?_
          refine e_L 1 (f' := (82, [(0, .ref 151), (1, .int a1), (2, .int a2)], [.int a1, .ref 167])) rfl ?_
          refine qle_gd fun h7 => ?_
          refine e_ial (n := 400) (k := a1.toNatClampNeg) rfl lc_167 ln_167 h7 rfl ?_
          exact e_rI rfl rfl
        · refine e_L 1 (f' := (85, [(0, .ref 151), (1, .int a1), (2, .int a2)], [.ref 151])) rfl ?_
          refine e_gR (q := 168) 12 37 rfl rfl lc_151 lr_151_37 ?_
          refine e_L 1 (f' := (89, [(0, .ref 151), (1, .int a1), (2, .int a2)], [.int a1, .ref 168])) rfl ?_
          refine qle_gd fun h8 => ?_
          refine e_ial (n := 400) (k := a1.toNatClampNeg) rfl lc_168 ln_168 h8 rfl ?_
          exact e_rI rfl rfl
        · refine e_L 1 (f' := (92, [(0, .ref 151), (1, .int a1), (2, .int a2)], [.int (-1 : Int32)])) rfl ?_
          exact e_rI rfl rfl
      · refine e_L 1 (f' := (20, [(0, .ref 151), (1, .int a1), (2, .int a2)], [.int (-1 : Int32)])) rfl ?_
        exact e_rI rfl rfl
noncomputable def L_X12_layFlow_7 (en : pN) (d : Nat) (v2 : Int32) (v3 : Int32) (s : qS) : Option qR := qE (qev en d) en none tb_X12_layFlow (7, [(0, .ref 151), (2, .int v2), (3, .int v3)], []) s
noncomputable def L_X12_layFlow_90 (en : pN) (d : Nat) (v2 : Int32) (v3 : Int32) (vs1 : Int32) (vs2 : Int32) (s : qS) : Option qR := qE (qev en d) en none tb_X12_layFlow (90, [(0, .ref 151), (2, .int v2), (3, .int v3)], [.int vs2, .int vs1, .ref 174]) s
set_option maxRecDepth 100000 in
set_option maxHeartbeats 4000000 in
theorem le_X12_layFlow_7 (en : pN) (d : Nat) (v2 : Int32) (v3 : Int32) (s : qS) : qle (if (v2 + (s.1 151 32)) ≤ v3 then some (none, s) else gd (p_inB v3 400 = true) (nm (s.1 169 v3.toNatClampNeg) (fun z3 => if (s.1 171 v3.toNatClampNeg) = (-2 : Int32) then if ¬ z3 = (-2 : Int32) then gd (p_inB (v2 + z3) 400 = true) (if ¬ (s.1 164 (v2 + z3).toNatClampNeg) = (18 : Int32) then L_X12_layFlow_90 en d v2 v3 v3 (s.1 174 (v2 + z3).toNatClampNeg) s else L_X12_layFlow_90 en d v2 v3 v3 z3 s) else L_X12_layFlow_90 en d v2 v3 v3 (-2 : Int32) s else L_X12_layFlow_90 en d v2 v3 v3 (s.1 171 v3.toNatClampNeg) s))) (L_X12_layFlow_7 en d v2 v3 s) := by
  show qle _ (qE (qev en d) en none tb_X12_layFlow (7, [(0, .ref 151), (2, .int v2), (3, .int v3)], []) s)
  refine e_L 3 (f' := (10, [(0, .ref 151), (2, .int v2), (3, .int v3)], [.ref 151, .int v2, .int v3])) rfl ?_
  refine e_gI 12 32 rfl rfl lc_151 ?_
  refine e_L 1 (f' := (14, [(0, .ref 151), (2, .int v2), (3, .int v3)], [.int (v2 + (s.1 151 32)), .int v3])) rfl ?_
  refine e_icmp 97 rfl rfl rfl (fun c1 => ?_) (fun c1 => ?_)
  · exact e_rV rfl rfl
  · refine e_L 1 (f' := (18, [(0, .ref 151), (2, .int v2), (3, .int v3)], [.ref 151])) rfl ?_
    refine e_gR (q := 169) 12 38 rfl rfl lc_151 lr_151_38 ?_
    refine e_L 1 (f' := (22, [(0, .ref 151), (2, .int v2), (3, .int v3)], [.int v3, .ref 169])) rfl ?_
    refine qle_gd fun h2 => ?_
    refine e_ial (n := 400) (k := v3.toNatClampNeg) rfl lc_169 ln_169 h2 rfl ?_
    refine e_nI fun z3 => ?_
    refine e_L 2 (f' := (26, [(4, .int z3), (0, .ref 151), (2, .int v2), (3, .int v3)], [.ref 151])) rfl ?_
    refine e_gR (q := 174) 12 43 rfl rfl lc_151 lr_151_43 ?_
    refine e_L 2 (f' := (31, [(4, .int z3), (0, .ref 151), (2, .int v2), (3, .int v3)], [.ref 151, .int v3, .ref 174])) rfl ?_
    refine e_gR (q := 171) 12 40 rfl rfl lc_151 lr_151_40 ?_
    refine e_L 1 (f' := (35, [(4, .int z3), (0, .ref 151), (2, .int v2), (3, .int v3)], [.int v3, .ref 171, .int v3, .ref 174])) rfl ?_
    refine e_ial (n := 400) (k := v3.toNatClampNeg) rfl lc_171 ln_171 h2 rfl ?_
    refine e_L 1 (f' := (38, [(4, .int z3), (0, .ref 151), (2, .int v2), (3, .int v3)], [.int (-2 : Int32), .int (s.1 171 v3.toNatClampNeg), .int v3, .ref 174])) rfl ?_
    refine e_icmp 50 rfl rfl rfl (fun c4 => ?_) (fun c4 => ?_)
    · refine e_L 2 (f' := (54, [(4, .int z3), (0, .ref 151), (2, .int v2), (3, .int v3)], [.int (-2 : Int32), .int z3, .int v3, .ref 174])) rfl ?_
      refine e_icmp 62 rfl rfl rfl (fun c5 => ?_) (fun c5 => ?_)
      · refine e_L 1 (f' := (63, [(4, .int z3), (0, .ref 151), (2, .int v2), (3, .int v3)], [.ref 151, .int v3, .ref 174])) rfl ?_
        refine e_gR (q := 164) 12 33 rfl rfl lc_151 lr_151_33 ?_
        refine e_L 3 (f' := (70, [(4, .int z3), (0, .ref 151), (2, .int v2), (3, .int v3)], [.int (v2 + z3), .ref 164, .int v3, .ref 174])) rfl ?_
        refine qle_gd fun h6 => ?_
        refine e_ial (n := 400) (k := (v2 + z3).toNatClampNeg) rfl lc_164 ln_164 h6 rfl ?_
        refine e_L 1 (f' := (73, [(4, .int z3), (0, .ref 151), (2, .int v2), (3, .int v3)], [.int (18 : Int32), .int (s.1 164 (v2 + z3).toNatClampNeg), .int v3, .ref 174])) rfl ?_
        refine e_icmp 81 rfl rfl rfl (fun c7 => ?_) (fun c7 => ?_)
        · refine e_L 1 (f' := (82, [(4, .int z3), (0, .ref 151), (2, .int v2), (3, .int v3)], [.ref 151, .int v3, .ref 174])) rfl ?_
          refine e_gR (q := 174) 12 43 rfl rfl lc_151 lr_151_43 ?_
          refine e_L 3 (f' := (89, [(4, .int z3), (0, .ref 151), (2, .int v2), (3, .int v3)], [.int (v2 + z3), .ref 174, .int v3, .ref 174])) rfl ?_
          refine e_ial (n := 400) (k := (v2 + z3).toNatClampNeg) rfl lc_174 ln_174 h6 rfl ?_
          exact qE_sub (qsubL [1, 2, 3] rfl (ks := [4, 0, 2, 3]) rfl (by decide))
        · refine e_L 2 (f' := (90, [(4, .int z3), (0, .ref 151), (2, .int v2), (3, .int v3)], [.int z3, .int v3, .ref 174])) rfl ?_
          exact qE_sub (qsubL [1, 2, 3] rfl (ks := [4, 0, 2, 3]) rfl (by decide))
      · refine e_L 2 (f' := (90, [(4, .int z3), (0, .ref 151), (2, .int v2), (3, .int v3)], [.int (-2 : Int32), .int v3, .ref 174])) rfl ?_
        exact qE_sub (qsubL [1, 2, 3] rfl (ks := [4, 0, 2, 3]) rfl (by decide))
    · refine e_L 1 (f' := (42, [(4, .int z3), (0, .ref 151), (2, .int v2), (3, .int v3)], [.ref 151, .int v3, .ref 174])) rfl ?_
      refine e_gR (q := 171) 12 40 rfl rfl lc_151 lr_151_40 ?_
      refine e_L 1 (f' := (46, [(4, .int z3), (0, .ref 151), (2, .int v2), (3, .int v3)], [.int v3, .ref 171, .int v3, .ref 174])) rfl ?_
      refine e_ial (n := 400) (k := v3.toNatClampNeg) rfl lc_171 ln_171 h2 rfl ?_
      refine e_L 1 (f' := (90, [(4, .int z3), (0, .ref 151), (2, .int v2), (3, .int v3)], [.int (s.1 171 v3.toNatClampNeg), .int v3, .ref 174])) rfl ?_
      exact qE_sub (qsubL [1, 2, 3] rfl (ks := [4, 0, 2, 3]) rfl (by decide))
set_option maxRecDepth 100000 in
set_option maxHeartbeats 4000000 in
theorem le_X12_layFlow_90 (en : pN) (d : Nat) (v2 : Int32) (v3 : Int32) (vs1 : Int32) (vs2 : Int32) (s : qS) : qle (gd (p_inB vs1 400 = true) (nm (uI s 174 (vs1.toNatClampNeg) vs2) (fun s2 => L_X12_layFlow_7 en d v2 (v3 + (1 : Int32)) s2))) (L_X12_layFlow_90 en d v2 v3 vs1 vs2 s) := by
  show qle _ (qE (qev en d) en none tb_X12_layFlow (90, [(0, .ref 151), (2, .int v2), (3, .int v3)], [.int vs2, .int vs1, .ref 174]) s)
  refine qle_gd fun h1 => ?_
  refine e_ias (n := 400) (k := vs1.toNatClampNeg) rfl lc_174 ln_174 h1 rfl ?_
  refine e_nS fun s2 => ?_
  refine e_L 2 (f' := (7, [(3, .int (v3 + (1 : Int32))), (0, .ref 151), (2, .int v2)], [])) rfl ?_
  exact qE_sub (qsubL [1, 2, 0] rfl (ks := [3, 0, 2]) rfl (by decide))
set_option maxRecDepth 100000 in
set_option maxHeartbeats 4000000 in
theorem le_X12_layFlow (en : pN) (d : Nat) (a1 : Int32) (s : qS) : qle (L_X12_layFlow_7 en d ((100 : Int32) * a1) ((100 : Int32) * a1) s) (qev en (d + 1) 292 [.ref 151, .int a1] s) := by
  refine e_enter ix_X12_layFlow (Nat.le_of_ble_eq_true rfl) ?_
  show qle _ (qE (qev en d) en none tb_X12_layFlow (0, [(0, .ref 151), (1, .int a1)], []) s)
  refine e_L 6 (f' := (7, [(3, .int ((100 : Int32) * a1)), (2, .int ((100 : Int32) * a1)), (0, .ref 151), (1, .int a1)], [])) rfl ?_
  exact qE_sub (qsubL [2, 1, 0] rfl (ks := [3, 2, 0, 1]) rfl (by decide))
noncomputable def L_X12_copyProgram_2 (en : pN) (d : Nat) (v1 : Int32) (v2 : Int32) (v3 : Int32) (s : qS) : Option qR := qE (qev en d) en none tb_X12_copyProgram (2, [(0, .ref 151), (1, .int v1), (2, .int v2), (3, .int v3)], []) s
noncomputable def L_X12_copyProgram_272 (en : pN) (d : Nat) (v1 : Int32) (v2 : Int32) (v3 : Int32) (s : qS) : Option qR := qE (qev en d) en none tb_X12_copyProgram (272, [(0, .ref 151), (1, .int v1), (2, .int v2), (3, .int v3)], []) s
set_option maxRecDepth 100000 in
set_option maxHeartbeats 4000000 in
theorem le_X12_copyProgram_2 (en : pN) (d : Nat) (v1 : Int32) (v2 : Int32) (v3 : Int32) (s : qS) : qle (if (s.1 151 32) ≤ v3 then L_X12_copyProgram_272 en d v1 v2 (0 : Int32) s else nm (((100 : Int32) * v1) + v3) (fun z2 => nm (((100 : Int32) * v2) + v3) (fun z3 => gd (p_inB z2 400 = true) (gd (p_inB z3 400 = true) (nm (uI s 164 (z3.toNatClampNeg) (s.1 164 z2.toNatClampNeg)) (fun s6 => nm (uI s6 165 (z3.toNatClampNeg) (s6.1 165 z2.toNatClampNeg)) (fun s7 => nm (uI s7 166 (z3.toNatClampNeg) (s7.1 166 z2.toNatClampNeg)) (fun s8 => nm (uI s8 167 (z3.toNatClampNeg) (s8.1 167 z2.toNatClampNeg)) (fun s9 => nm (uI s9 168 (z3.toNatClampNeg) (s9.1 168 z2.toNatClampNeg)) (fun s10 => nm (uI s10 169 (z3.toNatClampNeg) (s10.1 169 z2.toNatClampNeg)) (fun s11 => nm (uI s11 170 (z3.toNatClampNeg) (s11.1 170 z2.toNatClampNeg)) (fun s12 => nm (uI s12 171 (z3.toNatClampNeg) (s12.1 171 z2.toNatClampNeg)) (fun s13 => nm (uI s13 172 (z3.toNatClampNeg) (s13.1 172 z2.toNatClampNeg)) (fun s14 => nm (uI s14 173 (z3.toNatClampNeg) (s14.1 173 z2.toNatClampNeg)) (fun s15 => nm (uI s15 174 (z3.toNatClampNeg) (s15.1 174 z2.toNatClampNeg)) (fun s16 => nm (uI s16 175 (z3.toNatClampNeg) (vp_nar .boolean (s16.1 175 z2.toNatClampNeg))) (fun s17 => nm (uI s17 176 (z3.toNatClampNeg) (s17.1 176 z2.toNatClampNeg)) (fun s18 => nm (uI s18 177 (z3.toNatClampNeg) (s18.1 177 z2.toNatClampNeg)) (fun s19 => nm (uI s19 178 (z3.toNatClampNeg) (s19.1 178 z2.toNatClampNeg)) (fun s20 => nm (uI s20 179 (z3.toNatClampNeg) (s20.1 179 z2.toNatClampNeg)) (fun s21 => nm (uJ s21 180 (z3.toNatClampNeg) (s21.2.1 180 z2.toNatClampNeg)) (fun s22 => L_X12_copyProgram_2 en d v1 v2 (v3 + (1 : Int32)) s22)))))))))))))))))))))) (L_X12_copyProgram_2 en d v1 v2 v3 s) := by
  show qle _ (qE (qev en d) en none tb_X12_copyProgram (2, [(0, .ref 151), (1, .int v1), (2, .int v2), (3, .int v3)], []) s)
  refine e_L 2 (f' := (4, [(0, .ref 151), (1, .int v1), (2, .int v2), (3, .int v3)], [.ref 151, .int v3])) rfl ?_
  refine e_gI 12 32 rfl rfl lc_151 ?_
  refine e_icmp 270 rfl rfl rfl (fun c1 => ?_) (fun c1 => ?_)
  · refine e_L 2 (f' := (272, [(3, .int (0 : Int32)), (0, .ref 151), (1, .int v1), (2, .int v2)], [])) rfl ?_
    exact qE_sub (qsubL [1, 2, 3, 0] rfl (ks := [3, 0, 1, 2]) rfl (by decide))
  · refine e_L 5 (f' := (16, [(0, .ref 151), (1, .int v1), (2, .int v2), (3, .int v3)], [.int (((100 : Int32) * v1) + v3)])) rfl ?_
    refine e_nI fun z2 => ?_
    refine e_L 6 (f' := (24, [(4, .int z2), (0, .ref 151), (1, .int v1), (2, .int v2), (3, .int v3)], [.int (((100 : Int32) * v2) + v3)])) rfl ?_
    refine e_nI fun z3 => ?_
    refine e_L 2 (f' := (27, [(5, .int z3), (4, .int z2), (0, .ref 151), (1, .int v1), (2, .int v2), (3, .int v3)], [.ref 151])) rfl ?_
    refine e_gR (q := 164) 12 33 rfl rfl lc_151 lr_151_33 ?_
    refine e_L 2 (f' := (33, [(5, .int z3), (4, .int z2), (0, .ref 151), (1, .int v1), (2, .int v2), (3, .int v3)], [.ref 151, .int z3, .ref 164])) rfl ?_
    refine e_gR (q := 164) 12 33 rfl rfl lc_151 lr_151_33 ?_
    refine e_L 1 (f' := (38, [(5, .int z3), (4, .int z2), (0, .ref 151), (1, .int v1), (2, .int v2), (3, .int v3)], [.int z2, .ref 164, .int z3, .ref 164])) rfl ?_
    refine qle_gd fun h4 => ?_
    refine e_ial (n := 400) (k := z2.toNatClampNeg) rfl lc_164 ln_164 h4 rfl ?_
    refine qle_gd fun h5 => ?_
    refine e_ias (n := 400) (k := z3.toNatClampNeg) rfl lc_164 ln_164 h5 rfl ?_
    refine e_nS fun s6 => ?_
    refine e_L 1 (f' := (41, [(5, .int z3), (4, .int z2), (0, .ref 151), (1, .int v1), (2, .int v2), (3, .int v3)], [.ref 151])) rfl ?_
    refine e_gR (q := 165) 12 34 rfl rfl lc_151 lr_151_34 ?_
    refine e_L 2 (f' := (47, [(5, .int z3), (4, .int z2), (0, .ref 151), (1, .int v1), (2, .int v2), (3, .int v3)], [.ref 151, .int z3, .ref 165])) rfl ?_
    refine e_gR (q := 165) 12 34 rfl rfl lc_151 lr_151_34 ?_
    refine e_L 1 (f' := (52, [(5, .int z3), (4, .int z2), (0, .ref 151), (1, .int v1), (2, .int v2), (3, .int v3)], [.int z2, .ref 165, .int z3, .ref 165])) rfl ?_
    refine e_ial (n := 400) (k := z2.toNatClampNeg) rfl lc_165 ln_165 h4 rfl ?_
    refine e_ias (n := 400) (k := z3.toNatClampNeg) rfl lc_165 ln_165 h5 rfl ?_
    refine e_nS fun s7 => ?_
    refine e_L 1 (f' := (55, [(5, .int z3), (4, .int z2), (0, .ref 151), (1, .int v1), (2, .int v2), (3, .int v3)], [.ref 151])) rfl ?_
    refine e_gR (q := 166) 12 35 rfl rfl lc_151 lr_151_35 ?_
    refine e_L 2 (f' := (61, [(5, .int z3), (4, .int z2), (0, .ref 151), (1, .int v1), (2, .int v2), (3, .int v3)], [.ref 151, .int z3, .ref 166])) rfl ?_
    refine e_gR (q := 166) 12 35 rfl rfl lc_151 lr_151_35 ?_
    refine e_L 1 (f' := (66, [(5, .int z3), (4, .int z2), (0, .ref 151), (1, .int v1), (2, .int v2), (3, .int v3)], [.int z2, .ref 166, .int z3, .ref 166])) rfl ?_
    refine e_ial (n := 400) (k := z2.toNatClampNeg) rfl lc_166 ln_166 h4 rfl ?_
    refine e_ias (n := 400) (k := z3.toNatClampNeg) rfl lc_166 ln_166 h5 rfl ?_
    refine e_nS fun s8 => ?_
    refine e_L 1 (f' := (69, [(5, .int z3), (4, .int z2), (0, .ref 151), (1, .int v1), (2, .int v2), (3, .int v3)], [.ref 151])) rfl ?_
    refine e_gR (q := 167) 12 36 rfl rfl lc_151 lr_151_36 ?_
    refine e_L 2 (f' := (75, [(5, .int z3), (4, .int z2), (0, .ref 151), (1, .int v1), (2, .int v2), (3, .int v3)], [.ref 151, .int z3, .ref 167])) rfl ?_
    refine e_gR (q := 167) 12 36 rfl rfl lc_151 lr_151_36 ?_
    refine e_L 1 (f' := (80, [(5, .int z3), (4, .int z2), (0, .ref 151), (1, .int v1), (2, .int v2), (3, .int v3)], [.int z2, .ref 167, .int z3, .ref 167])) rfl ?_
    refine e_ial (n := 400) (k := z2.toNatClampNeg) rfl lc_167 ln_167 h4 rfl ?_
    refine e_ias (n := 400) (k := z3.toNatClampNeg) rfl lc_167 ln_167 h5 rfl ?_
    refine e_nS fun s9 => ?_
    refine e_L 1 (f' := (83, [(5, .int z3), (4, .int z2), (0, .ref 151), (1, .int v1), (2, .int v2), (3, .int v3)], [.ref 151])) rfl ?_
    refine e_gR (q := 168) 12 37 rfl rfl lc_151 lr_151_37 ?_
    refine e_L 2 (f' := (89, [(5, .int z3), (4, .int z2), (0, .ref 151), (1, .int v1), (2, .int v2), (3, .int v3)], [.ref 151, .int z3, .ref 168])) rfl ?_
    refine e_gR (q := 168) 12 37 rfl rfl lc_151 lr_151_37 ?_
    refine e_L 1 (f' := (94, [(5, .int z3), (4, .int z2), (0, .ref 151), (1, .int v1), (2, .int v2), (3, .int v3)], [.int z2, .ref 168, .int z3, .ref 168])) rfl ?_
    refine e_ial (n := 400) (k := z2.toNatClampNeg) rfl lc_168 ln_168 h4 rfl ?_
    refine e_ias (n := 400) (k := z3.toNatClampNeg) rfl lc_168 ln_168 h5 rfl ?_
    refine e_nS fun s10 => ?_
    refine e_L 1 (f' := (97, [(5, .int z3), (4, .int z2), (0, .ref 151), (1, .int v1), (2, .int v2), (3, .int v3)], [.ref 151])) rfl ?_
    refine e_gR (q := 169) 12 38 rfl rfl lc_151 lr_151_38 ?_
    refine e_L 2 (f' := (103, [(5, .int z3), (4, .int z2), (0, .ref 151), (1, .int v1), (2, .int v2), (3, .int v3)], [.ref 151, .int z3, .ref 169])) rfl ?_
    refine e_gR (q := 169) 12 38 rfl rfl lc_151 lr_151_38 ?_
    refine e_L 1 (f' := (108, [(5, .int z3), (4, .int z2), (0, .ref 151), (1, .int v1), (2, .int v2), (3, .int v3)], [.int z2, .ref 169, .int z3, .ref 169])) rfl ?_
    refine e_ial (n := 400) (k := z2.toNatClampNeg) rfl lc_169 ln_169 h4 rfl ?_
    refine e_ias (n := 400) (k := z3.toNatClampNeg) rfl lc_169 ln_169 h5 rfl ?_
    refine e_nS fun s11 => ?_
    refine e_L 1 (f' := (111, [(5, .int z3), (4, .int z2), (0, .ref 151), (1, .int v1), (2, .int v2), (3, .int v3)], [.ref 151])) rfl ?_
    refine e_gR (q := 170) 12 39 rfl rfl lc_151 lr_151_39 ?_
    refine e_L 2 (f' := (117, [(5, .int z3), (4, .int z2), (0, .ref 151), (1, .int v1), (2, .int v2), (3, .int v3)], [.ref 151, .int z3, .ref 170])) rfl ?_
    refine e_gR (q := 170) 12 39 rfl rfl lc_151 lr_151_39 ?_
    refine e_L 1 (f' := (122, [(5, .int z3), (4, .int z2), (0, .ref 151), (1, .int v1), (2, .int v2), (3, .int v3)], [.int z2, .ref 170, .int z3, .ref 170])) rfl ?_
    refine e_ial (n := 400) (k := z2.toNatClampNeg) rfl lc_170 ln_170 h4 rfl ?_
    refine e_ias (n := 400) (k := z3.toNatClampNeg) rfl lc_170 ln_170 h5 rfl ?_
    refine e_nS fun s12 => ?_
    refine e_L 1 (f' := (125, [(5, .int z3), (4, .int z2), (0, .ref 151), (1, .int v1), (2, .int v2), (3, .int v3)], [.ref 151])) rfl ?_
    refine e_gR (q := 171) 12 40 rfl rfl lc_151 lr_151_40 ?_
    refine e_L 2 (f' := (131, [(5, .int z3), (4, .int z2), (0, .ref 151), (1, .int v1), (2, .int v2), (3, .int v3)], [.ref 151, .int z3, .ref 171])) rfl ?_
    refine e_gR (q := 171) 12 40 rfl rfl lc_151 lr_151_40 ?_
    refine e_L 1 (f' := (136, [(5, .int z3), (4, .int z2), (0, .ref 151), (1, .int v1), (2, .int v2), (3, .int v3)], [.int z2, .ref 171, .int z3, .ref 171])) rfl ?_
    refine e_ial (n := 400) (k := z2.toNatClampNeg) rfl lc_171 ln_171 h4 rfl ?_
    refine e_ias (n := 400) (k := z3.toNatClampNeg) rfl lc_171 ln_171 h5 rfl ?_
    refine e_nS fun s13 => ?_
    refine e_L 1 (f' := (139, [(5, .int z3), (4, .int z2), (0, .ref 151), (1, .int v1), (2, .int v2), (3, .int v3)], [.ref 151])) rfl ?_
    refine e_gR (q := 172) 12 41 rfl rfl lc_151 lr_151_41 ?_
    refine e_L 2 (f' := (145, [(5, .int z3), (4, .int z2), (0, .ref 151), (1, .int v1), (2, .int v2), (3, .int v3)], [.ref 151, .int z3, .ref 172])) rfl ?_
    refine e_gR (q := 172) 12 41 rfl rfl lc_151 lr_151_41 ?_
    refine e_L 1 (f' := (150, [(5, .int z3), (4, .int z2), (0, .ref 151), (1, .int v1), (2, .int v2), (3, .int v3)], [.int z2, .ref 172, .int z3, .ref 172])) rfl ?_
    refine e_ial (n := 400) (k := z2.toNatClampNeg) rfl lc_172 ln_172 h4 rfl ?_
    refine e_ias (n := 400) (k := z3.toNatClampNeg) rfl lc_172 ln_172 h5 rfl ?_
    refine e_nS fun s14 => ?_
    refine e_L 1 (f' := (153, [(5, .int z3), (4, .int z2), (0, .ref 151), (1, .int v1), (2, .int v2), (3, .int v3)], [.ref 151])) rfl ?_
    refine e_gR (q := 173) 12 42 rfl rfl lc_151 lr_151_42 ?_
    refine e_L 2 (f' := (159, [(5, .int z3), (4, .int z2), (0, .ref 151), (1, .int v1), (2, .int v2), (3, .int v3)], [.ref 151, .int z3, .ref 173])) rfl ?_
    refine e_gR (q := 173) 12 42 rfl rfl lc_151 lr_151_42 ?_
    refine e_L 1 (f' := (164, [(5, .int z3), (4, .int z2), (0, .ref 151), (1, .int v1), (2, .int v2), (3, .int v3)], [.int z2, .ref 173, .int z3, .ref 173])) rfl ?_
    refine e_ial (n := 400) (k := z2.toNatClampNeg) rfl lc_173 ln_173 h4 rfl ?_
    refine e_ias (n := 400) (k := z3.toNatClampNeg) rfl lc_173 ln_173 h5 rfl ?_
    refine e_nS fun s15 => ?_
    refine e_L 1 (f' := (167, [(5, .int z3), (4, .int z2), (0, .ref 151), (1, .int v1), (2, .int v2), (3, .int v3)], [.ref 151])) rfl ?_
    refine e_gR (q := 174) 12 43 rfl rfl lc_151 lr_151_43 ?_
    refine e_L 2 (f' := (173, [(5, .int z3), (4, .int z2), (0, .ref 151), (1, .int v1), (2, .int v2), (3, .int v3)], [.ref 151, .int z3, .ref 174])) rfl ?_
    refine e_gR (q := 174) 12 43 rfl rfl lc_151 lr_151_43 ?_
    refine e_L 1 (f' := (178, [(5, .int z3), (4, .int z2), (0, .ref 151), (1, .int v1), (2, .int v2), (3, .int v3)], [.int z2, .ref 174, .int z3, .ref 174])) rfl ?_
    refine e_ial (n := 400) (k := z2.toNatClampNeg) rfl lc_174 ln_174 h4 rfl ?_
    refine e_ias (n := 400) (k := z3.toNatClampNeg) rfl lc_174 ln_174 h5 rfl ?_
    refine e_nS fun s16 => ?_
    refine e_L 1 (f' := (181, [(5, .int z3), (4, .int z2), (0, .ref 151), (1, .int v1), (2, .int v2), (3, .int v3)], [.ref 151])) rfl ?_
    refine e_gR (q := 175) 12 44 rfl rfl lc_151 lr_151_44 ?_
    refine e_L 2 (f' := (187, [(5, .int z3), (4, .int z2), (0, .ref 151), (1, .int v1), (2, .int v2), (3, .int v3)], [.ref 151, .int z3, .ref 175])) rfl ?_
    refine e_gR (q := 175) 12 44 rfl rfl lc_151 lr_151_44 ?_
    refine e_L 1 (f' := (192, [(5, .int z3), (4, .int z2), (0, .ref 151), (1, .int v1), (2, .int v2), (3, .int v3)], [.int z2, .ref 175, .int z3, .ref 175])) rfl ?_
    refine e_bal (n := 400) (k := z2.toNatClampNeg) rfl (Or.inl lc_175) ln_175 h4 rfl ?_
    refine e_bas (n := 400) (k := z3.toNatClampNeg) rfl lc_175 ln_175 h5 rfl ?_
    refine e_nS fun s17 => ?_
    refine e_L 1 (f' := (195, [(5, .int z3), (4, .int z2), (0, .ref 151), (1, .int v1), (2, .int v2), (3, .int v3)], [.ref 151])) rfl ?_
    refine e_gR (q := 176) 12 45 rfl rfl lc_151 lr_151_45 ?_
    refine e_L 2 (f' := (201, [(5, .int z3), (4, .int z2), (0, .ref 151), (1, .int v1), (2, .int v2), (3, .int v3)], [.ref 151, .int z3, .ref 176])) rfl ?_
    refine e_gR (q := 176) 12 45 rfl rfl lc_151 lr_151_45 ?_
    refine e_L 1 (f' := (206, [(5, .int z3), (4, .int z2), (0, .ref 151), (1, .int v1), (2, .int v2), (3, .int v3)], [.int z2, .ref 176, .int z3, .ref 176])) rfl ?_
    refine e_ial (n := 400) (k := z2.toNatClampNeg) rfl lc_176 ln_176 h4 rfl ?_
    refine e_ias (n := 400) (k := z3.toNatClampNeg) rfl lc_176 ln_176 h5 rfl ?_
    refine e_nS fun s18 => ?_
    refine e_L 1 (f' := (209, [(5, .int z3), (4, .int z2), (0, .ref 151), (1, .int v1), (2, .int v2), (3, .int v3)], [.ref 151])) rfl ?_
    refine e_gR (q := 177) 12 46 rfl rfl lc_151 lr_151_46 ?_
    refine e_L 2 (f' := (215, [(5, .int z3), (4, .int z2), (0, .ref 151), (1, .int v1), (2, .int v2), (3, .int v3)], [.ref 151, .int z3, .ref 177])) rfl ?_
    refine e_gR (q := 177) 12 46 rfl rfl lc_151 lr_151_46 ?_
    refine e_L 1 (f' := (220, [(5, .int z3), (4, .int z2), (0, .ref 151), (1, .int v1), (2, .int v2), (3, .int v3)], [.int z2, .ref 177, .int z3, .ref 177])) rfl ?_
    refine e_ial (n := 400) (k := z2.toNatClampNeg) rfl lc_177 ln_177 h4 rfl ?_
    refine e_ias (n := 400) (k := z3.toNatClampNeg) rfl lc_177 ln_177 h5 rfl ?_
    refine e_nS fun s19 => ?_
    refine e_L 1 (f' := (223, [(5, .int z3), (4, .int z2), (0, .ref 151), (1, .int v1), (2, .int v2), (3, .int v3)], [.ref 151])) rfl ?_
    refine e_gR (q := 178) 12 47 rfl rfl lc_151 lr_151_47 ?_
    refine e_L 2 (f' := (229, [(5, .int z3), (4, .int z2), (0, .ref 151), (1, .int v1), (2, .int v2), (3, .int v3)], [.ref 151, .int z3, .ref 178])) rfl ?_
    refine e_gR (q := 178) 12 47 rfl rfl lc_151 lr_151_47 ?_
    refine e_L 1 (f' := (234, [(5, .int z3), (4, .int z2), (0, .ref 151), (1, .int v1), (2, .int v2), (3, .int v3)], [.int z2, .ref 178, .int z3, .ref 178])) rfl ?_
    refine e_ial (n := 400) (k := z2.toNatClampNeg) rfl lc_178 ln_178 h4 rfl ?_
    refine e_ias (n := 400) (k := z3.toNatClampNeg) rfl lc_178 ln_178 h5 rfl ?_
    refine e_nS fun s20 => ?_
    refine e_L 1 (f' := (237, [(5, .int z3), (4, .int z2), (0, .ref 151), (1, .int v1), (2, .int v2), (3, .int v3)], [.ref 151])) rfl ?_
    refine e_gR (q := 179) 12 48 rfl rfl lc_151 lr_151_48 ?_
    refine e_L 2 (f' := (243, [(5, .int z3), (4, .int z2), (0, .ref 151), (1, .int v1), (2, .int v2), (3, .int v3)], [.ref 151, .int z3, .ref 179])) rfl ?_
    refine e_gR (q := 179) 12 48 rfl rfl lc_151 lr_151_48 ?_
    refine e_L 1 (f' := (248, [(5, .int z3), (4, .int z2), (0, .ref 151), (1, .int v1), (2, .int v2), (3, .int v3)], [.int z2, .ref 179, .int z3, .ref 179])) rfl ?_
    refine e_ial (n := 400) (k := z2.toNatClampNeg) rfl lc_179 ln_179 h4 rfl ?_
    refine e_ias (n := 400) (k := z3.toNatClampNeg) rfl lc_179 ln_179 h5 rfl ?_
    refine e_nS fun s21 => ?_
    refine e_L 1 (f' := (251, [(5, .int z3), (4, .int z2), (0, .ref 151), (1, .int v1), (2, .int v2), (3, .int v3)], [.ref 151])) rfl ?_
    refine e_gR (q := 180) 12 49 rfl rfl lc_151 lr_151_49 ?_
    refine e_L 2 (f' := (257, [(5, .int z3), (4, .int z2), (0, .ref 151), (1, .int v1), (2, .int v2), (3, .int v3)], [.ref 151, .int z3, .ref 180])) rfl ?_
    refine e_gR (q := 180) 12 49 rfl rfl lc_151 lr_151_49 ?_
    refine e_L 1 (f' := (262, [(5, .int z3), (4, .int z2), (0, .ref 151), (1, .int v1), (2, .int v2), (3, .int v3)], [.int z2, .ref 180, .int z3, .ref 180])) rfl ?_
    refine e_lal (n := 400) (k := z2.toNatClampNeg) rfl lc_180 ln_180 h4 rfl ?_
    refine e_las (n := 400) (k := z3.toNatClampNeg) rfl lc_180 ln_180 h5 rfl ?_
    refine e_nS fun s22 => ?_
    refine e_L 2 (f' := (2, [(3, .int (v3 + (1 : Int32))), (5, .int z3), (4, .int z2), (0, .ref 151), (1, .int v1), (2, .int v2)], [])) rfl ?_
    exact qE_sub (qsubL [3, 4, 5, 0] rfl (ks := [3, 5, 4, 0, 1, 2]) rfl (by decide))
set_option maxRecDepth 100000 in
set_option maxHeartbeats 4000000 in
theorem le_X12_copyProgram_272 (en : pN) (d : Nat) (v1 : Int32) (v2 : Int32) (v3 : Int32) (s : qS) : qle (if (s.1 151 18) ≤ v3 then some (none, s) else gd (p_inB (((4 : Int32) * v1) + v3) 16 = true) (gd (p_inB (((4 : Int32) * v2) + v3) 16 = true) (nm (uI s 181 ((((4 : Int32) * v2) + v3).toNatClampNeg) (s.1 181 (((4 : Int32) * v1) + v3).toNatClampNeg)) (fun s4 => L_X12_copyProgram_272 en d v1 v2 (v3 + (1 : Int32)) s4)))) (L_X12_copyProgram_272 en d v1 v2 v3 s) := by
  show qle _ (qE (qev en d) en none tb_X12_copyProgram (272, [(0, .ref 151), (1, .int v1), (2, .int v2), (3, .int v3)], []) s)
  refine e_L 2 (f' := (274, [(0, .ref 151), (1, .int v1), (2, .int v2), (3, .int v3)], [.ref 151, .int v3])) rfl ?_
  refine e_gI 12 18 rfl rfl lc_151 ?_
  refine e_icmp 306 rfl rfl rfl (fun c1 => ?_) (fun c1 => ?_)
  · exact e_rV rfl rfl
  · refine e_L 1 (f' := (281, [(0, .ref 151), (1, .int v1), (2, .int v2), (3, .int v3)], [.ref 151])) rfl ?_
    refine e_gR (q := 181) 12 50 rfl rfl lc_151 lr_151_50 ?_
    refine e_L 6 (f' := (290, [(0, .ref 151), (1, .int v1), (2, .int v2), (3, .int v3)], [.ref 151, .int (((4 : Int32) * v2) + v3), .ref 181])) rfl ?_
    refine e_gR (q := 181) 12 50 rfl rfl lc_151 lr_151_50 ?_
    refine e_L 5 (f' := (298, [(0, .ref 151), (1, .int v1), (2, .int v2), (3, .int v3)], [.int (((4 : Int32) * v1) + v3), .ref 181, .int (((4 : Int32) * v2) + v3), .ref 181])) rfl ?_
    refine qle_gd fun h2 => ?_
    refine e_ial (n := 16) (k := (((4 : Int32) * v1) + v3).toNatClampNeg) rfl lc_181 ln_181 h2 rfl ?_
    refine qle_gd fun h3 => ?_
    refine e_ias (n := 16) (k := (((4 : Int32) * v2) + v3).toNatClampNeg) rfl lc_181 ln_181 h3 rfl ?_
    refine e_nS fun s4 => ?_
    refine e_L 2 (f' := (272, [(3, .int (v3 + (1 : Int32))), (0, .ref 151), (1, .int v1), (2, .int v2)], [])) rfl ?_
    exact qE_sub (qsubL [1, 2, 3, 0] rfl (ks := [3, 0, 1, 2]) rfl (by decide))
set_option maxRecDepth 100000 in
set_option maxHeartbeats 4000000 in
theorem le_X12_copyProgram (en : pN) (d : Nat) (a1 : Int32) (a2 : Int32) (s : qS) : qle (L_X12_copyProgram_2 en d a1 a2 (0 : Int32) s) (qev en (d + 1) 293 [.ref 151, .int a1, .int a2] s) := by
  refine e_enter ix_X12_copyProgram (Nat.le_of_ble_eq_true rfl) ?_
  show qle _ (qE (qev en d) en none tb_X12_copyProgram (0, [(0, .ref 151), (1, .int a1), (2, .int a2)], []) s)
  refine e_L 2 (f' := (2, [(3, .int (0 : Int32)), (0, .ref 151), (1, .int a1), (2, .int a2)], [])) rfl ?_
  exact qE_sub (qsubL [1, 2, 3, 0] rfl (ks := [3, 0, 1, 2]) rfl (by decide))
set_option maxRecDepth 100000 in
set_option maxHeartbeats 4000000 in
theorem le_X12_truth (en : pN) (d : Nat) (a1 : Int32) (s : qS) : qle (if a1 = (0 : Int32) then some (some (.int (0 : Int32)), s) else some (some (.int (1 : Int32)), s)) (qev en (d + 1) 294 [.int a1] s) := by
  refine e_enter ix_X12_truth (Nat.le_of_ble_eq_true rfl) ?_
  show qle _ (qE (qev en d) en (some .int) tb_X12_truth (0, [(0, .int a1)], []) s)
  refine e_L 1 (f' := (1, [(0, .int a1)], [.int a1])) rfl ?_
  refine e_ifz 8 rfl rfl rfl (fun c1 => ?_) (fun c1 => ?_)
  · refine e_L 1 (f' := (9, [(0, .int a1)], [.int (0 : Int32)])) rfl ?_
    exact e_rI rfl rfl
  · refine e_L 2 (f' := (9, [(0, .int a1)], [.int (1 : Int32)])) rfl ?_
    exact e_rI rfl rfl
set_option maxRecDepth 100000 in
set_option maxHeartbeats 4000000 in
theorem le_X12_isValue (en : pN) (d : Nat) (a1 : Int32) (s : qS) : qle (if a1 < (-999 : Int32) then some (some (.int (0 : Int32)), s) else if (999 : Int32) < a1 then some (some (.int (0 : Int32)), s) else some (some (.int (1 : Int32)), s)) (qev en (d + 1) 295 [.int a1] s) := by
  refine e_enter ix_X12_isValue (Nat.le_of_ble_eq_true rfl) ?_
  show qle _ (qE (qev en d) en (some .boolean) tb_X12_isValue (0, [(0, .int a1)], []) s)
  refine e_L 2 (f' := (4, [(0, .int a1)], [.int (-999 : Int32), .int a1])) rfl ?_
  refine e_icmp 18 rfl rfl rfl (fun c1 => ?_) (fun c1 => ?_)
  · refine e_L 1 (f' := (19, [(0, .int a1)], [.int (0 : Int32)])) rfl ?_
    exact e_rZ rfl rfl (by decide)
  · refine e_L 2 (f' := (11, [(0, .int a1)], [.int (999 : Int32), .int a1])) rfl ?_
    refine e_icmp 18 rfl rfl rfl (fun c2 => ?_) (fun c2 => ?_)
    · refine e_L 1 (f' := (19, [(0, .int a1)], [.int (0 : Int32)])) rfl ?_
      exact e_rZ rfl rfl (by decide)
    · refine e_L 2 (f' := (19, [(0, .int a1)], [.int (1 : Int32)])) rfl ?_
      exact e_rZ rfl rfl (by decide)
noncomputable def L_X12_worked_32 (en : pN) (d : Nat) (v2 : Int32) (v3 : Int32) (v4 : Int32) (v5 : Int32) (s : qS) : Option qR := qE (qev en d) en (some .int) tb_X12_worked (32, [(0, .ref 151), (2, .int v2), (3, .int v3), (4, .int v4), (5, .int v5)], []) s
noncomputable def L_X12_worked_105 (en : pN) (d : Nat) (v2 : Int32) (v3 : Int32) (v4 : Int32) (v5 : Int32) (v6 : Int32) (v7 : Int32) (s : qS) : Option qR := qE (qev en d) en (some .int) tb_X12_worked (105, [(0, .ref 151), (2, .int v2), (3, .int v3), (4, .int v4), (5, .int v5), (6, .int v6), (7, .int v7)], []) s
noncomputable def L_X12_worked_117 (en : pN) (d : Nat) (v2 : Int32) (v3 : Int32) (v4 : Int32) (v5 : Int32) (v6 : Int32) (s : qS) : Option qR := qE (qev en d) en (some .int) tb_X12_worked (117, [(0, .ref 151), (2, .int v2), (3, .int v3), (4, .int v4), (5, .int v5), (6, .int v6)], []) s
noncomputable def L_X12_worked_161 (en : pN) (d : Nat) (v2 : Int32) (v3 : Int32) (v4 : Int32) (v5 : Int32) (vs1 : Int32) (vs2 : Int32) (s : qS) : Option qR := qE (qev en d) en (some .int) tb_X12_worked (161, [(0, .ref 151), (2, .int v2), (3, .int v3), (4, .int v4), (5, .int v5)], [.int vs2, .int vs1, .ref 189]) s
noncomputable def L_X12_worked_164 (en : pN) (d : Nat) (v2 : Int32) (v3 : Int32) (v4 : Int32) (v5 : Int32) (vs1 : Int32) (vs2 : Int32) (s : qS) : Option qR := qE (qev en d) en (some .int) tb_X12_worked (164, [(0, .ref 151), (2, .int v2), (3, .int v3), (4, .int v4), (5, .int v5)], [.int vs2, .int vs1, .ref 189]) s
noncomputable def L_X12_worked_216 (en : pN) (d : Nat) (v2 : Int32) (v3 : Int32) (v4 : Int32) (v5 : Int32) (vs1 : Int32) (vs2 : Int32) (s : qS) : Option qR := qE (qev en d) en (some .int) tb_X12_worked (216, [(0, .ref 151), (2, .int v2), (3, .int v3), (4, .int v4), (5, .int v5)], [.int vs2, .int vs1, .ref 189]) s
noncomputable def L_X12_worked_220 (en : pN) (d : Nat) (v2 : Int32) (v3 : Int32) (v4 : Int32) (v5 : Int32) (s : qS) : Option qR := qE (qev en d) en (some .int) tb_X12_worked (220, [(0, .ref 151), (2, .int v2), (3, .int v3), (4, .int v4), (5, .int v5)], []) s
noncomputable def L_X12_worked_248 (en : pN) (d : Nat) (v2 : Int32) (v3 : Int32) (v4 : Int32) (v5 : Int32) (vs1 : Int32) (s : qS) : Option qR := qE (qev en d) en (some .int) tb_X12_worked (248, [(0, .ref 151), (2, .int v2), (3, .int v3), (4, .int v4), (5, .int v5)], [.int vs1, .ref 151]) s
set_option maxRecDepth 100000 in
set_option maxHeartbeats 4000000 in
theorem le_X12_worked_32 (en : pN) (d : Nat) (v2 : Int32) (v3 : Int32) (v4 : Int32) (v5 : Int32) (s : qS) : qle (if v2 ≤ v5 then if ¬ v4 = (0 : Int32) then some (some (.int (s.1 189 0)), s) else some (some (.int (0 : Int32)), s) else gd (p_inB v5 900 = true) (nm (s.1 161 v5.toNatClampNeg) (fun z4 => nm (s.1 162 v5.toNatClampNeg) (fun z5 => if z4 < (4 : Int32) then L_X12_worked_105 en d v2 v3 v4 v5 z4 z5 s else if (14 : Int32) < z4 then L_X12_worked_105 en d v2 v3 v4 v5 z4 z5 s else gd (p_inB ((v4 + (-1 : Int32)) - (1 : Int32)) 420 = true) (gd (p_inB (v4 + (-1 : Int32)) 420 = true) (bI (qev en d 297 [.int z4, .int (s.1 189 ((v4 + (-1 : Int32)) - (1 : Int32)).toNatClampNeg), .int (s.1 189 (v4 + (-1 : Int32)).toNatClampNeg)] s) (fun w10 s11 => nm (uI s11 189 (((v4 + (-1 : Int32)) - (1 : Int32)).toNatClampNeg) w10) (fun s13 => L_X12_worked_220 en d v2 v3 (v4 + (-1 : Int32)) v5 s13)))))))) (L_X12_worked_32 en d v2 v3 v4 v5 s) := by
  show qle _ (qE (qev en d) en (some .int) tb_X12_worked (32, [(0, .ref 151), (2, .int v2), (3, .int v3), (4, .int v4), (5, .int v5)], []) s)
  refine e_L 2 (f' := (35, [(0, .ref 151), (2, .int v2), (3, .int v3), (4, .int v4), (5, .int v5)], [.int v2, .int v5])) rfl ?_
  refine e_icmp 257 rfl rfl rfl (fun c1 => ?_) (fun c1 => ?_)
  · refine e_L 1 (f' := (259, [(0, .ref 151), (2, .int v2), (3, .int v3), (4, .int v4), (5, .int v5)], [.int v4])) rfl ?_
    refine e_ifz 266 rfl rfl rfl (fun c2 => ?_) (fun c2 => ?_)
    · refine e_L 1 (f' := (267, [(0, .ref 151), (2, .int v2), (3, .int v3), (4, .int v4), (5, .int v5)], [.ref 151])) rfl ?_
      refine e_gR (q := 189) 12 63 rfl rfl lc_151 lr_151_63 ?_
      refine e_L 1 (f' := (271, [(0, .ref 151), (2, .int v2), (3, .int v3), (4, .int v4), (5, .int v5)], [.int (0 : Int32), .ref 189])) rfl ?_
      refine e_ial (n := 420) (k := 0) rfl lc_189 ln_189 (by decide +kernel) (by decide +kernel) ?_
      exact e_rI rfl rfl
    · refine e_L 2 (f' := (272, [(0, .ref 151), (2, .int v2), (3, .int v3), (4, .int v4), (5, .int v5)], [.int (0 : Int32)])) rfl ?_
      exact e_rI rfl rfl
  · refine e_L 1 (f' := (39, [(0, .ref 151), (2, .int v2), (3, .int v3), (4, .int v4), (5, .int v5)], [.ref 151])) rfl ?_
    refine e_gR (q := 161) 12 23 rfl rfl lc_151 lr_151_23 ?_
    refine e_L 1 (f' := (44, [(0, .ref 151), (2, .int v2), (3, .int v3), (4, .int v4), (5, .int v5)], [.int v5, .ref 161])) rfl ?_
    refine qle_gd fun h3 => ?_
    refine e_ial (n := 900) (k := v5.toNatClampNeg) rfl lc_161 ln_161 h3 rfl ?_
    refine e_nI fun z4 => ?_
    refine e_L 2 (f' := (48, [(6, .int z4), (0, .ref 151), (2, .int v2), (3, .int v3), (4, .int v4), (5, .int v5)], [.ref 151])) rfl ?_
    refine e_gR (q := 162) 12 24 rfl rfl lc_151 lr_151_24 ?_
    refine e_L 1 (f' := (53, [(6, .int z4), (0, .ref 151), (2, .int v2), (3, .int v3), (4, .int v4), (5, .int v5)], [.int v5, .ref 162])) rfl ?_
    refine e_ial (n := 900) (k := v5.toNatClampNeg) rfl lc_162 ln_162 h3 rfl ?_
    refine e_nI fun z5 => ?_
    refine e_L 3 (f' := (59, [(7, .int z5), (6, .int z4), (0, .ref 151), (2, .int v2), (3, .int v3), (4, .int v4), (5, .int v5)], [.int (4 : Int32), .int z4])) rfl ?_
    refine e_icmp 105 rfl rfl rfl (fun c6 => ?_) (fun c6 => ?_)
    · exact qE_sub (qsubL [2, 3, 4, 5, 6, 1, 0] rfl (ks := [7, 6, 0, 2, 3, 4, 5]) rfl (by decide))
    · refine e_L 2 (f' := (66, [(7, .int z5), (6, .int z4), (0, .ref 151), (2, .int v2), (3, .int v3), (4, .int v4), (5, .int v5)], [.int (14 : Int32), .int z4])) rfl ?_
      refine e_icmp 105 rfl rfl rfl (fun c7 => ?_) (fun c7 => ?_)
      · exact qE_sub (qsubL [2, 3, 4, 5, 6, 1, 0] rfl (ks := [7, 6, 0, 2, 3, 4, 5]) rfl (by decide))
      · refine e_L 2 (f' := (73, [(4, .int (v4 + (-1 : Int32))), (7, .int z5), (6, .int z4), (0, .ref 151), (2, .int v2), (3, .int v3), (5, .int v5)], [.ref 151])) rfl ?_
        refine e_gR (q := 189) 12 63 rfl rfl lc_151 lr_151_63 ?_
        refine e_L 5 (f' := (83, [(4, .int (v4 + (-1 : Int32))), (7, .int z5), (6, .int z4), (0, .ref 151), (2, .int v2), (3, .int v3), (5, .int v5)], [.ref 151, .int z4, .int ((v4 + (-1 : Int32)) - (1 : Int32)), .ref 189])) rfl ?_
        refine e_gR (q := 189) 12 63 rfl rfl lc_151 lr_151_63 ?_
        refine e_L 3 (f' := (90, [(4, .int (v4 + (-1 : Int32))), (7, .int z5), (6, .int z4), (0, .ref 151), (2, .int v2), (3, .int v3), (5, .int v5)], [.int ((v4 + (-1 : Int32)) - (1 : Int32)), .ref 189, .int z4, .int ((v4 + (-1 : Int32)) - (1 : Int32)), .ref 189])) rfl ?_
        refine qle_gd fun h8 => ?_
        refine e_ial (n := 420) (k := ((v4 + (-1 : Int32)) - (1 : Int32)).toNatClampNeg) rfl lc_189 ln_189 h8 rfl ?_
        refine e_L 1 (f' := (92, [(4, .int (v4 + (-1 : Int32))), (7, .int z5), (6, .int z4), (0, .ref 151), (2, .int v2), (3, .int v3), (5, .int v5)], [.ref 151, .int (s.1 189 ((v4 + (-1 : Int32)) - (1 : Int32)).toNatClampNeg), .int z4, .int ((v4 + (-1 : Int32)) - (1 : Int32)), .ref 189])) rfl ?_
        refine e_gR (q := 189) 12 63 rfl rfl lc_151 lr_151_63 ?_
        refine e_L 1 (f' := (97, [(4, .int (v4 + (-1 : Int32))), (7, .int z5), (6, .int z4), (0, .ref 151), (2, .int v2), (3, .int v3), (5, .int v5)], [.int (v4 + (-1 : Int32)), .ref 189, .int (s.1 189 ((v4 + (-1 : Int32)) - (1 : Int32)).toNatClampNeg), .int z4, .int ((v4 + (-1 : Int32)) - (1 : Int32)), .ref 189])) rfl ?_
        refine qle_gd fun h9 => ?_
        refine e_ial (n := 420) (k := (v4 + (-1 : Int32)).toNatClampNeg) rfl lc_189 ln_189 h9 rfl ?_
        refine e_sI 297 rfl rfl rfl ix_X12_joined rfl (Nat.le_of_ble_eq_true rfl) (fun w10 s11 e12 => ?_)
        refine e_ias (n := 420) (k := ((v4 + (-1 : Int32)) - (1 : Int32)).toNatClampNeg) rfl lc_189 ln_189 h8 rfl ?_
        refine e_nS fun s13 => ?_
        refine e_L 1 (f' := (220, [(4, .int (v4 + (-1 : Int32))), (7, .int z5), (6, .int z4), (0, .ref 151), (2, .int v2), (3, .int v3), (5, .int v5)], [])) rfl ?_
        exact qE_sub (qsubL [3, 4, 5, 0, 6] rfl (ks := [4, 7, 6, 0, 2, 3, 5]) rfl (by decide))
set_option maxRecDepth 100000 in
set_option maxHeartbeats 4000000 in
theorem le_X12_worked_105 (en : pN) (d : Nat) (v2 : Int32) (v3 : Int32) (v4 : Int32) (v5 : Int32) (v6 : Int32) (v7 : Int32) (s : qS) : qle (if v6 = (2 : Int32) then L_X12_worked_117 en d v2 v3 v4 v5 v6 s else if ¬ v6 = (3 : Int32) then if ¬ v6 = (0 : Int32) then if ¬ v6 = (1 : Int32) then bI (qev en d 298 [.ref 151, .int v6, .int v7] s) (fun w5 s6 => L_X12_worked_216 en d v2 v3 v4 v5 v4 w5 s6) else gd (p_inB (((12 : Int32) + ((6 : Int32) * v3)) + v7) 216 = true) (L_X12_worked_216 en d v2 v3 v4 v5 v4 (s.1 187 (((12 : Int32) + ((6 : Int32) * v3)) + v7).toNatClampNeg) s) else L_X12_worked_216 en d v2 v3 v4 v5 v4 v7 s else L_X12_worked_117 en d v2 v3 v4 v5 v6 s) (L_X12_worked_105 en d v2 v3 v4 v5 v6 v7 s) := by
  show qle _ (qE (qev en d) en (some .int) tb_X12_worked (105, [(0, .ref 151), (2, .int v2), (3, .int v3), (4, .int v4), (5, .int v5), (6, .int v6), (7, .int v7)], []) s)
  refine e_L 2 (f' := (108, [(0, .ref 151), (2, .int v2), (3, .int v3), (4, .int v4), (5, .int v5), (6, .int v6), (7, .int v7)], [.int (2 : Int32), .int v6])) rfl ?_
  refine e_icmp 117 rfl rfl rfl (fun c1 => ?_) (fun c1 => ?_)
  · exact qE_sub (qsubL [0, 1, 2, 3, 4, 5] rfl (ks := [0, 2, 3, 4, 5, 6, 7]) rfl (by decide))
  · refine e_L 2 (f' := (114, [(0, .ref 151), (2, .int v2), (3, .int v3), (4, .int v4), (5, .int v5), (6, .int v6), (7, .int v7)], [.int (3 : Int32), .int v6])) rfl ?_
    refine e_icmp 168 rfl rfl rfl (fun c2 => ?_) (fun c2 => ?_)
    · refine e_L 1 (f' := (169, [(0, .ref 151), (2, .int v2), (3, .int v3), (4, .int v4), (5, .int v5), (6, .int v6), (7, .int v7)], [.ref 151])) rfl ?_
      refine e_gR (q := 189) 12 63 rfl rfl lc_151 lr_151_63 ?_
      refine e_L 2 (f' := (176, [(0, .ref 151), (2, .int v2), (3, .int v3), (4, .int v4), (5, .int v5), (6, .int v6), (7, .int v7)], [.int v6, .int v4, .ref 189])) rfl ?_
      refine e_ifz 184 rfl rfl rfl (fun c3 => ?_) (fun c3 => ?_)
      · refine e_L 2 (f' := (187, [(0, .ref 151), (2, .int v2), (3, .int v3), (4, .int v4), (5, .int v5), (6, .int v6), (7, .int v7)], [.int (1 : Int32), .int v6, .int v4, .ref 189])) rfl ?_
        refine e_icmp 208 rfl rfl rfl (fun c4 => ?_) (fun c4 => ?_)
        · refine e_L 3 (f' := (213, [(0, .ref 151), (2, .int v2), (3, .int v3), (4, .int v4), (5, .int v5), (6, .int v6), (7, .int v7)], [.int v7, .int v6, .ref 151, .int v4, .ref 189])) rfl ?_
          refine e_vI 298 rfl rfl ix_X12_factOf rfl (q_recvOf lc_151 rfl) (Nat.le_of_ble_eq_true rfl) (fun w5 s6 e7 => ?_)
          exact qE_sub (qsubL [0, 1, 2, 3, 4] rfl (ks := [0, 2, 3, 4, 5, 6, 7]) rfl (by decide))
        · refine e_L 1 (f' := (191, [(0, .ref 151), (2, .int v2), (3, .int v3), (4, .int v4), (5, .int v5), (6, .int v6), (7, .int v7)], [.ref 151, .int v4, .ref 189])) rfl ?_
          refine e_gR (q := 187) 12 57 rfl rfl lc_151 lr_151_57 ?_
          refine e_L 7 (f' := (204, [(0, .ref 151), (2, .int v2), (3, .int v3), (4, .int v4), (5, .int v5), (6, .int v6), (7, .int v7)], [.int (((12 : Int32) + ((6 : Int32) * v3)) + v7), .ref 187, .int v4, .ref 189])) rfl ?_
          refine qle_gd fun h8 => ?_
          refine e_ial (n := 216) (k := (((12 : Int32) + ((6 : Int32) * v3)) + v7).toNatClampNeg) rfl lc_187 ln_187 h8 rfl ?_
          refine e_L 1 (f' := (216, [(0, .ref 151), (2, .int v2), (3, .int v3), (4, .int v4), (5, .int v5), (6, .int v6), (7, .int v7)], [.int (s.1 187 (((12 : Int32) + ((6 : Int32) * v3)) + v7).toNatClampNeg), .int v4, .ref 189])) rfl ?_
          exact qE_sub (qsubL [0, 1, 2, 3, 4] rfl (ks := [0, 2, 3, 4, 5, 6, 7]) rfl (by decide))
      · refine e_L 2 (f' := (216, [(0, .ref 151), (2, .int v2), (3, .int v3), (4, .int v4), (5, .int v5), (6, .int v6), (7, .int v7)], [.int v7, .int v4, .ref 189])) rfl ?_
        exact qE_sub (qsubL [0, 1, 2, 3, 4] rfl (ks := [0, 2, 3, 4, 5, 6, 7]) rfl (by decide))
    · exact qE_sub (qsubL [0, 1, 2, 3, 4, 5] rfl (ks := [0, 2, 3, 4, 5, 6, 7]) rfl (by decide))
set_option maxRecDepth 100000 in
set_option maxHeartbeats 4000000 in
theorem le_X12_worked_117 (en : pN) (d : Nat) (v2 : Int32) (v3 : Int32) (v4 : Int32) (v5 : Int32) (v6 : Int32) (s : qS) : qle (if ¬ v6 = (2 : Int32) then gd (p_inB (v4 - (1 : Int32)) 420 = true) (if ¬ (s.1 189 (v4 - (1 : Int32)).toNatClampNeg) = (0 : Int32) then L_X12_worked_161 en d v2 v3 v4 v5 (v4 - (1 : Int32)) (0 : Int32) s else L_X12_worked_161 en d v2 v3 v4 v5 (v4 - (1 : Int32)) (1 : Int32) s) else gd (p_inB (v4 - (1 : Int32)) 420 = true) (L_X12_worked_164 en d v2 v3 v4 v5 (v4 - (1 : Int32)) (-(s.1 189 (v4 - (1 : Int32)).toNatClampNeg)) s)) (L_X12_worked_117 en d v2 v3 v4 v5 v6 s) := by
  show qle _ (qE (qev en d) en (some .int) tb_X12_worked (117, [(0, .ref 151), (2, .int v2), (3, .int v3), (4, .int v4), (5, .int v5), (6, .int v6)], []) s)
  refine e_L 1 (f' := (118, [(0, .ref 151), (2, .int v2), (3, .int v3), (4, .int v4), (5, .int v5), (6, .int v6)], [.ref 151])) rfl ?_
  refine e_gR (q := 189) 12 63 rfl rfl lc_151 lr_151_63 ?_
  refine e_L 5 (f' := (128, [(0, .ref 151), (2, .int v2), (3, .int v3), (4, .int v4), (5, .int v5), (6, .int v6)], [.int (2 : Int32), .int v6, .int (v4 - (1 : Int32)), .ref 189])) rfl ?_
  refine e_icmp 144 rfl rfl rfl (fun c1 => ?_) (fun c1 => ?_)
  · refine e_L 1 (f' := (145, [(0, .ref 151), (2, .int v2), (3, .int v3), (4, .int v4), (5, .int v5), (6, .int v6)], [.ref 151, .int (v4 - (1 : Int32)), .ref 189])) rfl ?_
    refine e_gR (q := 189) 12 63 rfl rfl lc_151 lr_151_63 ?_
    refine e_L 3 (f' := (152, [(0, .ref 151), (2, .int v2), (3, .int v3), (4, .int v4), (5, .int v5), (6, .int v6)], [.int (v4 - (1 : Int32)), .ref 189, .int (v4 - (1 : Int32)), .ref 189])) rfl ?_
    refine qle_gd fun h2 => ?_
    refine e_ial (n := 420) (k := (v4 - (1 : Int32)).toNatClampNeg) rfl lc_189 ln_189 h2 rfl ?_
    refine e_ifz 160 rfl rfl rfl (fun c3 => ?_) (fun c3 => ?_)
    · refine e_L 1 (f' := (161, [(0, .ref 151), (2, .int v2), (3, .int v3), (4, .int v4), (5, .int v5), (6, .int v6)], [.int (0 : Int32), .int (v4 - (1 : Int32)), .ref 189])) rfl ?_
      exact qE_sub (qsubL [0, 1, 2, 3, 4] rfl (ks := [0, 2, 3, 4, 5, 6]) rfl (by decide))
    · refine e_L 2 (f' := (161, [(0, .ref 151), (2, .int v2), (3, .int v3), (4, .int v4), (5, .int v5), (6, .int v6)], [.int (1 : Int32), .int (v4 - (1 : Int32)), .ref 189])) rfl ?_
      exact qE_sub (qsubL [0, 1, 2, 3, 4] rfl (ks := [0, 2, 3, 4, 5, 6]) rfl (by decide))
  · refine e_L 1 (f' := (132, [(0, .ref 151), (2, .int v2), (3, .int v3), (4, .int v4), (5, .int v5), (6, .int v6)], [.ref 151, .int (v4 - (1 : Int32)), .ref 189])) rfl ?_
    refine e_gR (q := 189) 12 63 rfl rfl lc_151 lr_151_63 ?_
    refine e_L 3 (f' := (139, [(0, .ref 151), (2, .int v2), (3, .int v3), (4, .int v4), (5, .int v5), (6, .int v6)], [.int (v4 - (1 : Int32)), .ref 189, .int (v4 - (1 : Int32)), .ref 189])) rfl ?_
    refine qle_gd fun h4 => ?_
    refine e_ial (n := 420) (k := (v4 - (1 : Int32)).toNatClampNeg) rfl lc_189 ln_189 h4 rfl ?_
    refine e_L 2 (f' := (164, [(0, .ref 151), (2, .int v2), (3, .int v3), (4, .int v4), (5, .int v5), (6, .int v6)], [.int (-(s.1 189 (v4 - (1 : Int32)).toNatClampNeg)), .int (v4 - (1 : Int32)), .ref 189])) rfl ?_
    exact qE_sub (qsubL [0, 1, 2, 3, 4] rfl (ks := [0, 2, 3, 4, 5, 6]) rfl (by decide))
set_option maxRecDepth 100000 in
set_option maxHeartbeats 4000000 in
theorem le_X12_worked_161 (en : pN) (d : Nat) (v2 : Int32) (v3 : Int32) (v4 : Int32) (v5 : Int32) (vs1 : Int32) (vs2 : Int32) (s : qS) : qle (bI (qev en d 294 [.int vs2] s) (fun w1 s2 => L_X12_worked_164 en d v2 v3 v4 v5 vs1 w1 s2)) (L_X12_worked_161 en d v2 v3 v4 v5 vs1 vs2 s) := by
  show qle _ (qE (qev en d) en (some .int) tb_X12_worked (161, [(0, .ref 151), (2, .int v2), (3, .int v3), (4, .int v4), (5, .int v5)], [.int vs2, .int vs1, .ref 189]) s)
  refine e_sI 294 rfl rfl rfl ix_X12_truth rfl (Nat.le_of_ble_eq_true rfl) (fun w1 s2 e3 => ?_)
  exact qE_sub (qsubL [0, 1, 2, 3, 4] rfl (ks := [0, 2, 3, 4, 5]) rfl (by decide))
set_option maxRecDepth 100000 in
set_option maxHeartbeats 4000000 in
theorem le_X12_worked_164 (en : pN) (d : Nat) (v2 : Int32) (v3 : Int32) (v4 : Int32) (v5 : Int32) (vs1 : Int32) (vs2 : Int32) (s : qS) : qle (gd (p_inB vs1 420 = true) (nm (uI s 189 (vs1.toNatClampNeg) vs2) (fun s2 => L_X12_worked_220 en d v2 v3 v4 v5 s2))) (L_X12_worked_164 en d v2 v3 v4 v5 vs1 vs2 s) := by
  show qle _ (qE (qev en d) en (some .int) tb_X12_worked (164, [(0, .ref 151), (2, .int v2), (3, .int v3), (4, .int v4), (5, .int v5)], [.int vs2, .int vs1, .ref 189]) s)
  refine qle_gd fun h1 => ?_
  refine e_ias (n := 420) (k := vs1.toNatClampNeg) rfl lc_189 ln_189 h1 rfl ?_
  refine e_nS fun s2 => ?_
  refine e_L 1 (f' := (220, [(0, .ref 151), (2, .int v2), (3, .int v3), (4, .int v4), (5, .int v5)], [])) rfl ?_
  exact qE_sub (qsubL [0, 1, 2, 3, 4] rfl (ks := [0, 2, 3, 4, 5]) rfl (by decide))
set_option maxRecDepth 100000 in
set_option maxHeartbeats 4000000 in
theorem le_X12_worked_216 (en : pN) (d : Nat) (v2 : Int32) (v3 : Int32) (v4 : Int32) (v5 : Int32) (vs1 : Int32) (vs2 : Int32) (s : qS) : qle (gd (p_inB vs1 420 = true) (nm (uI s 189 (vs1.toNatClampNeg) vs2) (fun s2 => L_X12_worked_220 en d v2 v3 (v4 + (1 : Int32)) v5 s2))) (L_X12_worked_216 en d v2 v3 v4 v5 vs1 vs2 s) := by
  show qle _ (qE (qev en d) en (some .int) tb_X12_worked (216, [(0, .ref 151), (2, .int v2), (3, .int v3), (4, .int v4), (5, .int v5)], [.int vs2, .int vs1, .ref 189]) s)
  refine qle_gd fun h1 => ?_
  refine e_ias (n := 420) (k := vs1.toNatClampNeg) rfl lc_189 ln_189 h1 rfl ?_
  refine e_nS fun s2 => ?_
  refine e_L 1 (f' := (220, [(4, .int (v4 + (1 : Int32))), (0, .ref 151), (2, .int v2), (3, .int v3), (5, .int v5)], [])) rfl ?_
  exact qE_sub (qsubL [1, 2, 3, 0, 4] rfl (ks := [4, 0, 2, 3, 5]) rfl (by decide))
set_option maxRecDepth 100000 in
set_option maxHeartbeats 4000000 in
theorem le_X12_worked_220 (en : pN) (d : Nat) (v2 : Int32) (v3 : Int32) (v4 : Int32) (v5 : Int32) (s : qS) : qle (if ¬ (s.1 151 62) = (0 : Int32) then L_X12_worked_248 en d v2 v3 v4 v5 (1 : Int32) s else gd (p_inB (v4 - (1 : Int32)) 420 = true) (bI (qev en d 295 [.int (s.1 189 (v4 - (1 : Int32)).toNatClampNeg)] s) (fun w3 s4 => if ¬ w3 = (0 : Int32) then L_X12_worked_248 en d v2 v3 v4 v5 (0 : Int32) s4 else L_X12_worked_248 en d v2 v3 v4 v5 (1 : Int32) s4))) (L_X12_worked_220 en d v2 v3 v4 v5 s) := by
  show qle _ (qE (qev en d) en (some .int) tb_X12_worked (220, [(0, .ref 151), (2, .int v2), (3, .int v3), (4, .int v4), (5, .int v5)], []) s)
  refine e_L 2 (f' := (222, [(0, .ref 151), (2, .int v2), (3, .int v3), (4, .int v4), (5, .int v5)], [.ref 151, .ref 151])) rfl ?_
  refine e_gI 12 62 rfl rfl lc_151 ?_
  refine e_ifz 243 rfl rfl rfl (fun c1 => ?_) (fun c1 => ?_)
  · refine e_L 2 (f' := (248, [(0, .ref 151), (2, .int v2), (3, .int v3), (4, .int v4), (5, .int v5)], [.int (1 : Int32), .ref 151])) rfl ?_
    exact qE_sub (qsubL [0, 1, 2, 3, 4] rfl (ks := [0, 2, 3, 4, 5]) rfl (by decide))
  · refine e_L 1 (f' := (229, [(0, .ref 151), (2, .int v2), (3, .int v3), (4, .int v4), (5, .int v5)], [.ref 151, .ref 151])) rfl ?_
    refine e_gR (q := 189) 12 63 rfl rfl lc_151 lr_151_63 ?_
    refine e_L 3 (f' := (236, [(0, .ref 151), (2, .int v2), (3, .int v3), (4, .int v4), (5, .int v5)], [.int (v4 - (1 : Int32)), .ref 189, .ref 151])) rfl ?_
    refine qle_gd fun h2 => ?_
    refine e_ial (n := 420) (k := (v4 - (1 : Int32)).toNatClampNeg) rfl lc_189 ln_189 h2 rfl ?_
    refine e_sI 295 rfl rfl rfl ix_X12_isValue rfl (Nat.le_of_ble_eq_true rfl) (fun w3 s4 e5 => ?_)
    refine e_ifz 247 rfl rfl rfl (fun c6 => ?_) (fun c6 => ?_)
    · refine e_L 1 (f' := (248, [(0, .ref 151), (2, .int v2), (3, .int v3), (4, .int v4), (5, .int v5)], [.int (0 : Int32), .ref 151])) rfl ?_
      exact qE_sub (qsubL [0, 1, 2, 3, 4] rfl (ks := [0, 2, 3, 4, 5]) rfl (by decide))
    · refine e_L 2 (f' := (248, [(0, .ref 151), (2, .int v2), (3, .int v3), (4, .int v4), (5, .int v5)], [.int (1 : Int32), .ref 151])) rfl ?_
      exact qE_sub (qsubL [0, 1, 2, 3, 4] rfl (ks := [0, 2, 3, 4, 5]) rfl (by decide))
set_option maxRecDepth 100000 in
set_option maxHeartbeats 4000000 in
theorem le_X12_worked_248 (en : pN) (d : Nat) (v2 : Int32) (v3 : Int32) (v4 : Int32) (v5 : Int32) (vs1 : Int32) (s : qS) : qle (gd (isB vs1 = true) (nm (uI s 151 62 vs1) (fun s2 => L_X12_worked_32 en d v2 v3 v4 (v5 + (1 : Int32)) s2))) (L_X12_worked_248 en d v2 v3 v4 v5 vs1 s) := by
  show qle _ (qE (qev en d) en (some .int) tb_X12_worked (248, [(0, .ref 151), (2, .int v2), (3, .int v3), (4, .int v4), (5, .int v5)], [.int vs1, .ref 151]) s)
  refine qle_gd fun h1 => ?_
  refine e_pI 12 62 rfl rfl lc_151 h1 ?_
  refine e_nS fun s2 => ?_
  refine e_L 2 (f' := (32, [(5, .int (v5 + (1 : Int32))), (0, .ref 151), (2, .int v2), (3, .int v3), (4, .int v4)], [])) rfl ?_
  exact qE_sub (qsubL [1, 2, 3, 4, 0] rfl (ks := [5, 0, 2, 3, 4]) rfl (by decide))
set_option maxRecDepth 100000 in
set_option maxHeartbeats 4000000 in
theorem le_X12_worked (en : pN) (d : Nat) (a1 : Int32) (a2 : Int32) (a3 : Int32) (s : qS) : qle (nm (uI s 151 62 (0 : Int32)) (fun s1 => if (0 : Int32) ≤ a1 then L_X12_worked_32 en d a2 a3 (0 : Int32) a1 s1 else gd (p_inB ((((12 : Int32) + ((6 : Int32) * a3)) - (1 : Int32)) - a1) 216 = true) (some (some (.int (s1.1 187 ((((12 : Int32) + ((6 : Int32) * a3)) - (1 : Int32)) - a1).toNatClampNeg)), s1)))) (qev en (d + 1) 296 [.ref 151, .int a1, .int a2, .int a3] s) := by
  refine e_enter ix_X12_worked (Nat.le_of_ble_eq_true rfl) ?_
  show qle _ (qE (qev en d) en (some .int) tb_X12_worked (0, [(0, .ref 151), (1, .int a1), (2, .int a2), (3, .int a3)], []) s)
  refine e_L 2 (f' := (2, [(0, .ref 151), (1, .int a1), (2, .int a2), (3, .int a3)], [.int (0 : Int32), .ref 151])) rfl ?_
  refine e_pI 12 62 rfl rfl lc_151 (by decide +kernel) ?_
  refine e_nS fun s1 => ?_
  refine e_L 1 (f' := (6, [(0, .ref 151), (1, .int a1), (2, .int a2), (3, .int a3)], [.int a1])) rfl ?_
  refine e_ifz 26 rfl rfl rfl (fun c2 => ?_) (fun c2 => ?_)
  · refine e_L 4 (f' := (32, [(5, .int a1), (4, .int (0 : Int32)), (0, .ref 151), (1, .int a1), (2, .int a2), (3, .int a3)], [])) rfl ?_
    exact qE_sub (qsubL [2, 4, 5, 1, 0] rfl (ks := [5, 4, 0, 1, 2, 3]) rfl (by decide))
  · refine e_L 1 (f' := (10, [(0, .ref 151), (1, .int a1), (2, .int a2), (3, .int a3)], [.ref 151])) rfl ?_
    refine e_gR (q := 187) 12 57 rfl rfl lc_151 lr_151_57 ?_
    refine e_L 9 (f' := (24, [(0, .ref 151), (1, .int a1), (2, .int a2), (3, .int a3)], [.int ((((12 : Int32) + ((6 : Int32) * a3)) - (1 : Int32)) - a1), .ref 187])) rfl ?_
    refine qle_gd fun h3 => ?_
    refine e_ial (n := 216) (k := ((((12 : Int32) + ((6 : Int32) * a3)) - (1 : Int32)) - a1).toNatClampNeg) rfl lc_187 ln_187 h3 rfl ?_
    exact e_rI rfl rfl
noncomputable def L_X12_joined_78 (en : pN) (d : Nat) (vs0 : Int32) (s : qS) : Option qR := qE (qev en d) en (some .int) tb_X12_joined (78, [], [.int vs0]) s
noncomputable def L_X12_joined_92 (en : pN) (d : Nat) (vs0 : Int32) (s : qS) : Option qR := qE (qev en d) en (some .int) tb_X12_joined (92, [], [.int vs0]) s
noncomputable def L_X12_joined_106 (en : pN) (d : Nat) (vs0 : Int32) (s : qS) : Option qR := qE (qev en d) en (some .int) tb_X12_joined (106, [], [.int vs0]) s
noncomputable def L_X12_joined_120 (en : pN) (d : Nat) (vs0 : Int32) (s : qS) : Option qR := qE (qev en d) en (some .int) tb_X12_joined (120, [], [.int vs0]) s
noncomputable def L_X12_joined_134 (en : pN) (d : Nat) (vs0 : Int32) (s : qS) : Option qR := qE (qev en d) en (some .int) tb_X12_joined (134, [], [.int vs0]) s
noncomputable def L_X12_joined_148 (en : pN) (d : Nat) (vs0 : Int32) (s : qS) : Option qR := qE (qev en d) en (some .int) tb_X12_joined (148, [], [.int vs0]) s
noncomputable def L_X12_joined_165 (en : pN) (d : Nat) (vs0 : Int32) (s : qS) : Option qR := qE (qev en d) en (some .int) tb_X12_joined (165, [], [.int vs0]) s
noncomputable def L_X12_joined_182 (en : pN) (d : Nat) (vs0 : Int32) (s : qS) : Option qR := qE (qev en d) en (some .int) tb_X12_joined (182, [], [.int vs0]) s
set_option maxRecDepth 100000 in
set_option maxHeartbeats 4000000 in
theorem le_X12_joined_78 (en : pN) (d : Nat) (vs0 : Int32) (s : qS) : qle (bI (qev en d 294 [.int vs0] s) (fun w1 s2 => some (some (.int w1), s2))) (L_X12_joined_78 en d vs0 s) := by
  show qle _ (qE (qev en d) en (some .int) tb_X12_joined (78, [], [.int vs0]) s)
  refine e_sI 294 rfl rfl rfl ix_X12_truth rfl (Nat.le_of_ble_eq_true rfl) (fun w1 s2 e3 => ?_)
  exact e_rI rfl rfl
set_option maxRecDepth 100000 in
set_option maxHeartbeats 4000000 in
theorem le_X12_joined_92 (en : pN) (d : Nat) (vs0 : Int32) (s : qS) : qle (bI (qev en d 294 [.int vs0] s) (fun w1 s2 => some (some (.int w1), s2))) (L_X12_joined_92 en d vs0 s) := by
  show qle _ (qE (qev en d) en (some .int) tb_X12_joined (92, [], [.int vs0]) s)
  refine e_sI 294 rfl rfl rfl ix_X12_truth rfl (Nat.le_of_ble_eq_true rfl) (fun w1 s2 e3 => ?_)
  exact e_rI rfl rfl
set_option maxRecDepth 100000 in
set_option maxHeartbeats 4000000 in
theorem le_X12_joined_106 (en : pN) (d : Nat) (vs0 : Int32) (s : qS) : qle (bI (qev en d 294 [.int vs0] s) (fun w1 s2 => some (some (.int w1), s2))) (L_X12_joined_106 en d vs0 s) := by
  show qle _ (qE (qev en d) en (some .int) tb_X12_joined (106, [], [.int vs0]) s)
  refine e_sI 294 rfl rfl rfl ix_X12_truth rfl (Nat.le_of_ble_eq_true rfl) (fun w1 s2 e3 => ?_)
  exact e_rI rfl rfl
set_option maxRecDepth 100000 in
set_option maxHeartbeats 4000000 in
theorem le_X12_joined_120 (en : pN) (d : Nat) (vs0 : Int32) (s : qS) : qle (bI (qev en d 294 [.int vs0] s) (fun w1 s2 => some (some (.int w1), s2))) (L_X12_joined_120 en d vs0 s) := by
  show qle _ (qE (qev en d) en (some .int) tb_X12_joined (120, [], [.int vs0]) s)
  refine e_sI 294 rfl rfl rfl ix_X12_truth rfl (Nat.le_of_ble_eq_true rfl) (fun w1 s2 e3 => ?_)
  exact e_rI rfl rfl
set_option maxRecDepth 100000 in
set_option maxHeartbeats 4000000 in
theorem le_X12_joined_134 (en : pN) (d : Nat) (vs0 : Int32) (s : qS) : qle (bI (qev en d 294 [.int vs0] s) (fun w1 s2 => some (some (.int w1), s2))) (L_X12_joined_134 en d vs0 s) := by
  show qle _ (qE (qev en d) en (some .int) tb_X12_joined (134, [], [.int vs0]) s)
  refine e_sI 294 rfl rfl rfl ix_X12_truth rfl (Nat.le_of_ble_eq_true rfl) (fun w1 s2 e3 => ?_)
  exact e_rI rfl rfl
set_option maxRecDepth 100000 in
set_option maxHeartbeats 4000000 in
theorem le_X12_joined_148 (en : pN) (d : Nat) (vs0 : Int32) (s : qS) : qle (bI (qev en d 294 [.int vs0] s) (fun w1 s2 => some (some (.int w1), s2))) (L_X12_joined_148 en d vs0 s) := by
  show qle _ (qE (qev en d) en (some .int) tb_X12_joined (148, [], [.int vs0]) s)
  refine e_sI 294 rfl rfl rfl ix_X12_truth rfl (Nat.le_of_ble_eq_true rfl) (fun w1 s2 e3 => ?_)
  exact e_rI rfl rfl
set_option maxRecDepth 100000 in
set_option maxHeartbeats 4000000 in
theorem le_X12_joined_165 (en : pN) (d : Nat) (vs0 : Int32) (s : qS) : qle (bI (qev en d 294 [.int vs0] s) (fun w1 s2 => some (some (.int w1), s2))) (L_X12_joined_165 en d vs0 s) := by
  show qle _ (qE (qev en d) en (some .int) tb_X12_joined (165, [], [.int vs0]) s)
  refine e_sI 294 rfl rfl rfl ix_X12_truth rfl (Nat.le_of_ble_eq_true rfl) (fun w1 s2 e3 => ?_)
  exact e_rI rfl rfl
set_option maxRecDepth 100000 in
set_option maxHeartbeats 4000000 in
theorem le_X12_joined_182 (en : pN) (d : Nat) (vs0 : Int32) (s : qS) : qle (bI (qev en d 294 [.int vs0] s) (fun w1 s2 => some (some (.int w1), s2))) (L_X12_joined_182 en d vs0 s) := by
  show qle _ (qE (qev en d) en (some .int) tb_X12_joined (182, [], [.int vs0]) s)
  refine e_sI 294 rfl rfl rfl ix_X12_truth rfl (Nat.le_of_ble_eq_true rfl) (fun w1 s2 e3 => ?_)
  exact e_rI rfl rfl
set_option maxRecDepth 100000 in
set_option maxHeartbeats 4000000 in
theorem le_X12_joined (en : pN) (d : Nat) (a1 : Int32) (a2 : Int32) (a3 : Int32) (s : qS) : qle (swI a1.toInt 4 [some (some (.int (a2 * a3)), s), some (some (.int (a2 + a3)), s), some (some (.int (a2 - a3)), s), if ¬ a2 = a3 then L_X12_joined_78 en d (0 : Int32) s else L_X12_joined_78 en d (1 : Int32) s, if a2 = a3 then L_X12_joined_92 en d (0 : Int32) s else L_X12_joined_92 en d (1 : Int32) s, if a3 ≤ a2 then L_X12_joined_106 en d (0 : Int32) s else L_X12_joined_106 en d (1 : Int32) s, if a3 < a2 then L_X12_joined_120 en d (0 : Int32) s else L_X12_joined_120 en d (1 : Int32) s, if a2 ≤ a3 then L_X12_joined_134 en d (0 : Int32) s else L_X12_joined_134 en d (1 : Int32) s, if a2 < a3 then L_X12_joined_148 en d (0 : Int32) s else L_X12_joined_148 en d (1 : Int32) s, if a2 = (0 : Int32) then L_X12_joined_165 en d (0 : Int32) s else if a3 = (0 : Int32) then L_X12_joined_165 en d (0 : Int32) s else L_X12_joined_165 en d (1 : Int32) s] (if ¬ a2 = (0 : Int32) then L_X12_joined_182 en d (1 : Int32) s else if a3 = (0 : Int32) then L_X12_joined_182 en d (0 : Int32) s else L_X12_joined_182 en d (1 : Int32) s)) (qev en (d + 1) 297 [.int a1, .int a2, .int a3] s) := by
  refine e_enter ix_X12_joined (Nat.le_of_ble_eq_true rfl) ?_
  show qle _ (qE (qev en d) en (some .int) tb_X12_joined (0, [(0, .int a1), (1, .int a2), (2, .int a3)], []) s)
  refine e_L 1 (f' := (1, [(0, .int a1), (1, .int a2), (2, .int a3)], [.int a1])) rfl ?_
  refine e_tsw rfl (by decide) ⟨?_, ?_, ?_, ?_, ?_, ?_, ?_, ?_, ?_, ?_, trivial⟩ ?_
  · refine e_L 3 (f' := (59, [(0, .int a1), (1, .int a2), (2, .int a3)], [.int (a2 * a3)])) rfl ?_
    exact e_rI rfl rfl
  · refine e_L 3 (f' := (63, [(0, .int a1), (1, .int a2), (2, .int a3)], [.int (a2 + a3)])) rfl ?_
    exact e_rI rfl rfl
  · refine e_L 3 (f' := (67, [(0, .int a1), (1, .int a2), (2, .int a3)], [.int (a2 - a3)])) rfl ?_
    exact e_rI rfl rfl
  · refine e_L 2 (f' := (70, [(0, .int a1), (1, .int a2), (2, .int a3)], [.int a3, .int a2])) rfl ?_
    refine e_icmp 77 rfl rfl rfl (fun c1 => ?_) (fun c1 => ?_)
    · refine e_L 1 (f' := (78, [(0, .int a1), (1, .int a2), (2, .int a3)], [.int (0 : Int32)])) rfl ?_
      exact qE_sub (qsubL [] rfl (ks := [0, 1, 2]) rfl (by decide))
    · refine e_L 2 (f' := (78, [(0, .int a1), (1, .int a2), (2, .int a3)], [.int (1 : Int32)])) rfl ?_
      exact qE_sub (qsubL [] rfl (ks := [0, 1, 2]) rfl (by decide))
  · refine e_L 2 (f' := (84, [(0, .int a1), (1, .int a2), (2, .int a3)], [.int a3, .int a2])) rfl ?_
    refine e_icmp 91 rfl rfl rfl (fun c2 => ?_) (fun c2 => ?_)
    · refine e_L 1 (f' := (92, [(0, .int a1), (1, .int a2), (2, .int a3)], [.int (0 : Int32)])) rfl ?_
      exact qE_sub (qsubL [] rfl (ks := [0, 1, 2]) rfl (by decide))
    · refine e_L 2 (f' := (92, [(0, .int a1), (1, .int a2), (2, .int a3)], [.int (1 : Int32)])) rfl ?_
      exact qE_sub (qsubL [] rfl (ks := [0, 1, 2]) rfl (by decide))
  · refine e_L 2 (f' := (98, [(0, .int a1), (1, .int a2), (2, .int a3)], [.int a3, .int a2])) rfl ?_
    refine e_icmp 105 rfl rfl rfl (fun c3 => ?_) (fun c3 => ?_)
    · refine e_L 1 (f' := (106, [(0, .int a1), (1, .int a2), (2, .int a3)], [.int (0 : Int32)])) rfl ?_
      exact qE_sub (qsubL [] rfl (ks := [0, 1, 2]) rfl (by decide))
    · refine e_L 2 (f' := (106, [(0, .int a1), (1, .int a2), (2, .int a3)], [.int (1 : Int32)])) rfl ?_
      exact qE_sub (qsubL [] rfl (ks := [0, 1, 2]) rfl (by decide))
  · refine e_L 2 (f' := (112, [(0, .int a1), (1, .int a2), (2, .int a3)], [.int a3, .int a2])) rfl ?_
    refine e_icmp 119 rfl rfl rfl (fun c4 => ?_) (fun c4 => ?_)
    · refine e_L 1 (f' := (120, [(0, .int a1), (1, .int a2), (2, .int a3)], [.int (0 : Int32)])) rfl ?_
      exact qE_sub (qsubL [] rfl (ks := [0, 1, 2]) rfl (by decide))
    · refine e_L 2 (f' := (120, [(0, .int a1), (1, .int a2), (2, .int a3)], [.int (1 : Int32)])) rfl ?_
      exact qE_sub (qsubL [] rfl (ks := [0, 1, 2]) rfl (by decide))
  · refine e_L 2 (f' := (126, [(0, .int a1), (1, .int a2), (2, .int a3)], [.int a3, .int a2])) rfl ?_
    refine e_icmp 133 rfl rfl rfl (fun c5 => ?_) (fun c5 => ?_)
    · refine e_L 1 (f' := (134, [(0, .int a1), (1, .int a2), (2, .int a3)], [.int (0 : Int32)])) rfl ?_
      exact qE_sub (qsubL [] rfl (ks := [0, 1, 2]) rfl (by decide))
    · refine e_L 2 (f' := (134, [(0, .int a1), (1, .int a2), (2, .int a3)], [.int (1 : Int32)])) rfl ?_
      exact qE_sub (qsubL [] rfl (ks := [0, 1, 2]) rfl (by decide))
  · refine e_L 2 (f' := (140, [(0, .int a1), (1, .int a2), (2, .int a3)], [.int a3, .int a2])) rfl ?_
    refine e_icmp 147 rfl rfl rfl (fun c6 => ?_) (fun c6 => ?_)
    · refine e_L 1 (f' := (148, [(0, .int a1), (1, .int a2), (2, .int a3)], [.int (0 : Int32)])) rfl ?_
      exact qE_sub (qsubL [] rfl (ks := [0, 1, 2]) rfl (by decide))
    · refine e_L 2 (f' := (148, [(0, .int a1), (1, .int a2), (2, .int a3)], [.int (1 : Int32)])) rfl ?_
      exact qE_sub (qsubL [] rfl (ks := [0, 1, 2]) rfl (by decide))
  · refine e_L 1 (f' := (153, [(0, .int a1), (1, .int a2), (2, .int a3)], [.int a2])) rfl ?_
    refine e_ifz 164 rfl rfl rfl (fun c7 => ?_) (fun c7 => ?_)
    · refine e_L 1 (f' := (165, [(0, .int a1), (1, .int a2), (2, .int a3)], [.int (0 : Int32)])) rfl ?_
      exact qE_sub (qsubL [] rfl (ks := [0, 1, 2]) rfl (by decide))
    · refine e_L 1 (f' := (157, [(0, .int a1), (1, .int a2), (2, .int a3)], [.int a3])) rfl ?_
      refine e_ifz 164 rfl rfl rfl (fun c8 => ?_) (fun c8 => ?_)
      · refine e_L 1 (f' := (165, [(0, .int a1), (1, .int a2), (2, .int a3)], [.int (0 : Int32)])) rfl ?_
        exact qE_sub (qsubL [] rfl (ks := [0, 1, 2]) rfl (by decide))
      · refine e_L 2 (f' := (165, [(0, .int a1), (1, .int a2), (2, .int a3)], [.int (1 : Int32)])) rfl ?_
        exact qE_sub (qsubL [] rfl (ks := [0, 1, 2]) rfl (by decide))
  · refine e_L 1 (f' := (170, [(0, .int a1), (1, .int a2), (2, .int a3)], [.int a2])) rfl ?_
    refine e_ifz 177 rfl rfl rfl (fun c9 => ?_) (fun c9 => ?_)
    · refine e_L 2 (f' := (182, [(0, .int a1), (1, .int a2), (2, .int a3)], [.int (1 : Int32)])) rfl ?_
      exact qE_sub (qsubL [] rfl (ks := [0, 1, 2]) rfl (by decide))
    · refine e_L 1 (f' := (174, [(0, .int a1), (1, .int a2), (2, .int a3)], [.int a3])) rfl ?_
      refine e_ifz 181 rfl rfl rfl (fun c10 => ?_) (fun c10 => ?_)
      · refine e_L 1 (f' := (182, [(0, .int a1), (1, .int a2), (2, .int a3)], [.int (0 : Int32)])) rfl ?_
        exact qE_sub (qsubL [] rfl (ks := [0, 1, 2]) rfl (by decide))
      · refine e_L 2 (f' := (182, [(0, .int a1), (1, .int a2), (2, .int a3)], [.int (1 : Int32)])) rfl ?_
        exact qE_sub (qsubL [] rfl (ks := [0, 1, 2]) rfl (by decide))
noncomputable def L_X12_factOf_77 (en : pN) (d : Nat) (vs0 : Int32) (s : qS) : Option qR := qE (qev en d) en (some .int) tb_X12_factOf (77, [], [.int vs0]) s
noncomputable def L_X12_factOf_98 (en : pN) (d : Nat) (vs0 : Int32) (s : qS) : Option qR := qE (qev en d) en (some .int) tb_X12_factOf (98, [], [.int vs0]) s
noncomputable def L_X12_factOf_119 (en : pN) (d : Nat) (vs0 : Int32) (s : qS) : Option qR := qE (qev en d) en (some .int) tb_X12_factOf (119, [], [.int vs0]) s
set_option maxRecDepth 100000 in
set_option maxHeartbeats 4000000 in
theorem le_X12_factOf_77 (en : pN) (d : Nat) (vs0 : Int32) (s : qS) : qle (bI (qev en d 294 [.int vs0] s) (fun w1 s2 => some (some (.int w1), s2))) (L_X12_factOf_77 en d vs0 s) := by
  show qle _ (qE (qev en d) en (some .int) tb_X12_factOf (77, [], [.int vs0]) s)
  refine e_sI 294 rfl rfl rfl ix_X12_truth rfl (Nat.le_of_ble_eq_true rfl) (fun w1 s2 e3 => ?_)
  exact e_rI rfl rfl
set_option maxRecDepth 100000 in
set_option maxHeartbeats 4000000 in
theorem le_X12_factOf_98 (en : pN) (d : Nat) (vs0 : Int32) (s : qS) : qle (bI (qev en d 294 [.int vs0] s) (fun w1 s2 => some (some (.int w1), s2))) (L_X12_factOf_98 en d vs0 s) := by
  show qle _ (qE (qev en d) en (some .int) tb_X12_factOf (98, [], [.int vs0]) s)
  refine e_sI 294 rfl rfl rfl ix_X12_truth rfl (Nat.le_of_ble_eq_true rfl) (fun w1 s2 e3 => ?_)
  exact e_rI rfl rfl
set_option maxRecDepth 100000 in
set_option maxHeartbeats 4000000 in
theorem le_X12_factOf_119 (en : pN) (d : Nat) (vs0 : Int32) (s : qS) : qle (bI (qev en d 294 [.int vs0] s) (fun w1 s2 => some (some (.int w1), s2))) (L_X12_factOf_119 en d vs0 s) := by
  show qle _ (qE (qev en d) en (some .int) tb_X12_factOf (119, [], [.int vs0]) s)
  refine e_sI 294 rfl rfl rfl ix_X12_truth rfl (Nat.le_of_ble_eq_true rfl) (fun w1 s2 e3 => ?_)
  exact e_rI rfl rfl
set_option maxRecDepth 100000 in
set_option maxHeartbeats 4000000 in
theorem le_X12_factOf (en : pN) (d : Nat) (a1 : Int32) (a2 : Int32) (s : qS) : qle (swI a1.toInt 15 [gd (p_inB ((44 : Int32) + a2) 216 = true) (some (some (.int (s.1 187 ((44 : Int32) + a2).toNatClampNeg)), s)), gd (p_inB ((12 : Int32) + a2) 216 = true) (some (some (.int (s.1 187 ((12 : Int32) + a2).toNatClampNeg)), s)), gd (p_inB ((0 : Int32) + a2) 216 = true) (if ¬ (s.1 187 ((0 : Int32) + a2).toNatClampNeg) = (4 : Int32) then L_X12_factOf_77 en d (0 : Int32) s else L_X12_factOf_77 en d (1 : Int32) s), gd (p_inB ((0 : Int32) + a2) 216 = true) (if ¬ (s.1 187 ((0 : Int32) + a2).toNatClampNeg) = (5 : Int32) then L_X12_factOf_98 en d (0 : Int32) s else L_X12_factOf_98 en d (1 : Int32) s), gd (p_inB ((0 : Int32) + a2) 216 = true) (if ¬ (s.1 187 ((0 : Int32) + a2).toNatClampNeg) = (2 : Int32) then L_X12_factOf_119 en d (0 : Int32) s else L_X12_factOf_119 en d (1 : Int32) s), gd (p_inB ((36 : Int32) + a2) 216 = true) (some (some (.int ((s.1 187 ((36 : Int32) + a2).toNatClampNeg) - (1 : Int32))), s))] (bI (qev en d 294 [.int (s.1 151 64)] s) (fun w10 s11 => some (some (.int w10), s11)))) (qev en (d + 1) 298 [.ref 151, .int a1, .int a2] s) := by
  refine e_enter ix_X12_factOf (Nat.le_of_ble_eq_true rfl) ?_
  show qle _ (qE (qev en d) en (some .int) tb_X12_factOf (0, [(0, .ref 151), (1, .int a1), (2, .int a2)], []) s)
  refine e_L 1 (f' := (1, [(0, .ref 151), (1, .int a1), (2, .int a2)], [.int a1])) rfl ?_
  refine e_tsw rfl (by decide) ⟨?_, ?_, ?_, ?_, ?_, ?_, trivial⟩ ?_
  · refine e_L 1 (f' := (41, [(0, .ref 151), (1, .int a1), (2, .int a2)], [.ref 151])) rfl ?_
    refine e_gR (q := 187) 12 57 rfl rfl lc_151 lr_151_57 ?_
    refine e_L 3 (f' := (48, [(0, .ref 151), (1, .int a1), (2, .int a2)], [.int ((44 : Int32) + a2), .ref 187])) rfl ?_
    refine qle_gd fun h1 => ?_
    refine e_ial (n := 216) (k := ((44 : Int32) + a2).toNatClampNeg) rfl lc_187 ln_187 h1 rfl ?_
    exact e_rI rfl rfl
  · refine e_L 1 (f' := (51, [(0, .ref 151), (1, .int a1), (2, .int a2)], [.ref 151])) rfl ?_
    refine e_gR (q := 187) 12 57 rfl rfl lc_151 lr_151_57 ?_
    refine e_L 3 (f' := (58, [(0, .ref 151), (1, .int a1), (2, .int a2)], [.int ((12 : Int32) + a2), .ref 187])) rfl ?_
    refine qle_gd fun h2 => ?_
    refine e_ial (n := 216) (k := ((12 : Int32) + a2).toNatClampNeg) rfl lc_187 ln_187 h2 rfl ?_
    exact e_rI rfl rfl
  · refine e_L 1 (f' := (61, [(0, .ref 151), (1, .int a1), (2, .int a2)], [.ref 151])) rfl ?_
    refine e_gR (q := 187) 12 57 rfl rfl lc_151 lr_151_57 ?_
    refine e_L 3 (f' := (67, [(0, .ref 151), (1, .int a1), (2, .int a2)], [.int ((0 : Int32) + a2), .ref 187])) rfl ?_
    refine qle_gd fun h3 => ?_
    refine e_ial (n := 216) (k := ((0 : Int32) + a2).toNatClampNeg) rfl lc_187 ln_187 h3 rfl ?_
    refine e_L 1 (f' := (69, [(0, .ref 151), (1, .int a1), (2, .int a2)], [.int (4 : Int32), .int (s.1 187 ((0 : Int32) + a2).toNatClampNeg)])) rfl ?_
    refine e_icmp 76 rfl rfl rfl (fun c4 => ?_) (fun c4 => ?_)
    · refine e_L 1 (f' := (77, [(0, .ref 151), (1, .int a1), (2, .int a2)], [.int (0 : Int32)])) rfl ?_
      exact qE_sub (qsubL [] rfl (ks := [0, 1, 2]) rfl (by decide))
    · refine e_L 2 (f' := (77, [(0, .ref 151), (1, .int a1), (2, .int a2)], [.int (1 : Int32)])) rfl ?_
      exact qE_sub (qsubL [] rfl (ks := [0, 1, 2]) rfl (by decide))
  · refine e_L 1 (f' := (82, [(0, .ref 151), (1, .int a1), (2, .int a2)], [.ref 151])) rfl ?_
    refine e_gR (q := 187) 12 57 rfl rfl lc_151 lr_151_57 ?_
    refine e_L 3 (f' := (88, [(0, .ref 151), (1, .int a1), (2, .int a2)], [.int ((0 : Int32) + a2), .ref 187])) rfl ?_
    refine qle_gd fun h5 => ?_
    refine e_ial (n := 216) (k := ((0 : Int32) + a2).toNatClampNeg) rfl lc_187 ln_187 h5 rfl ?_
    refine e_L 1 (f' := (90, [(0, .ref 151), (1, .int a1), (2, .int a2)], [.int (5 : Int32), .int (s.1 187 ((0 : Int32) + a2).toNatClampNeg)])) rfl ?_
    refine e_icmp 97 rfl rfl rfl (fun c6 => ?_) (fun c6 => ?_)
    · refine e_L 1 (f' := (98, [(0, .ref 151), (1, .int a1), (2, .int a2)], [.int (0 : Int32)])) rfl ?_
      exact qE_sub (qsubL [] rfl (ks := [0, 1, 2]) rfl (by decide))
    · refine e_L 2 (f' := (98, [(0, .ref 151), (1, .int a1), (2, .int a2)], [.int (1 : Int32)])) rfl ?_
      exact qE_sub (qsubL [] rfl (ks := [0, 1, 2]) rfl (by decide))
  · refine e_L 1 (f' := (103, [(0, .ref 151), (1, .int a1), (2, .int a2)], [.ref 151])) rfl ?_
    refine e_gR (q := 187) 12 57 rfl rfl lc_151 lr_151_57 ?_
    refine e_L 3 (f' := (109, [(0, .ref 151), (1, .int a1), (2, .int a2)], [.int ((0 : Int32) + a2), .ref 187])) rfl ?_
    refine qle_gd fun h7 => ?_
    refine e_ial (n := 216) (k := ((0 : Int32) + a2).toNatClampNeg) rfl lc_187 ln_187 h7 rfl ?_
    refine e_L 1 (f' := (111, [(0, .ref 151), (1, .int a1), (2, .int a2)], [.int (2 : Int32), .int (s.1 187 ((0 : Int32) + a2).toNatClampNeg)])) rfl ?_
    refine e_icmp 118 rfl rfl rfl (fun c8 => ?_) (fun c8 => ?_)
    · refine e_L 1 (f' := (119, [(0, .ref 151), (1, .int a1), (2, .int a2)], [.int (0 : Int32)])) rfl ?_
      exact qE_sub (qsubL [] rfl (ks := [0, 1, 2]) rfl (by decide))
    · refine e_L 2 (f' := (119, [(0, .ref 151), (1, .int a1), (2, .int a2)], [.int (1 : Int32)])) rfl ?_
      exact qE_sub (qsubL [] rfl (ks := [0, 1, 2]) rfl (by decide))
  · refine e_L 1 (f' := (124, [(0, .ref 151), (1, .int a1), (2, .int a2)], [.ref 151])) rfl ?_
    refine e_gR (q := 187) 12 57 rfl rfl lc_151 lr_151_57 ?_
    refine e_L 3 (f' := (131, [(0, .ref 151), (1, .int a1), (2, .int a2)], [.int ((36 : Int32) + a2), .ref 187])) rfl ?_
    refine qle_gd fun h9 => ?_
    refine e_ial (n := 216) (k := ((36 : Int32) + a2).toNatClampNeg) rfl lc_187 ln_187 h9 rfl ?_
    refine e_L 2 (f' := (134, [(0, .ref 151), (1, .int a1), (2, .int a2)], [.int ((s.1 187 ((36 : Int32) + a2).toNatClampNeg) - (1 : Int32))])) rfl ?_
    exact e_rI rfl rfl
  · refine e_L 1 (f' := (136, [(0, .ref 151), (1, .int a1), (2, .int a2)], [.ref 151])) rfl ?_
    refine e_gI 12 64 rfl rfl lc_151 ?_
    refine e_sI 294 rfl rfl rfl ix_X12_truth rfl (Nat.le_of_ble_eq_true rfl) (fun w10 s11 e12 => ?_)
    exact e_rI rfl rfl
set_option maxRecDepth 100000 in
set_option maxHeartbeats 4000000 in
theorem le_X12_widthOf (en : pN) (d : Nat) (a1 : Int32) (s : qS) : qle (if ¬ a1 = (0 : Int32) then if ¬ a1 = (1 : Int32) then some (some (.int (213 : Int32)), s) else some (some (.int (80 : Int32)), s) else some (some (.int (52 : Int32)), s)) (qev en (d + 1) 299 [.int a1] s) := by
  refine e_enter ix_X12_widthOf (Nat.le_of_ble_eq_true rfl) ?_
  show qle _ (qE (qev en d) en (some .int) tb_X12_widthOf (0, [(0, .int a1)], []) s)
  refine e_L 1 (f' := (1, [(0, .int a1)], [.int a1])) rfl ?_
  refine e_ifz 9 rfl rfl rfl (fun c1 => ?_) (fun c1 => ?_)
  · refine e_L 2 (f' := (11, [(0, .int a1)], [.int (1 : Int32), .int a1])) rfl ?_
    refine e_icmp 19 rfl rfl rfl (fun c2 => ?_) (fun c2 => ?_)
    · refine e_L 1 (f' := (22, [(0, .int a1)], [.int (213 : Int32)])) rfl ?_
      exact e_rI rfl rfl
    · refine e_L 2 (f' := (22, [(0, .int a1)], [.int (80 : Int32)])) rfl ?_
      exact e_rI rfl rfl
  · refine e_L 2 (f' := (22, [(0, .int a1)], [.int (52 : Int32)])) rfl ?_
    exact e_rI rfl rfl
noncomputable def L_X12_firstState_20 (en : pN) (d : Nat) (v2 : Int32) (v3 : Int32) (s : qS) : Option qR := qE (qev en d) en none tb_X12_firstState (20, [(0, .ref 151), (2, .int v2), (3, .int v3)], []) s
noncomputable def L_X12_firstState_42 (en : pN) (d : Nat) (v2 : Int32) (v3 : Int32) (s : qS) : Option qR := qE (qev en d) en none tb_X12_firstState (42, [(0, .ref 151), (2, .int v2), (3, .int v3)], []) s
noncomputable def L_X12_firstState_106 (en : pN) (d : Nat) (v3 : Int32) (s : qS) : Option qR := qE (qev en d) en none tb_X12_firstState (106, [(0, .ref 151), (3, .int v3)], []) s
set_option maxRecDepth 100000 in
set_option maxHeartbeats 4000000 in
theorem le_X12_firstState_20 (en : pN) (d : Nat) (v2 : Int32) (v3 : Int32) (s : qS) : qle (if (216 : Int32) ≤ v3 then L_X12_firstState_42 en d v2 (0 : Int32) s else gd (p_inB v3 216 = true) (nm (uI s 187 (v3.toNatClampNeg) (0 : Int32)) (fun s3 => L_X12_firstState_20 en d v2 (v3 + (1 : Int32)) s3))) (L_X12_firstState_20 en d v2 v3 s) := by
  show qle _ (qE (qev en d) en none tb_X12_firstState (20, [(0, .ref 151), (2, .int v2), (3, .int v3)], []) s)
  refine e_L 2 (f' := (24, [(0, .ref 151), (2, .int v2), (3, .int v3)], [.int (216 : Int32), .int v3])) rfl ?_
  refine e_icmp 40 rfl rfl rfl (fun c1 => ?_) (fun c1 => ?_)
  · refine e_L 2 (f' := (42, [(3, .int (0 : Int32)), (0, .ref 151), (2, .int v2)], [])) rfl ?_
    exact qE_sub (qsubL [1, 2, 0] rfl (ks := [3, 0, 2]) rfl (by decide))
  · refine e_L 1 (f' := (28, [(0, .ref 151), (2, .int v2), (3, .int v3)], [.ref 151])) rfl ?_
    refine e_gR (q := 187) 12 57 rfl rfl lc_151 lr_151_57 ?_
    refine e_L 2 (f' := (33, [(0, .ref 151), (2, .int v2), (3, .int v3)], [.int (0 : Int32), .int v3, .ref 187])) rfl ?_
    refine qle_gd fun h2 => ?_
    refine e_ias (n := 216) (k := v3.toNatClampNeg) rfl lc_187 ln_187 h2 rfl ?_
    refine e_nS fun s3 => ?_
    refine e_L 2 (f' := (20, [(3, .int (v3 + (1 : Int32))), (0, .ref 151), (2, .int v2)], [])) rfl ?_
    exact qE_sub (qsubL [1, 2, 0] rfl (ks := [3, 0, 2]) rfl (by decide))
set_option maxRecDepth 100000 in
set_option maxHeartbeats 4000000 in
theorem le_X12_firstState_42 (en : pN) (d : Nat) (v2 : Int32) (v3 : Int32) (s : qS) : qle (if (s.1 151 12) ≤ v3 then L_X12_firstState_106 en d (0 : Int32) s else gd (p_inB v3 8 = true) (gd (p_inB ((44 : Int32) + v3) 216 = true) (nm (uI s 187 (((44 : Int32) + v3).toNatClampNeg) (s.1 154 v3.toNatClampNeg)) (fun s4 => if ¬ v2 = (2 : Int32) then L_X12_firstState_42 en d v2 (v3 + (1 : Int32)) s4 else gd (p_inB ((52 : Int32) + v3) 216 = true) (nm (uI s4 187 (((52 : Int32) + v3).toNatClampNeg) (1 : Int32)) (fun s7 => gd (p_inB ((60 : Int32) + ((9 : Int32) * v3)) 216 = true) (nm (uI s7 187 (((60 : Int32) + ((9 : Int32) * v3)).toNatClampNeg) (s7.1 154 v3.toNatClampNeg)) (fun s9 => L_X12_firstState_42 en d v2 (v3 + (1 : Int32)) s9)))))))) (L_X12_firstState_42 en d v2 v3 s) := by
  show qle _ (qE (qev en d) en none tb_X12_firstState (42, [(0, .ref 151), (2, .int v2), (3, .int v3)], []) s)
  refine e_L 2 (f' := (44, [(0, .ref 151), (2, .int v2), (3, .int v3)], [.ref 151, .int v3])) rfl ?_
  refine e_gI 12 12 rfl rfl lc_151 ?_
  refine e_icmp 104 rfl rfl rfl (fun c1 => ?_) (fun c1 => ?_)
  · refine e_L 2 (f' := (106, [(3, .int (0 : Int32)), (0, .ref 151), (2, .int v2)], [])) rfl ?_
    exact qE_sub (qsubL [1, 0] rfl (ks := [3, 0, 2]) rfl (by decide))
  · refine e_L 1 (f' := (51, [(0, .ref 151), (2, .int v2), (3, .int v3)], [.ref 151])) rfl ?_
    refine e_gR (q := 187) 12 57 rfl rfl lc_151 lr_151_57 ?_
    refine e_L 4 (f' := (59, [(0, .ref 151), (2, .int v2), (3, .int v3)], [.ref 151, .int ((44 : Int32) + v3), .ref 187])) rfl ?_
    refine e_gR (q := 154) 12 14 rfl rfl lc_151 lr_151_14 ?_
    refine e_L 1 (f' := (63, [(0, .ref 151), (2, .int v2), (3, .int v3)], [.int v3, .ref 154, .int ((44 : Int32) + v3), .ref 187])) rfl ?_
    refine qle_gd fun h2 => ?_
    refine e_ial (n := 8) (k := v3.toNatClampNeg) rfl lc_154 ln_154 h2 rfl ?_
    refine qle_gd fun h3 => ?_
    refine e_ias (n := 216) (k := ((44 : Int32) + v3).toNatClampNeg) rfl lc_187 ln_187 h3 rfl ?_
    refine e_nS fun s4 => ?_
    refine e_L 2 (f' := (67, [(0, .ref 151), (2, .int v2), (3, .int v3)], [.int (2 : Int32), .int v2])) rfl ?_
    refine e_icmp 98 rfl rfl rfl (fun c5 => ?_) (fun c5 => ?_)
    · refine e_L 2 (f' := (42, [(3, .int (v3 + (1 : Int32))), (0, .ref 151), (2, .int v2)], [])) rfl ?_
      exact qE_sub (qsubL [1, 2, 0] rfl (ks := [3, 0, 2]) rfl (by decide))
    · refine e_L 1 (f' := (71, [(0, .ref 151), (2, .int v2), (3, .int v3)], [.ref 151])) rfl ?_
      refine e_gR (q := 187) 12 57 rfl rfl lc_151 lr_151_57 ?_
      refine e_L 4 (f' := (79, [(0, .ref 151), (2, .int v2), (3, .int v3)], [.int (1 : Int32), .int ((52 : Int32) + v3), .ref 187])) rfl ?_
      refine qle_gd fun h6 => ?_
      refine e_ias (n := 216) (k := ((52 : Int32) + v3).toNatClampNeg) rfl lc_187 ln_187 h6 rfl ?_
      refine e_nS fun s7 => ?_
      refine e_L 1 (f' := (81, [(0, .ref 151), (2, .int v2), (3, .int v3)], [.ref 151])) rfl ?_
      refine e_gR (q := 187) 12 57 rfl rfl lc_151 lr_151_57 ?_
      refine e_L 6 (f' := (92, [(0, .ref 151), (2, .int v2), (3, .int v3)], [.ref 151, .int ((60 : Int32) + ((9 : Int32) * v3)), .ref 187])) rfl ?_
      refine e_gR (q := 154) 12 14 rfl rfl lc_151 lr_151_14 ?_
      refine e_L 1 (f' := (96, [(0, .ref 151), (2, .int v2), (3, .int v3)], [.int v3, .ref 154, .int ((60 : Int32) + ((9 : Int32) * v3)), .ref 187])) rfl ?_
      refine e_ial (n := 8) (k := v3.toNatClampNeg) rfl lc_154 ln_154 h2 rfl ?_
      refine qle_gd fun h8 => ?_
      refine e_ias (n := 216) (k := ((60 : Int32) + ((9 : Int32) * v3)).toNatClampNeg) rfl lc_187 ln_187 h8 rfl ?_
      refine e_nS fun s9 => ?_
      refine e_L 2 (f' := (42, [(3, .int (v3 + (1 : Int32))), (0, .ref 151), (2, .int v2)], [])) rfl ?_
      exact qE_sub (qsubL [1, 2, 0] rfl (ks := [3, 0, 2]) rfl (by decide))
set_option maxRecDepth 100000 in
set_option maxHeartbeats 4000000 in
theorem le_X12_firstState_106 (en : pN) (d : Nat) (v3 : Int32) (s : qS) : qle (if (s.1 151 18) ≤ v3 then some (none, s) else gd (p_inB v3 4 = true) (nm (uI s 188 (v3.toNatClampNeg) (0 : Int32)) (fun s3 => if ¬ (s3.1 158 v3.toNatClampNeg) = (0 : Int32) then L_X12_firstState_106 en d (v3 + (1 : Int32)) s3 else bV (qev en d 301 [.ref 151, .int v3] s3) (fun s6 => L_X12_firstState_106 en d (v3 + (1 : Int32)) s6)))) (L_X12_firstState_106 en d v3 s) := by
  show qle _ (qE (qev en d) en none tb_X12_firstState (106, [(0, .ref 151), (3, .int v3)], []) s)
  refine e_L 2 (f' := (108, [(0, .ref 151), (3, .int v3)], [.ref 151, .int v3])) rfl ?_
  refine e_gI 12 18 rfl rfl lc_151 ?_
  refine e_icmp 141 rfl rfl rfl (fun c1 => ?_) (fun c1 => ?_)
  · exact e_rV rfl rfl
  · refine e_L 1 (f' := (115, [(0, .ref 151), (3, .int v3)], [.ref 151])) rfl ?_
    refine e_gR (q := 188) 12 61 rfl rfl lc_151 lr_151_61 ?_
    refine e_L 2 (f' := (120, [(0, .ref 151), (3, .int v3)], [.int (0 : Int32), .int v3, .ref 188])) rfl ?_
    refine qle_gd fun h2 => ?_
    refine e_ias (n := 4) (k := v3.toNatClampNeg) rfl lc_188 ln_188 h2 rfl ?_
    refine e_nS fun s3 => ?_
    refine e_L 1 (f' := (122, [(0, .ref 151), (3, .int v3)], [.ref 151])) rfl ?_
    refine e_gR (q := 158) 12 20 rfl rfl lc_151 lr_151_20 ?_
    refine e_L 1 (f' := (126, [(0, .ref 151), (3, .int v3)], [.int v3, .ref 158])) rfl ?_
    refine e_bal (n := 4) (k := v3.toNatClampNeg) rfl (Or.inl lc_158) ln_158 h2 rfl ?_
    refine e_ifz 135 rfl rfl rfl (fun c4 => ?_) (fun c4 => ?_)
    · refine e_L 2 (f' := (106, [(3, .int (v3 + (1 : Int32))), (0, .ref 151)], [])) rfl ?_
      exact qE_sub (qsubL [1, 0] rfl (ks := [3, 0]) rfl (by decide))
    · refine e_L 2 (f' := (132, [(0, .ref 151), (3, .int v3)], [.int v3, .ref 151])) rfl ?_
      refine e_vV 301 rfl rfl ix_X12_beginThread rfl (q_recvOf lc_151 rfl) (Nat.le_of_ble_eq_true rfl) (fun s6 e7 => ?_)
      refine e_L 2 (f' := (106, [(3, .int (v3 + (1 : Int32))), (0, .ref 151)], [])) rfl ?_
      exact qE_sub (qsubL [1, 0] rfl (ks := [3, 0]) rfl (by decide))
set_option maxRecDepth 100000 in
set_option maxHeartbeats 4000000 in
theorem le_X12_firstState (en : pN) (d : Nat) (a1 : Int32) (a2 : Int32) (s : qS) : qle (nm (uI s 151 59 a1) (fun s1 => nm (uI s1 151 58 a2) (fun s2 => bI (qev en d 299 [.int a2] s2) (fun w3 s4 => nm (uI s4 151 60 w3) (fun s6 => L_X12_firstState_20 en d a2 (0 : Int32) s6))))) (qev en (d + 1) 300 [.ref 151, .int a1, .int a2] s) := by
  refine e_enter ix_X12_firstState (Nat.le_of_ble_eq_true rfl) ?_
  show qle _ (qE (qev en d) en none tb_X12_firstState (0, [(0, .ref 151), (1, .int a1), (2, .int a2)], []) s)
  refine e_L 2 (f' := (2, [(0, .ref 151), (1, .int a1), (2, .int a2)], [.int a1, .ref 151])) rfl ?_
  refine e_pI 12 59 rfl rfl lc_151 rfl ?_
  refine e_nS fun s1 => ?_
  refine e_L 2 (f' := (7, [(0, .ref 151), (1, .int a1), (2, .int a2)], [.int a2, .ref 151])) rfl ?_
  refine e_pI 12 58 rfl rfl lc_151 rfl ?_
  refine e_nS fun s2 => ?_
  refine e_L 2 (f' := (12, [(0, .ref 151), (1, .int a1), (2, .int a2)], [.int a2, .ref 151])) rfl ?_
  refine e_sI 299 rfl rfl rfl ix_X12_widthOf rfl (Nat.le_of_ble_eq_true rfl) (fun w3 s4 e5 => ?_)
  refine e_pI 12 60 rfl rfl lc_151 rfl ?_
  refine e_nS fun s6 => ?_
  refine e_L 2 (f' := (20, [(3, .int (0 : Int32)), (0, .ref 151), (1, .int a1), (2, .int a2)], [])) rfl ?_
  exact qE_sub (qsubL [1, 3, 0] rfl (ks := [3, 0, 1, 2]) rfl (by decide))
set_option maxRecDepth 100000 in
set_option maxHeartbeats 4000000 in
theorem le_X12_beginThread (en : pN) (d : Nat) (a1 : Int32) (s : qS) : qle (gd (p_inB ((0 : Int32) + a1) 216 = true) (nm (uI s 187 (((0 : Int32) + a1).toNatClampNeg) (1 : Int32)) (fun s2 => gd (p_inB (((4 : Int32) * (s2.1 151 59)) + a1) 16 = true) (bV (qev en d 302 [.ref 151, .int a1, .int (s2.1 181 (((4 : Int32) * (s2.1 151 59)) + a1).toNatClampNeg)] s2) (fun s5 => some (none, s5)))))) (qev en (d + 1) 301 [.ref 151, .int a1] s) := by
  refine e_enter ix_X12_beginThread (Nat.le_of_ble_eq_true rfl) ?_
  show qle _ (qE (qev en d) en none tb_X12_beginThread (0, [(0, .ref 151), (1, .int a1)], []) s)
  refine e_L 1 (f' := (1, [(0, .ref 151), (1, .int a1)], [.ref 151])) rfl ?_
  refine e_gR (q := 187) 12 57 rfl rfl lc_151 lr_151_57 ?_
  refine e_L 4 (f' := (8, [(0, .ref 151), (1, .int a1)], [.int (1 : Int32), .int ((0 : Int32) + a1), .ref 187])) rfl ?_
  refine qle_gd fun h1 => ?_
  refine e_ias (n := 216) (k := ((0 : Int32) + a1).toNatClampNeg) rfl lc_187 ln_187 h1 rfl ?_
  refine e_nS fun s2 => ?_
  refine e_L 3 (f' := (12, [(0, .ref 151), (1, .int a1)], [.ref 151, .int a1, .ref 151])) rfl ?_
  refine e_gR (q := 181) 12 50 rfl rfl lc_151 lr_151_50 ?_
  refine e_L 2 (f' := (17, [(0, .ref 151), (1, .int a1)], [.ref 151, .int (4 : Int32), .ref 181, .int a1, .ref 151])) rfl ?_
  refine e_gI 12 59 rfl rfl lc_151 ?_
  refine e_L 3 (f' := (23, [(0, .ref 151), (1, .int a1)], [.int (((4 : Int32) * (s2.1 151 59)) + a1), .ref 181, .int a1, .ref 151])) rfl ?_
  refine qle_gd fun h3 => ?_
  refine e_ial (n := 16) (k := (((4 : Int32) * (s2.1 151 59)) + a1).toNatClampNeg) rfl lc_181 ln_181 h3 rfl ?_
  refine e_vV 302 rfl rfl ix_X12_goTo rfl (q_recvOf lc_151 rfl) (Nat.le_of_ble_eq_true rfl) (fun s5 e6 => ?_)
  exact e_rV rfl rfl
set_option maxRecDepth 100000 in
set_option maxHeartbeats 4000000 in
theorem le_X12_goTo (en : pN) (d : Nat) (a1 : Int32) (a2 : Int32) (s : qS) : qle (gd (p_inB ((4 : Int32) + a1) 216 = true) (nm (uI s 187 (((4 : Int32) + a1).toNatClampNeg) (a2 + (1 : Int32))) (fun s2 => if ¬ a2 = (-2 : Int32) then some (none, s2) else gd (p_inB ((0 : Int32) + a1) 216 = true) (nm (uI s2 187 (((0 : Int32) + a1).toNatClampNeg) (4 : Int32)) (fun s5 => nm (uI s5 187 (((4 : Int32) + a1).toNatClampNeg) (0 : Int32)) (fun s6 => some (none, s6))))))) (qev en (d + 1) 302 [.ref 151, .int a1, .int a2] s) := by
  refine e_enter ix_X12_goTo (Nat.le_of_ble_eq_true rfl) ?_
  show qle _ (qE (qev en d) en none tb_X12_goTo (0, [(0, .ref 151), (1, .int a1), (2, .int a2)], []) s)
  refine e_L 1 (f' := (1, [(0, .ref 151), (1, .int a1), (2, .int a2)], [.ref 151])) rfl ?_
  refine e_gR (q := 187) 12 57 rfl rfl lc_151 lr_151_57 ?_
  refine e_L 6 (f' := (10, [(0, .ref 151), (1, .int a1), (2, .int a2)], [.int (a2 + (1 : Int32)), .int ((4 : Int32) + a1), .ref 187])) rfl ?_
  refine qle_gd fun h1 => ?_
  refine e_ias (n := 216) (k := ((4 : Int32) + a1).toNatClampNeg) rfl lc_187 ln_187 h1 rfl ?_
  refine e_nS fun s2 => ?_
  refine e_L 2 (f' := (14, [(0, .ref 151), (1, .int a1), (2, .int a2)], [.int (-2 : Int32), .int a2])) rfl ?_
  refine e_icmp 35 rfl rfl rfl (fun c3 => ?_) (fun c3 => ?_)
  · exact e_rV rfl rfl
  · refine e_L 1 (f' := (18, [(0, .ref 151), (1, .int a1), (2, .int a2)], [.ref 151])) rfl ?_
    refine e_gR (q := 187) 12 57 rfl rfl lc_151 lr_151_57 ?_
    refine e_L 4 (f' := (25, [(0, .ref 151), (1, .int a1), (2, .int a2)], [.int (4 : Int32), .int ((0 : Int32) + a1), .ref 187])) rfl ?_
    refine qle_gd fun h4 => ?_
    refine e_ias (n := 216) (k := ((0 : Int32) + a1).toNatClampNeg) rfl lc_187 ln_187 h4 rfl ?_
    refine e_nS fun s5 => ?_
    refine e_L 1 (f' := (27, [(0, .ref 151), (1, .int a1), (2, .int a2)], [.ref 151])) rfl ?_
    refine e_gR (q := 187) 12 57 rfl rfl lc_151 lr_151_57 ?_
    refine e_L 4 (f' := (34, [(0, .ref 151), (1, .int a1), (2, .int a2)], [.int (0 : Int32), .int ((4 : Int32) + a1), .ref 187])) rfl ?_
    refine e_ias (n := 216) (k := ((4 : Int32) + a1).toNatClampNeg) rfl lc_187 ln_187 h1 rfl ?_
    refine e_nS fun s6 => ?_
    exact e_rV rfl rfl
set_option maxRecDepth 100000 in
set_option maxHeartbeats 4000000 in
theorem le_X12_lineOf (en : pN) (d : Nat) (a1 : Int32) (s : qS) : qle (gd (p_inB ((4 : Int32) + a1) 216 = true) (some (some (.int ((((100 : Int32) * (s.1 151 59)) + (s.1 187 ((4 : Int32) + a1).toNatClampNeg)) - (1 : Int32))), s))) (qev en (d + 1) 303 [.ref 151, .int a1] s) := by
  refine e_enter ix_X12_lineOf (Nat.le_of_ble_eq_true rfl) ?_
  show qle _ (qE (qev en d) en (some .int) tb_X12_lineOf (0, [(0, .ref 151), (1, .int a1)], []) s)
  refine e_L 2 (f' := (3, [(0, .ref 151), (1, .int a1)], [.ref 151, .int (100 : Int32)])) rfl ?_
  refine e_gI 12 59 rfl rfl lc_151 ?_
  refine e_L 2 (f' := (8, [(0, .ref 151), (1, .int a1)], [.ref 151, .int ((100 : Int32) * (s.1 151 59))])) rfl ?_
  refine e_gR (q := 187) 12 57 rfl rfl lc_151 lr_151_57 ?_
  refine e_L 3 (f' := (14, [(0, .ref 151), (1, .int a1)], [.int ((4 : Int32) + a1), .ref 187, .int ((100 : Int32) * (s.1 151 59))])) rfl ?_
  refine qle_gd fun h1 => ?_
  refine e_ial (n := 216) (k := ((4 : Int32) + a1).toNatClampNeg) rfl lc_187 ln_187 h1 rfl ?_
  refine e_L 3 (f' := (18, [(0, .ref 151), (1, .int a1)], [.int ((((100 : Int32) * (s.1 151 59)) + (s.1 187 ((4 : Int32) + a1).toNatClampNeg)) - (1 : Int32))])) rfl ?_
  exact e_rI rfl rfl
set_option maxRecDepth 100000 in
set_option maxHeartbeats 4000000 in
theorem le_X12_viewOf (en : pN) (d : Nat) (a1 : Int32) (a2 : Int32) (s : qS) : qle (some (some (.int ((a1 >>> (((4 : Int32) * a2) &&& 31)) &&& (15 : Int32))), s)) (qev en (d + 1) 304 [.int a1, .int a2] s) := by
  refine e_enter ix_X12_viewOf (Nat.le_of_ble_eq_true rfl) ?_
  show qle _ (qE (qev en d) en (some .int) tb_X12_viewOf (0, [(0, .int a1), (1, .int a2)], []) s)
  refine e_L 7 (f' := (8, [(0, .int a1), (1, .int a2)], [.int ((a1 >>> (((4 : Int32) * a2) &&& 31)) &&& (15 : Int32))])) rfl ?_
  exact e_rI rfl rfl
set_option maxRecDepth 100000 in
set_option maxHeartbeats 4000000 in
theorem le_X12_withView (en : pN) (d : Nat) (a1 : Int32) (a2 : Int32) (a3 : Int32) (s : qS) : qle (some (some (.int ((a1 &&& (((15 : Int32) <<< (((4 : Int32) * a2) &&& 31)) ^^^ (-1 : Int32))) ||| (a3 <<< (((4 : Int32) * a2) &&& 31)))), s)) (qev en (d + 1) 305 [.int a1, .int a2, .int a3] s) := by
  refine e_enter ix_X12_withView (Nat.le_of_ble_eq_true rfl) ?_
  show qle _ (qE (qev en d) en (some .int) tb_X12_withView (0, [(0, .int a1), (1, .int a2), (2, .int a3)], []) s)
  refine e_L 15 (f' := (16, [(0, .int a1), (1, .int a2), (2, .int a3)], [.int ((a1 &&& (((15 : Int32) <<< (((4 : Int32) * a2) &&& 31)) ^^^ (-1 : Int32))) ||| (a3 <<< (((4 : Int32) * a2) &&& 31)))])) rfl ?_
  exact e_rI rfl rfl
noncomputable def L_X12_joinOf_4 (en : pN) (d : Nat) (v0 : Int32) (v1 : Int32) (v2 : Int32) (v3 : Int32) (s : qS) : Option qR := qE (qev en d) en (some .int) tb_X12_joinOf (4, [(0, .int v0), (1, .int v1), (2, .int v2), (3, .int v3)], []) s
noncomputable def L_X12_joinOf_40 (en : pN) (d : Nat) (v0 : Int32) (v1 : Int32) (v3 : Int32) (vs0 : Int32) (vs1 : Int32) (vs2 : Int32) (s : qS) : Option qR := qE (qev en d) en (some .int) tb_X12_joinOf (40, [(0, .int v0), (1, .int v1), (3, .int v3)], [.int vs2, .int vs1, .int vs0]) s
set_option maxRecDepth 100000 in
set_option maxHeartbeats 4000000 in
theorem le_X12_joinOf_4 (en : pN) (d : Nat) (v0 : Int32) (v1 : Int32) (v2 : Int32) (v3 : Int32) (s : qS) : qle (if (8 : Int32) ≤ v3 then some (some (.int v2), s) else bI (qev en d 304 [.int v0, .int v3] s) (fun w2 s3 => bI (qev en d 304 [.int v1, .int v3] s3) (fun w5 s6 => if w2 ≤ w5 then L_X12_joinOf_40 en d v0 v1 v3 v2 v3 w5 s6 else L_X12_joinOf_40 en d v0 v1 v3 v2 v3 w2 s6))) (L_X12_joinOf_4 en d v0 v1 v2 v3 s) := by
  show qle _ (qE (qev en d) en (some .int) tb_X12_joinOf (4, [(0, .int v0), (1, .int v1), (2, .int v2), (3, .int v3)], []) s)
  refine e_L 2 (f' := (7, [(0, .int v0), (1, .int v1), (2, .int v2), (3, .int v3)], [.int (8 : Int32), .int v3])) rfl ?_
  refine e_icmp 50 rfl rfl rfl (fun c1 => ?_) (fun c1 => ?_)
  · refine e_L 1 (f' := (51, [(0, .int v0), (1, .int v1), (2, .int v2), (3, .int v3)], [.int v2])) rfl ?_
    exact e_rI rfl rfl
  · refine e_L 2 (f' := (12, [(0, .int v0), (1, .int v1), (2, .int v2), (3, .int v3)], [.int v3, .int v0])) rfl ?_
    refine e_sI 304 rfl rfl rfl ix_X12_viewOf rfl (Nat.le_of_ble_eq_true rfl) (fun w2 s3 e4 => ?_)
    refine e_L 3 (f' := (19, [(4, .int w2), (0, .int v0), (1, .int v1), (2, .int v2), (3, .int v3)], [.int v3, .int v1])) rfl ?_
    refine e_sI 304 rfl rfl rfl ix_X12_viewOf rfl (Nat.le_of_ble_eq_true rfl) (fun w5 s6 e7 => ?_)
    refine e_L 5 (f' := (30, [(5, .int w5), (4, .int w2), (0, .int v0), (1, .int v1), (2, .int v2), (3, .int v3)], [.int w5, .int w2, .int v3, .int v2])) rfl ?_
    refine e_icmp 38 rfl rfl rfl (fun c8 => ?_) (fun c8 => ?_)
    · refine e_L 1 (f' := (40, [(5, .int w5), (4, .int w2), (0, .int v0), (1, .int v1), (2, .int v2), (3, .int v3)], [.int w5, .int v3, .int v2])) rfl ?_
      exact qE_sub (qsubL [2, 3, 5] rfl (ks := [5, 4, 0, 1, 2, 3]) rfl (by decide))
    · refine e_L 2 (f' := (40, [(5, .int w5), (4, .int w2), (0, .int v0), (1, .int v1), (2, .int v2), (3, .int v3)], [.int w2, .int v3, .int v2])) rfl ?_
      exact qE_sub (qsubL [2, 3, 5] rfl (ks := [5, 4, 0, 1, 2, 3]) rfl (by decide))
set_option maxRecDepth 100000 in
set_option maxHeartbeats 4000000 in
theorem le_X12_joinOf_40 (en : pN) (d : Nat) (v0 : Int32) (v1 : Int32) (v3 : Int32) (vs0 : Int32) (vs1 : Int32) (vs2 : Int32) (s : qS) : qle (bI (qev en d 305 [.int vs0, .int vs1, .int vs2] s) (fun w1 s2 => L_X12_joinOf_4 en d v0 v1 w1 (v3 + (1 : Int32)) s2)) (L_X12_joinOf_40 en d v0 v1 v3 vs0 vs1 vs2 s) := by
  show qle _ (qE (qev en d) en (some .int) tb_X12_joinOf (40, [(0, .int v0), (1, .int v1), (3, .int v3)], [.int vs2, .int vs1, .int vs0]) s)
  refine e_sI 305 rfl rfl rfl ix_X12_withView rfl (Nat.le_of_ble_eq_true rfl) (fun w1 s2 e3 => ?_)
  refine e_L 3 (f' := (4, [(3, .int (v3 + (1 : Int32))), (2, .int w1), (0, .int v0), (1, .int v1)], [])) rfl ?_
  exact qE_sub (qsubL [2, 3, 1, 0] rfl (ks := [3, 2, 0, 1]) rfl (by decide))
set_option maxRecDepth 100000 in
set_option maxHeartbeats 4000000 in
theorem le_X12_joinOf (en : pN) (d : Nat) (a1 : Int32) (a2 : Int32) (s : qS) : qle (L_X12_joinOf_4 en d a1 a2 (0 : Int32) (0 : Int32) s) (qev en (d + 1) 306 [.int a1, .int a2] s) := by
  refine e_enter ix_X12_joinOf (Nat.le_of_ble_eq_true rfl) ?_
  show qle _ (qE (qev en d) en (some .int) tb_X12_joinOf (0, [(0, .int a1), (1, .int a2)], []) s)
  refine e_L 4 (f' := (4, [(3, .int (0 : Int32)), (2, .int (0 : Int32)), (0, .int a1), (1, .int a2)], [])) rfl ?_
  exact qE_sub (qsubL [2, 3, 1, 0] rfl (ks := [3, 2, 0, 1]) rfl (by decide))
set_option maxRecDepth 100000 in
set_option maxHeartbeats 4000000 in
theorem le_X12_lastWrite (en : pN) (d : Nat) (a1 : Int32) (s : qS) : qle (gd (p_inB ((52 : Int32) + a1) 216 = true) (some (some (.int ((s.1 187 ((52 : Int32) + a1).toNatClampNeg) - (1 : Int32))), s))) (qev en (d + 1) 307 [.ref 151, .int a1] s) := by
  refine e_enter ix_X12_lastWrite (Nat.le_of_ble_eq_true rfl) ?_
  show qle _ (qE (qev en d) en (some .int) tb_X12_lastWrite (0, [(0, .ref 151), (1, .int a1)], []) s)
  refine e_L 1 (f' := (1, [(0, .ref 151), (1, .int a1)], [.ref 151])) rfl ?_
  refine e_gR (q := 187) 12 57 rfl rfl lc_151 lr_151_57 ?_
  refine e_L 3 (f' := (8, [(0, .ref 151), (1, .int a1)], [.int ((52 : Int32) + a1), .ref 187])) rfl ?_
  refine qle_gd fun h1 => ?_
  refine e_ial (n := 216) (k := ((52 : Int32) + a1).toNatClampNeg) rfl lc_187 ln_187 h1 rfl ?_
  refine e_L 2 (f' := (11, [(0, .ref 151), (1, .int a1)], [.int ((s.1 187 ((52 : Int32) + a1).toNatClampNeg) - (1 : Int32))])) rfl ?_
  exact e_rI rfl rfl
noncomputable def L_X12_write_110 (en : pN) (d : Nat) (vs1 : Int32) (vs2 : Int32) (s : qS) : Option qR := qE (qev en d) en none tb_X12_write (110, [], [.int vs2, .int vs1, .ref 187]) s
set_option maxRecDepth 100000 in
set_option maxHeartbeats 4000000 in
theorem le_X12_write_110 (en : pN) (d : Nat) (vs1 : Int32) (vs2 : Int32) (s : qS) : qle (gd (p_inB vs1 216 = true) (nm (uI s 187 (vs1.toNatClampNeg) vs2) (fun s2 => some (none, s2)))) (L_X12_write_110 en d vs1 vs2 s) := by
  show qle _ (qE (qev en d) en none tb_X12_write (110, [], [.int vs2, .int vs1, .ref 187]) s)
  refine qle_gd fun h1 => ?_
  refine e_ias (n := 216) (k := vs1.toNatClampNeg) rfl lc_187 ln_187 h1 rfl ?_
  refine e_nS fun s2 => ?_
  exact e_rV rfl rfl
set_option maxRecDepth 100000 in
set_option maxHeartbeats 4000000 in
theorem le_X12_write (en : pN) (d : Nat) (a1 : Int32) (a2 : Int32) (a3 : Int32) (a4 : Int32) (s : qS) : qle (gd (p_inB ((52 : Int32) + a2) 216 = true) (nm (s.1 187 ((52 : Int32) + a2).toNatClampNeg) (fun z2 => nm (uI s 187 (((52 : Int32) + a2).toNatClampNeg) ((s.1 187 ((52 : Int32) + a2).toNatClampNeg) + (1 : Int32))) (fun s3 => gd (p_inB (((60 : Int32) + ((9 : Int32) * a2)) + z2) 216 = true) (nm (uI s3 187 ((((60 : Int32) + ((9 : Int32) * a2)) + z2).toNatClampNeg) a3) (fun s5 => gd (p_inB ((44 : Int32) + a2) 216 = true) (nm (uI s5 187 (((44 : Int32) + a2).toNatClampNeg) a3) (fun s7 => gd (p_inB ((204 : Int32) + a1) 216 = true) (bI (qev en d 305 [.int (s7.1 187 ((204 : Int32) + a1).toNatClampNeg), .int a2, .int z2] s7) (fun w9 s10 => nm (uI s10 187 (((204 : Int32) + a1).toNatClampNeg) w9) (fun s12 => if a4 = (0 : Int32) then L_X12_write_110 en d (((132 : Int32) + ((9 : Int32) * a2)) + z2) (0 : Int32) s12 else L_X12_write_110 en d (((132 : Int32) + ((9 : Int32) * a2)) + z2) (s12.1 187 ((204 : Int32) + a1).toNatClampNeg) s12))))))))))) (qev en (d + 1) 308 [.ref 151, .int a1, .int a2, .int a3, .int a4] s) := by
  refine e_enter ix_X12_write (Nat.le_of_ble_eq_true rfl) ?_
  show qle _ (qE (qev en d) en none tb_X12_write (0, [(0, .ref 151), (1, .int a1), (2, .int a2), (3, .int a3), (4, .int a4)], []) s)
  refine e_L 1 (f' := (1, [(0, .ref 151), (1, .int a1), (2, .int a2), (3, .int a3), (4, .int a4)], [.ref 151])) rfl ?_
  refine e_gR (q := 187) 12 57 rfl rfl lc_151 lr_151_57 ?_
  refine e_L 3 (f' := (8, [(0, .ref 151), (1, .int a1), (2, .int a2), (3, .int a3), (4, .int a4)], [.int ((52 : Int32) + a2), .ref 187])) rfl ?_
  refine qle_gd fun h1 => ?_
  refine e_ial (n := 216) (k := ((52 : Int32) + a2).toNatClampNeg) rfl lc_187 ln_187 h1 rfl ?_
  refine e_nI fun z2 => ?_
  refine e_L 2 (f' := (12, [(5, .int z2), (0, .ref 151), (1, .int a1), (2, .int a2), (3, .int a3), (4, .int a4)], [.ref 151])) rfl ?_
  refine e_gR (q := 187) 12 57 rfl rfl lc_151 lr_151_57 ?_
  refine e_L 4 (f' := (20, [(5, .int z2), (0, .ref 151), (1, .int a1), (2, .int a2), (3, .int a3), (4, .int a4)], [.int ((52 : Int32) + a2), .ref 187, .int ((52 : Int32) + a2), .ref 187])) rfl ?_
  refine e_ial (n := 216) (k := ((52 : Int32) + a2).toNatClampNeg) rfl lc_187 ln_187 h1 rfl ?_
  refine e_L 2 (f' := (23, [(5, .int z2), (0, .ref 151), (1, .int a1), (2, .int a2), (3, .int a3), (4, .int a4)], [.int ((s.1 187 ((52 : Int32) + a2).toNatClampNeg) + (1 : Int32)), .int ((52 : Int32) + a2), .ref 187])) rfl ?_
  refine e_ias (n := 216) (k := ((52 : Int32) + a2).toNatClampNeg) rfl lc_187 ln_187 h1 rfl ?_
  refine e_nS fun s3 => ?_
  refine e_L 1 (f' := (25, [(5, .int z2), (0, .ref 151), (1, .int a1), (2, .int a2), (3, .int a3), (4, .int a4)], [.ref 151])) rfl ?_
  refine e_gR (q := 187) 12 57 rfl rfl lc_151 lr_151_57 ?_
  refine e_L 8 (f' := (39, [(5, .int z2), (0, .ref 151), (1, .int a1), (2, .int a2), (3, .int a3), (4, .int a4)], [.int a3, .int (((60 : Int32) + ((9 : Int32) * a2)) + z2), .ref 187])) rfl ?_
  refine qle_gd fun h4 => ?_
  refine e_ias (n := 216) (k := (((60 : Int32) + ((9 : Int32) * a2)) + z2).toNatClampNeg) rfl lc_187 ln_187 h4 rfl ?_
  refine e_nS fun s5 => ?_
  refine e_L 1 (f' := (41, [(5, .int z2), (0, .ref 151), (1, .int a1), (2, .int a2), (3, .int a3), (4, .int a4)], [.ref 151])) rfl ?_
  refine e_gR (q := 187) 12 57 rfl rfl lc_151 lr_151_57 ?_
  refine e_L 4 (f' := (49, [(5, .int z2), (0, .ref 151), (1, .int a1), (2, .int a2), (3, .int a3), (4, .int a4)], [.int a3, .int ((44 : Int32) + a2), .ref 187])) rfl ?_
  refine qle_gd fun h6 => ?_
  refine e_ias (n := 216) (k := ((44 : Int32) + a2).toNatClampNeg) rfl lc_187 ln_187 h6 rfl ?_
  refine e_nS fun s7 => ?_
  refine e_L 1 (f' := (51, [(5, .int z2), (0, .ref 151), (1, .int a1), (2, .int a2), (3, .int a3), (4, .int a4)], [.ref 151])) rfl ?_
  refine e_gR (q := 187) 12 57 rfl rfl lc_151 lr_151_57 ?_
  refine e_L 4 (f' := (60, [(5, .int z2), (0, .ref 151), (1, .int a1), (2, .int a2), (3, .int a3), (4, .int a4)], [.ref 151, .int ((204 : Int32) + a1), .ref 187])) rfl ?_
  refine e_gR (q := 187) 12 57 rfl rfl lc_151 lr_151_57 ?_
  refine e_L 3 (f' := (68, [(5, .int z2), (0, .ref 151), (1, .int a1), (2, .int a2), (3, .int a3), (4, .int a4)], [.int ((204 : Int32) + a1), .ref 187, .int ((204 : Int32) + a1), .ref 187])) rfl ?_
  refine qle_gd fun h8 => ?_
  refine e_ial (n := 216) (k := ((204 : Int32) + a1).toNatClampNeg) rfl lc_187 ln_187 h8 rfl ?_
  refine e_L 2 (f' := (72, [(5, .int z2), (0, .ref 151), (1, .int a1), (2, .int a2), (3, .int a3), (4, .int a4)], [.int z2, .int a2, .int (s7.1 187 ((204 : Int32) + a1).toNatClampNeg), .int ((204 : Int32) + a1), .ref 187])) rfl ?_
  refine e_sI 305 rfl rfl rfl ix_X12_withView rfl (Nat.le_of_ble_eq_true rfl) (fun w9 s10 e11 => ?_)
  refine e_ias (n := 216) (k := ((204 : Int32) + a1).toNatClampNeg) rfl lc_187 ln_187 h8 rfl ?_
  refine e_nS fun s12 => ?_
  refine e_L 1 (f' := (77, [(5, .int z2), (0, .ref 151), (1, .int a1), (2, .int a2), (3, .int a3), (4, .int a4)], [.ref 151])) rfl ?_
  refine e_gR (q := 187) 12 57 rfl rfl lc_151 lr_151_57 ?_
  refine e_L 8 (f' := (93, [(5, .int z2), (0, .ref 151), (1, .int a1), (2, .int a2), (3, .int a3), (4, .int a4)], [.int a4, .int (((132 : Int32) + ((9 : Int32) * a2)) + z2), .ref 187])) rfl ?_
  refine e_ifz 109 rfl rfl rfl (fun c13 => ?_) (fun c13 => ?_)
  · refine e_L 1 (f' := (110, [(5, .int z2), (0, .ref 151), (1, .int a1), (2, .int a2), (3, .int a3), (4, .int a4)], [.int (0 : Int32), .int (((132 : Int32) + ((9 : Int32) * a2)) + z2), .ref 187])) rfl ?_
    exact qE_sub (qsubL [] rfl (ks := [5, 0, 1, 2, 3, 4]) rfl (by decide))
  · refine e_L 1 (f' := (97, [(5, .int z2), (0, .ref 151), (1, .int a1), (2, .int a2), (3, .int a3), (4, .int a4)], [.ref 151, .int (((132 : Int32) + ((9 : Int32) * a2)) + z2), .ref 187])) rfl ?_
    refine e_gR (q := 187) 12 57 rfl rfl lc_151 lr_151_57 ?_
    refine e_L 3 (f' := (105, [(5, .int z2), (0, .ref 151), (1, .int a1), (2, .int a2), (3, .int a3), (4, .int a4)], [.int ((204 : Int32) + a1), .ref 187, .int (((132 : Int32) + ((9 : Int32) * a2)) + z2), .ref 187])) rfl ?_
    refine e_ial (n := 216) (k := ((204 : Int32) + a1).toNatClampNeg) rfl lc_187 ln_187 h8 rfl ?_
    refine e_L 1 (f' := (110, [(5, .int z2), (0, .ref 151), (1, .int a1), (2, .int a2), (3, .int a3), (4, .int a4)], [.int (s12.1 187 ((204 : Int32) + a1).toNatClampNeg), .int (((132 : Int32) + ((9 : Int32) * a2)) + z2), .ref 187])) rfl ?_
    exact qE_sub (qsubL [] rfl (ks := [5, 0, 1, 2, 3, 4]) rfl (by decide))
noncomputable def L_X12_seeLast_37 (en : pN) (d : Nat) (v1 : Int32) (v2 : Int32) (v4 : Int32) (s : qS) : Option qR := qE (qev en d) en (some .int) tb_X12_seeLast (37, [(0, .ref 151), (1, .int v1), (2, .int v2), (4, .int v4)], []) s
set_option maxRecDepth 100000 in
set_option maxHeartbeats 4000000 in
theorem le_X12_seeLast_37 (en : pN) (d : Nat) (v1 : Int32) (v2 : Int32) (v4 : Int32) (s : qS) : qle (gd (p_inB ((204 : Int32) + v1) 216 = true) (gd (p_inB (((132 : Int32) + ((9 : Int32) * v2)) + v4) 216 = true) (bI (qev en d 306 [.int (s.1 187 ((204 : Int32) + v1).toNatClampNeg), .int (s.1 187 (((132 : Int32) + ((9 : Int32) * v2)) + v4).toNatClampNeg)] s) (fun w3 s4 => nm (uI s4 187 (((204 : Int32) + v1).toNatClampNeg) w3) (fun s6 => gd (p_inB (((60 : Int32) + ((9 : Int32) * v2)) + v4) 216 = true) (some (some (.int (s6.1 187 (((60 : Int32) + ((9 : Int32) * v2)) + v4).toNatClampNeg)), s6))))))) (L_X12_seeLast_37 en d v1 v2 v4 s) := by
  show qle _ (qE (qev en d) en (some .int) tb_X12_seeLast (37, [(0, .ref 151), (1, .int v1), (2, .int v2), (4, .int v4)], []) s)
  refine e_L 1 (f' := (38, [(0, .ref 151), (1, .int v1), (2, .int v2), (4, .int v4)], [.ref 151])) rfl ?_
  refine e_gR (q := 187) 12 57 rfl rfl lc_151 lr_151_57 ?_
  refine e_L 4 (f' := (47, [(0, .ref 151), (1, .int v1), (2, .int v2), (4, .int v4)], [.ref 151, .int ((204 : Int32) + v1), .ref 187])) rfl ?_
  refine e_gR (q := 187) 12 57 rfl rfl lc_151 lr_151_57 ?_
  refine e_L 3 (f' := (55, [(0, .ref 151), (1, .int v1), (2, .int v2), (4, .int v4)], [.int ((204 : Int32) + v1), .ref 187, .int ((204 : Int32) + v1), .ref 187])) rfl ?_
  refine qle_gd fun h1 => ?_
  refine e_ial (n := 216) (k := ((204 : Int32) + v1).toNatClampNeg) rfl lc_187 ln_187 h1 rfl ?_
  refine e_L 1 (f' := (57, [(0, .ref 151), (1, .int v1), (2, .int v2), (4, .int v4)], [.ref 151, .int (s.1 187 ((204 : Int32) + v1).toNatClampNeg), .int ((204 : Int32) + v1), .ref 187])) rfl ?_
  refine e_gR (q := 187) 12 57 rfl rfl lc_151 lr_151_57 ?_
  refine e_L 7 (f' := (71, [(0, .ref 151), (1, .int v1), (2, .int v2), (4, .int v4)], [.int (((132 : Int32) + ((9 : Int32) * v2)) + v4), .ref 187, .int (s.1 187 ((204 : Int32) + v1).toNatClampNeg), .int ((204 : Int32) + v1), .ref 187])) rfl ?_
  refine qle_gd fun h2 => ?_
  refine e_ial (n := 216) (k := (((132 : Int32) + ((9 : Int32) * v2)) + v4).toNatClampNeg) rfl lc_187 ln_187 h2 rfl ?_
  refine e_sI 306 rfl rfl rfl ix_X12_joinOf rfl (Nat.le_of_ble_eq_true rfl) (fun w3 s4 e5 => ?_)
  refine e_ias (n := 216) (k := ((204 : Int32) + v1).toNatClampNeg) rfl lc_187 ln_187 h1 rfl ?_
  refine e_nS fun s6 => ?_
  refine e_L 1 (f' := (77, [(0, .ref 151), (1, .int v1), (2, .int v2), (4, .int v4)], [.ref 151])) rfl ?_
  refine e_gR (q := 187) 12 57 rfl rfl lc_151 lr_151_57 ?_
  refine e_L 7 (f' := (90, [(0, .ref 151), (1, .int v1), (2, .int v2), (4, .int v4)], [.int (((60 : Int32) + ((9 : Int32) * v2)) + v4), .ref 187])) rfl ?_
  refine qle_gd fun h7 => ?_
  refine e_ial (n := 216) (k := (((60 : Int32) + ((9 : Int32) * v2)) + v4).toNatClampNeg) rfl lc_187 ln_187 h7 rfl ?_
  exact e_rI rfl rfl
set_option maxRecDepth 100000 in
set_option maxHeartbeats 4000000 in
theorem le_X12_seeLast (en : pN) (d : Nat) (a1 : Int32) (a2 : Int32) (a3 : Int32) (s : qS) : qle (bI (qev en d 307 [.ref 151, .int a2] s) (fun w1 s2 => if a3 = (0 : Int32) then L_X12_seeLast_37 en d a1 a2 w1 s2 else gd (p_inB ((204 : Int32) + a1) 216 = true) (bI (qev en d 305 [.int (s2.1 187 ((204 : Int32) + a1).toNatClampNeg), .int a2, .int w1] s2) (fun w6 s7 => nm (uI s7 187 (((204 : Int32) + a1).toNatClampNeg) w6) (fun s9 => L_X12_seeLast_37 en d a1 a2 w1 s9))))) (qev en (d + 1) 309 [.ref 151, .int a1, .int a2, .int a3] s) := by
  refine e_enter ix_X12_seeLast (Nat.le_of_ble_eq_true rfl) ?_
  show qle _ (qE (qev en d) en (some .int) tb_X12_seeLast (0, [(0, .ref 151), (1, .int a1), (2, .int a2), (3, .int a3)], []) s)
  refine e_L 2 (f' := (2, [(0, .ref 151), (1, .int a1), (2, .int a2), (3, .int a3)], [.int a2, .ref 151])) rfl ?_
  refine e_vI 307 rfl rfl ix_X12_lastWrite rfl (q_recvOf lc_151 rfl) (Nat.le_of_ble_eq_true rfl) (fun w1 s2 e3 => ?_)
  refine e_L 2 (f' := (8, [(4, .int w1), (0, .ref 151), (1, .int a1), (2, .int a2), (3, .int a3)], [.int a3])) rfl ?_
  refine e_ifz 37 rfl rfl rfl (fun c4 => ?_) (fun c4 => ?_)
  · exact qE_sub (qsubL [1, 2, 3, 0] rfl (ks := [4, 0, 1, 2, 3]) rfl (by decide))
  · refine e_L 1 (f' := (12, [(4, .int w1), (0, .ref 151), (1, .int a1), (2, .int a2), (3, .int a3)], [.ref 151])) rfl ?_
    refine e_gR (q := 187) 12 57 rfl rfl lc_151 lr_151_57 ?_
    refine e_L 4 (f' := (21, [(4, .int w1), (0, .ref 151), (1, .int a1), (2, .int a2), (3, .int a3)], [.ref 151, .int ((204 : Int32) + a1), .ref 187])) rfl ?_
    refine e_gR (q := 187) 12 57 rfl rfl lc_151 lr_151_57 ?_
    refine e_L 3 (f' := (29, [(4, .int w1), (0, .ref 151), (1, .int a1), (2, .int a2), (3, .int a3)], [.int ((204 : Int32) + a1), .ref 187, .int ((204 : Int32) + a1), .ref 187])) rfl ?_
    refine qle_gd fun h5 => ?_
    refine e_ial (n := 216) (k := ((204 : Int32) + a1).toNatClampNeg) rfl lc_187 ln_187 h5 rfl ?_
    refine e_L 2 (f' := (33, [(4, .int w1), (0, .ref 151), (1, .int a1), (2, .int a2), (3, .int a3)], [.int w1, .int a2, .int (s2.1 187 ((204 : Int32) + a1).toNatClampNeg), .int ((204 : Int32) + a1), .ref 187])) rfl ?_
    refine e_sI 305 rfl rfl rfl ix_X12_withView rfl (Nat.le_of_ble_eq_true rfl) (fun w6 s7 e8 => ?_)
    refine e_ias (n := 216) (k := ((204 : Int32) + a1).toNatClampNeg) rfl lc_187 ln_187 h5 rfl ?_
    refine e_nS fun s9 => ?_
    exact qE_sub (qsubL [1, 2, 3, 0] rfl (ks := [4, 0, 1, 2, 3]) rfl (by decide))
set_option maxRecDepth 100000 in
set_option maxHeartbeats 4000000 in
theorem le_X12_isEmpty (en : pN) (d : Nat) (a1 : Int32) (s : qS) : qle (if ¬ (s.1 151 58) = (1 : Int32) then some (some (.int (1 : Int32)), s) else gd (p_inB ((52 : Int32) + a1) 216 = true) (if ¬ (s.1 187 ((52 : Int32) + a1).toNatClampNeg) = (0 : Int32) then some (some (.int (0 : Int32)), s) else some (some (.int (1 : Int32)), s))) (qev en (d + 1) 310 [.ref 151, .int a1] s) := by
  refine e_enter ix_X12_isEmpty (Nat.le_of_ble_eq_true rfl) ?_
  show qle _ (qE (qev en d) en (some .boolean) tb_X12_isEmpty (0, [(0, .ref 151), (1, .int a1)], []) s)
  refine e_L 1 (f' := (1, [(0, .ref 151), (1, .int a1)], [.ref 151])) rfl ?_
  refine e_gI 12 58 rfl rfl lc_151 ?_
  refine e_L 1 (f' := (5, [(0, .ref 151), (1, .int a1)], [.int (1 : Int32), .int (s.1 151 58)])) rfl ?_
  refine e_icmp 20 rfl rfl rfl (fun c1 => ?_) (fun c1 => ?_)
  · refine e_L 2 (f' := (25, [(0, .ref 151), (1, .int a1)], [.int (1 : Int32)])) rfl ?_
    exact e_rZ rfl rfl (by decide)
  · refine e_L 1 (f' := (9, [(0, .ref 151), (1, .int a1)], [.ref 151])) rfl ?_
    refine e_gR (q := 187) 12 57 rfl rfl lc_151 lr_151_57 ?_
    refine e_L 3 (f' := (16, [(0, .ref 151), (1, .int a1)], [.int ((52 : Int32) + a1), .ref 187])) rfl ?_
    refine qle_gd fun h2 => ?_
    refine e_ial (n := 216) (k := ((52 : Int32) + a1).toNatClampNeg) rfl lc_187 ln_187 h2 rfl ?_
    refine e_ifz 24 rfl rfl rfl (fun c3 => ?_) (fun c3 => ?_)
    · refine e_L 1 (f' := (25, [(0, .ref 151), (1, .int a1)], [.int (0 : Int32)])) rfl ?_
      exact e_rZ rfl rfl (by decide)
    · refine e_L 2 (f' := (25, [(0, .ref 151), (1, .int a1)], [.int (1 : Int32)])) rfl ?_
      exact e_rZ rfl rfl (by decide)
noncomputable def L_X12_waitingFor_4 (en : pN) (d : Nat) (v1 : Int32) (v2 : Int32) (v3 : Int32) (s : qS) : Option qR := qE (qev en d) en (some .int) tb_X12_waitingFor (4, [(0, .ref 151), (1, .int v1), (2, .int v2), (3, .int v3)], []) s
set_option maxRecDepth 100000 in
set_option maxHeartbeats 4000000 in
theorem le_X12_waitingFor_4 (en : pN) (d : Nat) (v1 : Int32) (v2 : Int32) (v3 : Int32) (s : qS) : qle (if (s.1 151 18) ≤ v3 then some (some (.int v2), s) else gd (p_inB ((0 : Int32) + v3) 216 = true) (if ¬ (s.1 187 ((0 : Int32) + v3).toNatClampNeg) = (2 : Int32) then L_X12_waitingFor_4 en d v1 (v2 + (0 : Int32)) (v3 + (1 : Int32)) s else bI (qev en d 303 [.ref 151, .int v3] s) (fun w4 s5 => gd (p_inB w4 400 = true) (if ¬ (s5.1 166 w4.toNatClampNeg) = v1 then L_X12_waitingFor_4 en d v1 (v2 + (0 : Int32)) (v3 + (1 : Int32)) s5 else L_X12_waitingFor_4 en d v1 (v2 + (1 : Int32)) (v3 + (1 : Int32)) s5)))) (L_X12_waitingFor_4 en d v1 v2 v3 s) := by
  show qle _ (qE (qev en d) en (some .int) tb_X12_waitingFor (4, [(0, .ref 151), (1, .int v1), (2, .int v2), (3, .int v3)], []) s)
  refine e_L 2 (f' := (6, [(0, .ref 151), (1, .int v1), (2, .int v2), (3, .int v3)], [.ref 151, .int v3])) rfl ?_
  refine e_gI 12 18 rfl rfl lc_151 ?_
  refine e_icmp 52 rfl rfl rfl (fun c1 => ?_) (fun c1 => ?_)
  · refine e_L 1 (f' := (53, [(0, .ref 151), (1, .int v1), (2, .int v2), (3, .int v3)], [.int v2])) rfl ?_
    exact e_rI rfl rfl
  · refine e_L 2 (f' := (14, [(0, .ref 151), (1, .int v1), (2, .int v2), (3, .int v3)], [.ref 151, .int v2])) rfl ?_
    refine e_gR (q := 187) 12 57 rfl rfl lc_151 lr_151_57 ?_
    refine e_L 3 (f' := (20, [(0, .ref 151), (1, .int v1), (2, .int v2), (3, .int v3)], [.int ((0 : Int32) + v3), .ref 187, .int v2])) rfl ?_
    refine qle_gd fun h2 => ?_
    refine e_ial (n := 216) (k := ((0 : Int32) + v3).toNatClampNeg) rfl lc_187 ln_187 h2 rfl ?_
    refine e_L 1 (f' := (22, [(0, .ref 151), (1, .int v1), (2, .int v2), (3, .int v3)], [.int (2 : Int32), .int (s.1 187 ((0 : Int32) + v3).toNatClampNeg), .int v2])) rfl ?_
    refine e_icmp 43 rfl rfl rfl (fun c3 => ?_) (fun c3 => ?_)
    · refine e_L 5 (f' := (4, [(3, .int (v3 + (1 : Int32))), (2, .int (v2 + (0 : Int32))), (0, .ref 151), (1, .int v1)], [])) rfl ?_
      exact qE_sub (qsubL [2, 3, 1, 0] rfl (ks := [3, 2, 0, 1]) rfl (by decide))
    · refine e_L 1 (f' := (26, [(0, .ref 151), (1, .int v1), (2, .int v2), (3, .int v3)], [.ref 151, .int v2])) rfl ?_
      refine e_gR (q := 166) 12 35 rfl rfl lc_151 lr_151_35 ?_
      refine e_L 2 (f' := (31, [(0, .ref 151), (1, .int v1), (2, .int v2), (3, .int v3)], [.int v3, .ref 151, .ref 166, .int v2])) rfl ?_
      refine e_vI 303 rfl rfl ix_X12_lineOf rfl (q_recvOf lc_151 rfl) (Nat.le_of_ble_eq_true rfl) (fun w4 s5 e6 => ?_)
      refine qle_gd fun h7 => ?_
      refine e_ial (n := 400) (k := w4.toNatClampNeg) rfl lc_166 ln_166 h7 rfl ?_
      refine e_L 1 (f' := (36, [(0, .ref 151), (1, .int v1), (2, .int v2), (3, .int v3)], [.int v1, .int (s5.1 166 w4.toNatClampNeg), .int v2])) rfl ?_
      refine e_icmp 43 rfl rfl rfl (fun c8 => ?_) (fun c8 => ?_)
      · refine e_L 5 (f' := (4, [(3, .int (v3 + (1 : Int32))), (2, .int (v2 + (0 : Int32))), (0, .ref 151), (1, .int v1)], [])) rfl ?_
        exact qE_sub (qsubL [2, 3, 1, 0] rfl (ks := [3, 2, 0, 1]) rfl (by decide))
      · refine e_L 6 (f' := (4, [(3, .int (v3 + (1 : Int32))), (2, .int (v2 + (1 : Int32))), (0, .ref 151), (1, .int v1)], [])) rfl ?_
        exact qE_sub (qsubL [2, 3, 1, 0] rfl (ks := [3, 2, 0, 1]) rfl (by decide))
set_option maxRecDepth 100000 in
set_option maxHeartbeats 4000000 in
theorem le_X12_waitingFor (en : pN) (d : Nat) (a1 : Int32) (s : qS) : qle (L_X12_waitingFor_4 en d a1 (0 : Int32) (0 : Int32) s) (qev en (d + 1) 311 [.ref 151, .int a1] s) := by
  refine e_enter ix_X12_waitingFor (Nat.le_of_ble_eq_true rfl) ?_
  show qle _ (qE (qev en d) en (some .int) tb_X12_waitingFor (0, [(0, .ref 151), (1, .int a1)], []) s)
  refine e_L 4 (f' := (4, [(3, .int (0 : Int32)), (2, .int (0 : Int32)), (0, .ref 151), (1, .int a1)], [])) rfl ?_
  exact qE_sub (qsubL [2, 3, 1, 0] rfl (ks := [3, 2, 0, 1]) rfl (by decide))
noncomputable def L_X12_choices_451 (en : pN) (d : Nat) (v1 : Int32) (v5 : Int32) (s : qS) : Option qR := qE (qev en d) en (some .int) tb_X12_choices (451, [(0, .ref 151), (1, .int v1), (5, .int v5)], []) s
noncomputable def L_X12_choices_499 (en : pN) (d : Nat) (v4 : Int32) (v5 : Int32) (s : qS) : Option qR := qE (qev en d) en (some .int) tb_X12_choices (499, [(4, .int v4), (5, .int v5)], []) s
set_option maxRecDepth 100000 in
set_option maxHeartbeats 4000000 in
theorem le_X12_choices_451 (en : pN) (d : Nat) (v1 : Int32) (v5 : Int32) (s : qS) : qle (bI (qev en d 310 [.ref 151, .int v1] s) (fun w1 s2 => L_X12_choices_499 en d w1 v5 s2)) (L_X12_choices_451 en d v1 v5 s) := by
  show qle _ (qE (qev en d) en (some .int) tb_X12_choices (451, [(0, .ref 151), (1, .int v1), (5, .int v5)], []) s)
  refine e_L 2 (f' := (453, [(0, .ref 151), (1, .int v1), (5, .int v5)], [.int v1, .ref 151])) rfl ?_
  refine e_vI 310 rfl rfl ix_X12_isEmpty rfl (q_recvOf lc_151 rfl) (Nat.le_of_ble_eq_true rfl) (fun w1 s2 e3 => ?_)
  refine e_L 2 (f' := (499, [(4, .int w1), (0, .ref 151), (1, .int v1), (5, .int v5)], [])) rfl ?_
  exact qE_sub (qsubL [0, 3] rfl (ks := [4, 0, 1, 5]) rfl (by decide))
set_option maxRecDepth 100000 in
set_option maxHeartbeats 4000000 in
theorem le_X12_choices_499 (en : pN) (d : Nat) (v4 : Int32) (v5 : Int32) (s : qS) : qle (if v4 = (0 : Int32) then some (some (.int (0 : Int32)), s) else some (some (.int v5), s)) (L_X12_choices_499 en d v4 v5 s) := by
  show qle _ (qE (qev en d) en (some .int) tb_X12_choices (499, [(4, .int v4), (5, .int v5)], []) s)
  refine e_L 1 (f' := (501, [(4, .int v4), (5, .int v5)], [.int v4])) rfl ?_
  refine e_ifz 509 rfl rfl rfl (fun c1 => ?_) (fun c1 => ?_)
  · refine e_L 1 (f' := (510, [(4, .int v4), (5, .int v5)], [.int (0 : Int32)])) rfl ?_
    exact e_rI rfl rfl
  · refine e_L 2 (f' := (510, [(4, .int v4), (5, .int v5)], [.int v5])) rfl ?_
    exact e_rI rfl rfl
set_option maxRecDepth 100000 in
set_option maxHeartbeats 4000000 in
theorem le_X12_choices (en : pN) (d : Nat) (a1 : Int32) (s : qS) : qle (gd (p_inB ((0 : Int32) + a1) 216 = true) (if ¬ (s.1 187 ((0 : Int32) + a1).toNatClampNeg) = (3 : Int32) then if (s.1 187 ((0 : Int32) + a1).toNatClampNeg) = (1 : Int32) then bI (qev en d 303 [.ref 151, .int a1] s) (fun w4 s5 => gd (p_inB w4 400 = true) (nm (s5.1 166 w4.toNatClampNeg) (fun z8 => swI (s5.1 164 w4.toNatClampNeg).toInt 1 [if ¬ (s5.1 151 58) = (2 : Int32) then L_X12_choices_499 en d (1 : Int32) (1 : Int32) s5 else gd (p_inB z8 8 = true) (if ¬ (s5.1 155 z8.toNatClampNeg) = (0 : Int32) then L_X12_choices_499 en d (1 : Int32) (1 : Int32) s5 else bI (qev en d 307 [.ref 151, .int z8] s5) (fun w12 s13 => gd (p_inB ((204 : Int32) + a1) 216 = true) (bI (qev en d 304 [.int (s13.1 187 ((204 : Int32) + a1).toNatClampNeg), .int z8] s13) (fun w16 s17 => nm ((w12 - w16) + (1 : Int32)) (fun z19 => L_X12_choices_499 en d (1 : Int32) z19 s17))))), if (s5.1 151 58) = (0 : Int32) then L_X12_choices_499 en d (1 : Int32) (1 : Int32) s5 else if ¬ (s5.1 151 58) = (1 : Int32) then gd (p_inB ((52 : Int32) + z8) 216 = true) (if (9 : Int32) ≤ (s5.1 187 ((52 : Int32) + z8).toNatClampNeg) then L_X12_choices_499 en d (0 : Int32) (1 : Int32) s5 else L_X12_choices_499 en d (1 : Int32) (1 : Int32) s5) else gd (p_inB z8 8 = true) (if (s5.1 155 z8.toNatClampNeg) = (0 : Int32) then gd (p_inB ((52 : Int32) + a1) 216 = true) (if (3 : Int32) ≤ (s5.1 187 ((52 : Int32) + a1).toNatClampNeg) then L_X12_choices_499 en d (0 : Int32) (1 : Int32) s5 else L_X12_choices_499 en d (1 : Int32) (1 : Int32) s5) else bI (qev en d 310 [.ref 151, .int a1] s5) (fun w28 s29 => if w28 = (0 : Int32) then L_X12_choices_499 en d (0 : Int32) (1 : Int32) s29 else L_X12_choices_499 en d (1 : Int32) (1 : Int32) s29)), bI (qev en d 310 [.ref 151, .int a1] s5) (fun w32 s33 => if w32 = (0 : Int32) then L_X12_choices_499 en d (0 : Int32) (1 : Int32) s33 else if ¬ (s33.1 151 58) = (2 : Int32) then L_X12_choices_499 en d (1 : Int32) (1 : Int32) s33 else gd (p_inB ((52 : Int32) + z8) 216 = true) (if (s33.1 187 ((52 : Int32) + z8).toNatClampNeg) < (9 : Int32) then L_X12_choices_499 en d (1 : Int32) (1 : Int32) s33 else bI (qev en d 313 [.ref 151, .int a1, .int w4] s33) (fun w39 s40 => if ¬ w39 = (0 : Int32) then L_X12_choices_499 en d (0 : Int32) (1 : Int32) s40 else L_X12_choices_499 en d (1 : Int32) (1 : Int32) s40))), bI (qev en d 310 [.ref 151, .int a1] s5) (fun w43 s44 => if w43 = (0 : Int32) then L_X12_choices_499 en d (0 : Int32) (1 : Int32) s44 else if ¬ (s44.1 151 58) = (2 : Int32) then L_X12_choices_499 en d (1 : Int32) (1 : Int32) s44 else gd (p_inB ((52 : Int32) + z8) 216 = true) (if (9 : Int32) ≤ (s44.1 187 ((52 : Int32) + z8).toNatClampNeg) then L_X12_choices_499 en d (0 : Int32) (1 : Int32) s44 else L_X12_choices_499 en d (1 : Int32) (1 : Int32) s44)), bI (qev en d 310 [.ref 151, .int a1] s5) (fun w50 s51 => if w50 = (0 : Int32) then L_X12_choices_499 en d (0 : Int32) (1 : Int32) s51 else gd (p_inB ((36 : Int32) + z8) 216 = true) (if (s51.1 187 ((36 : Int32) + z8).toNatClampNeg) = (0 : Int32) then L_X12_choices_499 en d (1 : Int32) (1 : Int32) s51 else if ¬ (s51.1 187 ((36 : Int32) + z8).toNatClampNeg) = (a1 + (1 : Int32)) then L_X12_choices_499 en d (0 : Int32) (1 : Int32) s51 else L_X12_choices_499 en d (1 : Int32) (1 : Int32) s51)), L_X12_choices_451 en d a1 (1 : Int32) s5, L_X12_choices_451 en d a1 (1 : Int32) s5, bI (qev en d 310 [.ref 151, .int a1] s5) (fun w57 s58 => bI (qev en d 311 [.ref 151, .int z8] s58) (fun w60 s61 => gd (p_inB ((36 : Int32) + z8) 216 = true) (if ¬ (s61.1 187 ((36 : Int32) + z8).toNatClampNeg) = (a1 + (1 : Int32)) then L_X12_choices_499 en d w57 (1 : Int32) s61 else if w60 ≤ (1 : Int32) then L_X12_choices_499 en d w57 (1 : Int32) s61 else L_X12_choices_499 en d w57 w60 s61))), L_X12_choices_451 en d a1 (1 : Int32) s5, L_X12_choices_451 en d a1 (1 : Int32) s5, gd (p_inB ((0 : Int32) + z8) 216 = true) (if ¬ (s5.1 187 ((0 : Int32) + z8).toNatClampNeg) = (4 : Int32) then L_X12_choices_499 en d (0 : Int32) (1 : Int32) s5 else bI (qev en d 310 [.ref 151, .int a1] s5) (fun w68 s69 => if w68 = (0 : Int32) then L_X12_choices_499 en d (0 : Int32) (1 : Int32) s69 else bI (qev en d 310 [.ref 151, .int z8] s69) (fun w72 s73 => if w72 = (0 : Int32) then L_X12_choices_499 en d (0 : Int32) (1 : Int32) s73 else L_X12_choices_499 en d (1 : Int32) (1 : Int32) s73))), L_X12_choices_451 en d a1 (1 : Int32) s5] (L_X12_choices_499 en d (1 : Int32) (1 : Int32) s5)))) else some (some (.int (0 : Int32)), s) else bI (qev en d 303 [.ref 151, .int a1] s) (fun w76 s77 => gd (p_inB w76 400 = true) (gd (p_inB ((36 : Int32) + (s77.1 166 w76.toNatClampNeg)) 216 = true) (if ¬ (s77.1 187 ((36 : Int32) + (s77.1 166 w76.toNatClampNeg)).toNatClampNeg) = (0 : Int32) then some (some (.int (0 : Int32)), s77) else bI (qev en d 310 [.ref 151, .int a1] s77) (fun w82 s83 => if w82 = (0 : Int32) then some (some (.int (0 : Int32)), s83) else some (some (.int (1 : Int32)), s83))))))) (qev en (d + 1) 312 [.ref 151, .int a1] s) := by
  refine e_enter ix_X12_choices (Nat.le_of_ble_eq_true rfl) ?_
  show qle _ (qE (qev en d) en (some .int) tb_X12_choices (0, [(0, .ref 151), (1, .int a1)], []) s)
  refine e_L 1 (f' := (1, [(0, .ref 151), (1, .int a1)], [.ref 151])) rfl ?_
  refine e_gR (q := 187) 12 57 rfl rfl lc_151 lr_151_57 ?_
  refine e_L 3 (f' := (7, [(0, .ref 151), (1, .int a1)], [.int ((0 : Int32) + a1), .ref 187])) rfl ?_
  refine qle_gd fun h1 => ?_
  refine e_ial (n := 216) (k := ((0 : Int32) + a1).toNatClampNeg) rfl lc_187 ln_187 h1 rfl ?_
  refine e_L 1 (f' := (9, [(0, .ref 151), (1, .int a1)], [.int (3 : Int32), .int (s.1 187 ((0 : Int32) + a1).toNatClampNeg)])) rfl ?_
  refine e_icmp 47 rfl rfl rfl (fun c2 => ?_) (fun c2 => ?_)
  · refine e_L 1 (f' := (48, [(0, .ref 151), (1, .int a1)], [.ref 151])) rfl ?_
    refine e_gR (q := 187) 12 57 rfl rfl lc_151 lr_151_57 ?_
    refine e_L 3 (f' := (54, [(0, .ref 151), (1, .int a1)], [.int ((0 : Int32) + a1), .ref 187])) rfl ?_
    refine e_ial (n := 216) (k := ((0 : Int32) + a1).toNatClampNeg) rfl lc_187 ln_187 h1 rfl ?_
    refine e_L 1 (f' := (56, [(0, .ref 151), (1, .int a1)], [.int (1 : Int32), .int (s.1 187 ((0 : Int32) + a1).toNatClampNeg)])) rfl ?_
    refine e_icmp 61 rfl rfl rfl (fun c3 => ?_) (fun c3 => ?_)
    · refine e_L 2 (f' := (63, [(0, .ref 151), (1, .int a1)], [.int a1, .ref 151])) rfl ?_
      refine e_vI 303 rfl rfl ix_X12_lineOf rfl (q_recvOf lc_151 rfl) (Nat.le_of_ble_eq_true rfl) (fun w4 s5 e6 => ?_)
      refine e_L 2 (f' := (68, [(2, .int w4), (0, .ref 151), (1, .int a1)], [.ref 151])) rfl ?_
      refine e_gR (q := 166) 12 35 rfl rfl lc_151 lr_151_35 ?_
      refine e_L 1 (f' := (72, [(2, .int w4), (0, .ref 151), (1, .int a1)], [.int w4, .ref 166])) rfl ?_
      refine qle_gd fun h7 => ?_
      refine e_ial (n := 400) (k := w4.toNatClampNeg) rfl lc_166 ln_166 h7 rfl ?_
      refine e_nI fun z8 => ?_
      refine e_L 6 (f' := (81, [(5, .int (1 : Int32)), (4, .int (1 : Int32)), (3, .int z8), (2, .int w4), (0, .ref 151), (1, .int a1)], [.ref 151])) rfl ?_
      refine e_gR (q := 164) 12 33 rfl rfl lc_151 lr_151_33 ?_
      refine e_L 1 (f' := (85, [(5, .int (1 : Int32)), (4, .int (1 : Int32)), (3, .int z8), (2, .int w4), (0, .ref 151), (1, .int a1)], [.int w4, .ref 164])) rfl ?_
      refine e_ial (n := 400) (k := w4.toNatClampNeg) rfl lc_164 ln_164 h7 rfl ?_
      refine e_tsw rfl (by decide) ⟨?_, ?_, ?_, ?_, ?_, ?_, ?_, ?_, ?_, ?_, ?_, ?_, trivial⟩ ?_
      · refine e_L 1 (f' := (149, [(5, .int (1 : Int32)), (4, .int (1 : Int32)), (3, .int z8), (2, .int w4), (0, .ref 151), (1, .int a1)], [.ref 151])) rfl ?_
        refine e_gI 12 58 rfl rfl lc_151 ?_
        refine e_L 1 (f' := (153, [(5, .int (1 : Int32)), (4, .int (1 : Int32)), (3, .int z8), (2, .int w4), (0, .ref 151), (1, .int a1)], [.int (2 : Int32), .int (s5.1 151 58)])) rfl ?_
        refine e_icmp 190 rfl rfl rfl (fun c9 => ?_) (fun c9 => ?_)
        · refine e_L 3 (f' := (499, [(5, .int (1 : Int32)), (4, .int (1 : Int32)), (3, .int z8), (2, .int w4), (0, .ref 151), (1, .int a1)], [])) rfl ?_
          exact qE_sub (qsubL [1, 0] rfl (ks := [5, 4, 3, 2, 0, 1]) rfl (by decide))
        · refine e_L 1 (f' := (157, [(5, .int (1 : Int32)), (4, .int (1 : Int32)), (3, .int z8), (2, .int w4), (0, .ref 151), (1, .int a1)], [.ref 151])) rfl ?_
          refine e_gR (q := 155) 12 15 rfl rfl lc_151 lr_151_15 ?_
          refine e_L 1 (f' := (161, [(5, .int (1 : Int32)), (4, .int (1 : Int32)), (3, .int z8), (2, .int w4), (0, .ref 151), (1, .int a1)], [.int z8, .ref 155])) rfl ?_
          refine qle_gd fun h10 => ?_
          refine e_bal (n := 8) (k := z8.toNatClampNeg) rfl (Or.inl lc_155) ln_155 h10 rfl ?_
          refine e_ifz 190 rfl rfl rfl (fun c11 => ?_) (fun c11 => ?_)
          · refine e_L 3 (f' := (499, [(5, .int (1 : Int32)), (4, .int (1 : Int32)), (3, .int z8), (2, .int w4), (0, .ref 151), (1, .int a1)], [])) rfl ?_
            exact qE_sub (qsubL [1, 0] rfl (ks := [5, 4, 3, 2, 0, 1]) rfl (by decide))
          · refine e_L 2 (f' := (167, [(5, .int (1 : Int32)), (4, .int (1 : Int32)), (3, .int z8), (2, .int w4), (0, .ref 151), (1, .int a1)], [.int z8, .ref 151])) rfl ?_
            refine e_vI 307 rfl rfl ix_X12_lastWrite rfl (q_recvOf lc_151 rfl) (Nat.le_of_ble_eq_true rfl) (fun w12 s13 e14 => ?_)
            refine e_L 1 (f' := (171, [(5, .int (1 : Int32)), (4, .int (1 : Int32)), (3, .int z8), (2, .int w4), (0, .ref 151), (1, .int a1)], [.ref 151, .int w12])) rfl ?_
            refine e_gR (q := 187) 12 57 rfl rfl lc_151 lr_151_57 ?_
            refine e_L 3 (f' := (179, [(5, .int (1 : Int32)), (4, .int (1 : Int32)), (3, .int z8), (2, .int w4), (0, .ref 151), (1, .int a1)], [.int ((204 : Int32) + a1), .ref 187, .int w12])) rfl ?_
            refine qle_gd fun h15 => ?_
            refine e_ial (n := 216) (k := ((204 : Int32) + a1).toNatClampNeg) rfl lc_187 ln_187 h15 rfl ?_
            refine e_L 1 (f' := (181, [(5, .int (1 : Int32)), (4, .int (1 : Int32)), (3, .int z8), (2, .int w4), (0, .ref 151), (1, .int a1)], [.int z8, .int (s13.1 187 ((204 : Int32) + a1).toNatClampNeg), .int w12])) rfl ?_
            refine e_sI 304 rfl rfl rfl ix_X12_viewOf rfl (Nat.le_of_ble_eq_true rfl) (fun w16 s17 e18 => ?_)
            refine e_L 4 (f' := (191, [(5, .int (1 : Int32)), (4, .int (1 : Int32)), (3, .int z8), (2, .int w4), (0, .ref 151), (1, .int a1)], [.int ((w12 - w16) + (1 : Int32))])) rfl ?_
            refine e_nI fun z19 => ?_
            refine e_L 2 (f' := (499, [(5, .int z19), (4, .int (1 : Int32)), (3, .int z8), (2, .int w4), (0, .ref 151), (1, .int a1)], [])) rfl ?_
            exact qE_sub (qsubL [1, 0] rfl (ks := [5, 4, 3, 2, 0, 1]) rfl (by decide))
      · refine e_L 1 (f' := (197, [(5, .int (1 : Int32)), (4, .int (1 : Int32)), (3, .int z8), (2, .int w4), (0, .ref 151), (1, .int a1)], [.ref 151])) rfl ?_
        refine e_gI 12 58 rfl rfl lc_151 ?_
        refine e_ifz 261 rfl rfl rfl (fun c20 => ?_) (fun c20 => ?_)
        · refine e_L 4 (f' := (499, [(4, .int (1 : Int32)), (5, .int (1 : Int32)), (3, .int z8), (2, .int w4), (0, .ref 151), (1, .int a1)], [])) rfl ?_
          exact qE_sub (qsubL [0, 1] rfl (ks := [4, 5, 3, 2, 0, 1]) rfl (by decide))
        · refine e_L 1 (f' := (204, [(5, .int (1 : Int32)), (4, .int (1 : Int32)), (3, .int z8), (2, .int w4), (0, .ref 151), (1, .int a1)], [.ref 151])) rfl ?_
          refine e_gI 12 58 rfl rfl lc_151 ?_
          refine e_L 1 (f' := (208, [(5, .int (1 : Int32)), (4, .int (1 : Int32)), (3, .int z8), (2, .int w4), (0, .ref 151), (1, .int a1)], [.int (1 : Int32), .int (s5.1 151 58)])) rfl ?_
          refine e_icmp 247 rfl rfl rfl (fun c21 => ?_) (fun c21 => ?_)
          · refine e_L 1 (f' := (248, [(5, .int (1 : Int32)), (4, .int (1 : Int32)), (3, .int z8), (2, .int w4), (0, .ref 151), (1, .int a1)], [.ref 151])) rfl ?_
            refine e_gR (q := 187) 12 57 rfl rfl lc_151 lr_151_57 ?_
            refine e_L 3 (f' := (255, [(5, .int (1 : Int32)), (4, .int (1 : Int32)), (3, .int z8), (2, .int w4), (0, .ref 151), (1, .int a1)], [.int ((52 : Int32) + z8), .ref 187])) rfl ?_
            refine qle_gd fun h22 => ?_
            refine e_ial (n := 216) (k := ((52 : Int32) + z8).toNatClampNeg) rfl lc_187 ln_187 h22 rfl ?_
            refine e_L 1 (f' := (258, [(5, .int (1 : Int32)), (4, .int (1 : Int32)), (3, .int z8), (2, .int w4), (0, .ref 151), (1, .int a1)], [.int (9 : Int32), .int (s5.1 187 ((52 : Int32) + z8).toNatClampNeg)])) rfl ?_
            refine e_icmp 265 rfl rfl rfl (fun c23 => ?_) (fun c23 => ?_)
            · refine e_L 3 (f' := (499, [(4, .int (0 : Int32)), (5, .int (1 : Int32)), (3, .int z8), (2, .int w4), (0, .ref 151), (1, .int a1)], [])) rfl ?_
              exact qE_sub (qsubL [0, 1] rfl (ks := [4, 5, 3, 2, 0, 1]) rfl (by decide))
            · refine e_L 4 (f' := (499, [(4, .int (1 : Int32)), (5, .int (1 : Int32)), (3, .int z8), (2, .int w4), (0, .ref 151), (1, .int a1)], [])) rfl ?_
              exact qE_sub (qsubL [0, 1] rfl (ks := [4, 5, 3, 2, 0, 1]) rfl (by decide))
          · refine e_L 1 (f' := (212, [(5, .int (1 : Int32)), (4, .int (1 : Int32)), (3, .int z8), (2, .int w4), (0, .ref 151), (1, .int a1)], [.ref 151])) rfl ?_
            refine e_gR (q := 155) 12 15 rfl rfl lc_151 lr_151_15 ?_
            refine e_L 1 (f' := (216, [(5, .int (1 : Int32)), (4, .int (1 : Int32)), (3, .int z8), (2, .int w4), (0, .ref 151), (1, .int a1)], [.int z8, .ref 155])) rfl ?_
            refine qle_gd fun h24 => ?_
            refine e_bal (n := 8) (k := z8.toNatClampNeg) rfl (Or.inl lc_155) ln_155 h24 rfl ?_
            refine e_ifz 231 rfl rfl rfl (fun c25 => ?_) (fun c25 => ?_)
            · refine e_L 1 (f' := (232, [(5, .int (1 : Int32)), (4, .int (1 : Int32)), (3, .int z8), (2, .int w4), (0, .ref 151), (1, .int a1)], [.ref 151])) rfl ?_
              refine e_gR (q := 187) 12 57 rfl rfl lc_151 lr_151_57 ?_
              refine e_L 3 (f' := (239, [(5, .int (1 : Int32)), (4, .int (1 : Int32)), (3, .int z8), (2, .int w4), (0, .ref 151), (1, .int a1)], [.int ((52 : Int32) + a1), .ref 187])) rfl ?_
              refine qle_gd fun h26 => ?_
              refine e_ial (n := 216) (k := ((52 : Int32) + a1).toNatClampNeg) rfl lc_187 ln_187 h26 rfl ?_
              refine e_L 1 (f' := (241, [(5, .int (1 : Int32)), (4, .int (1 : Int32)), (3, .int z8), (2, .int w4), (0, .ref 151), (1, .int a1)], [.int (3 : Int32), .int (s5.1 187 ((52 : Int32) + a1).toNatClampNeg)])) rfl ?_
              refine e_icmp 265 rfl rfl rfl (fun c27 => ?_) (fun c27 => ?_)
              · refine e_L 3 (f' := (499, [(4, .int (0 : Int32)), (5, .int (1 : Int32)), (3, .int z8), (2, .int w4), (0, .ref 151), (1, .int a1)], [])) rfl ?_
                exact qE_sub (qsubL [0, 1] rfl (ks := [4, 5, 3, 2, 0, 1]) rfl (by decide))
              · refine e_L 5 (f' := (499, [(4, .int (1 : Int32)), (5, .int (1 : Int32)), (3, .int z8), (2, .int w4), (0, .ref 151), (1, .int a1)], [])) rfl ?_
                exact qE_sub (qsubL [0, 1] rfl (ks := [4, 5, 3, 2, 0, 1]) rfl (by decide))
            · refine e_L 2 (f' := (222, [(5, .int (1 : Int32)), (4, .int (1 : Int32)), (3, .int z8), (2, .int w4), (0, .ref 151), (1, .int a1)], [.int a1, .ref 151])) rfl ?_
              refine e_vI 310 rfl rfl ix_X12_isEmpty rfl (q_recvOf lc_151 rfl) (Nat.le_of_ble_eq_true rfl) (fun w28 s29 e30 => ?_)
              refine e_ifz 265 rfl rfl rfl (fun c31 => ?_) (fun c31 => ?_)
              · refine e_L 3 (f' := (499, [(4, .int (0 : Int32)), (5, .int (1 : Int32)), (3, .int z8), (2, .int w4), (0, .ref 151), (1, .int a1)], [])) rfl ?_
                exact qE_sub (qsubL [0, 1] rfl (ks := [4, 5, 3, 2, 0, 1]) rfl (by decide))
              · refine e_L 5 (f' := (499, [(4, .int (1 : Int32)), (5, .int (1 : Int32)), (3, .int z8), (2, .int w4), (0, .ref 151), (1, .int a1)], [])) rfl ?_
                exact qE_sub (qsubL [0, 1] rfl (ks := [4, 5, 3, 2, 0, 1]) rfl (by decide))
      · refine e_L 2 (f' := (313, [(5, .int (1 : Int32)), (4, .int (1 : Int32)), (3, .int z8), (2, .int w4), (0, .ref 151), (1, .int a1)], [.int a1, .ref 151])) rfl ?_
        refine e_vI 310 rfl rfl ix_X12_isEmpty rfl (q_recvOf lc_151 rfl) (Nat.le_of_ble_eq_true rfl) (fun w32 s33 e34 => ?_)
        refine e_ifz 354 rfl rfl rfl (fun c35 => ?_) (fun c35 => ?_)
        · refine e_L 3 (f' := (499, [(4, .int (0 : Int32)), (5, .int (1 : Int32)), (3, .int z8), (2, .int w4), (0, .ref 151), (1, .int a1)], [])) rfl ?_
          exact qE_sub (qsubL [0, 1] rfl (ks := [4, 5, 3, 2, 0, 1]) rfl (by decide))
        · refine e_L 1 (f' := (320, [(5, .int (1 : Int32)), (4, .int (1 : Int32)), (3, .int z8), (2, .int w4), (0, .ref 151), (1, .int a1)], [.ref 151])) rfl ?_
          refine e_gI 12 58 rfl rfl lc_151 ?_
          refine e_L 1 (f' := (324, [(5, .int (1 : Int32)), (4, .int (1 : Int32)), (3, .int z8), (2, .int w4), (0, .ref 151), (1, .int a1)], [.int (2 : Int32), .int (s33.1 151 58)])) rfl ?_
          refine e_icmp 350 rfl rfl rfl (fun c36 => ?_) (fun c36 => ?_)
          · refine e_L 4 (f' := (499, [(4, .int (1 : Int32)), (5, .int (1 : Int32)), (3, .int z8), (2, .int w4), (0, .ref 151), (1, .int a1)], [])) rfl ?_
            exact qE_sub (qsubL [0, 1] rfl (ks := [4, 5, 3, 2, 0, 1]) rfl (by decide))
          · refine e_L 1 (f' := (328, [(5, .int (1 : Int32)), (4, .int (1 : Int32)), (3, .int z8), (2, .int w4), (0, .ref 151), (1, .int a1)], [.ref 151])) rfl ?_
            refine e_gR (q := 187) 12 57 rfl rfl lc_151 lr_151_57 ?_
            refine e_L 3 (f' := (335, [(5, .int (1 : Int32)), (4, .int (1 : Int32)), (3, .int z8), (2, .int w4), (0, .ref 151), (1, .int a1)], [.int ((52 : Int32) + z8), .ref 187])) rfl ?_
            refine qle_gd fun h37 => ?_
            refine e_ial (n := 216) (k := ((52 : Int32) + z8).toNatClampNeg) rfl lc_187 ln_187 h37 rfl ?_
            refine e_L 1 (f' := (338, [(5, .int (1 : Int32)), (4, .int (1 : Int32)), (3, .int z8), (2, .int w4), (0, .ref 151), (1, .int a1)], [.int (9 : Int32), .int (s33.1 187 ((52 : Int32) + z8).toNatClampNeg)])) rfl ?_
            refine e_icmp 350 rfl rfl rfl (fun c38 => ?_) (fun c38 => ?_)
            · refine e_L 4 (f' := (499, [(4, .int (1 : Int32)), (5, .int (1 : Int32)), (3, .int z8), (2, .int w4), (0, .ref 151), (1, .int a1)], [])) rfl ?_
              exact qE_sub (qsubL [0, 1] rfl (ks := [4, 5, 3, 2, 0, 1]) rfl (by decide))
            · refine e_L 3 (f' := (344, [(5, .int (1 : Int32)), (4, .int (1 : Int32)), (3, .int z8), (2, .int w4), (0, .ref 151), (1, .int a1)], [.int w4, .int a1, .ref 151])) rfl ?_
              refine e_vI 313 rfl rfl ix_X12_wouldWrite rfl (q_recvOf lc_151 rfl) (Nat.le_of_ble_eq_true rfl) (fun w39 s40 e41 => ?_)
              refine e_ifz 354 rfl rfl rfl (fun c42 => ?_) (fun c42 => ?_)
              · refine e_L 3 (f' := (499, [(4, .int (0 : Int32)), (5, .int (1 : Int32)), (3, .int z8), (2, .int w4), (0, .ref 151), (1, .int a1)], [])) rfl ?_
                exact qE_sub (qsubL [0, 1] rfl (ks := [4, 5, 3, 2, 0, 1]) rfl (by decide))
              · refine e_L 4 (f' := (499, [(4, .int (1 : Int32)), (5, .int (1 : Int32)), (3, .int z8), (2, .int w4), (0, .ref 151), (1, .int a1)], [])) rfl ?_
                exact qE_sub (qsubL [0, 1] rfl (ks := [4, 5, 3, 2, 0, 1]) rfl (by decide))
      · refine e_L 2 (f' := (273, [(5, .int (1 : Int32)), (4, .int (1 : Int32)), (3, .int z8), (2, .int w4), (0, .ref 151), (1, .int a1)], [.int a1, .ref 151])) rfl ?_
        refine e_vI 310 rfl rfl ix_X12_isEmpty rfl (q_recvOf lc_151 rfl) (Nat.le_of_ble_eq_true rfl) (fun w43 s44 e45 => ?_)
        refine e_ifz 305 rfl rfl rfl (fun c46 => ?_) (fun c46 => ?_)
        · refine e_L 3 (f' := (499, [(4, .int (0 : Int32)), (5, .int (1 : Int32)), (3, .int z8), (2, .int w4), (0, .ref 151), (1, .int a1)], [])) rfl ?_
          exact qE_sub (qsubL [0, 1] rfl (ks := [4, 5, 3, 2, 0, 1]) rfl (by decide))
        · refine e_L 1 (f' := (280, [(5, .int (1 : Int32)), (4, .int (1 : Int32)), (3, .int z8), (2, .int w4), (0, .ref 151), (1, .int a1)], [.ref 151])) rfl ?_
          refine e_gI 12 58 rfl rfl lc_151 ?_
          refine e_L 1 (f' := (284, [(5, .int (1 : Int32)), (4, .int (1 : Int32)), (3, .int z8), (2, .int w4), (0, .ref 151), (1, .int a1)], [.int (2 : Int32), .int (s44.1 151 58)])) rfl ?_
          refine e_icmp 301 rfl rfl rfl (fun c47 => ?_) (fun c47 => ?_)
          · refine e_L 4 (f' := (499, [(4, .int (1 : Int32)), (5, .int (1 : Int32)), (3, .int z8), (2, .int w4), (0, .ref 151), (1, .int a1)], [])) rfl ?_
            exact qE_sub (qsubL [0, 1] rfl (ks := [4, 5, 3, 2, 0, 1]) rfl (by decide))
          · refine e_L 1 (f' := (288, [(5, .int (1 : Int32)), (4, .int (1 : Int32)), (3, .int z8), (2, .int w4), (0, .ref 151), (1, .int a1)], [.ref 151])) rfl ?_
            refine e_gR (q := 187) 12 57 rfl rfl lc_151 lr_151_57 ?_
            refine e_L 3 (f' := (295, [(5, .int (1 : Int32)), (4, .int (1 : Int32)), (3, .int z8), (2, .int w4), (0, .ref 151), (1, .int a1)], [.int ((52 : Int32) + z8), .ref 187])) rfl ?_
            refine qle_gd fun h48 => ?_
            refine e_ial (n := 216) (k := ((52 : Int32) + z8).toNatClampNeg) rfl lc_187 ln_187 h48 rfl ?_
            refine e_L 1 (f' := (298, [(5, .int (1 : Int32)), (4, .int (1 : Int32)), (3, .int z8), (2, .int w4), (0, .ref 151), (1, .int a1)], [.int (9 : Int32), .int (s44.1 187 ((52 : Int32) + z8).toNatClampNeg)])) rfl ?_
            refine e_icmp 305 rfl rfl rfl (fun c49 => ?_) (fun c49 => ?_)
            · refine e_L 3 (f' := (499, [(4, .int (0 : Int32)), (5, .int (1 : Int32)), (3, .int z8), (2, .int w4), (0, .ref 151), (1, .int a1)], [])) rfl ?_
              exact qE_sub (qsubL [0, 1] rfl (ks := [4, 5, 3, 2, 0, 1]) rfl (by decide))
            · refine e_L 4 (f' := (499, [(4, .int (1 : Int32)), (5, .int (1 : Int32)), (3, .int z8), (2, .int w4), (0, .ref 151), (1, .int a1)], [])) rfl ?_
              exact qE_sub (qsubL [0, 1] rfl (ks := [4, 5, 3, 2, 0, 1]) rfl (by decide))
      · refine e_L 2 (f' := (362, [(5, .int (1 : Int32)), (4, .int (1 : Int32)), (3, .int z8), (2, .int w4), (0, .ref 151), (1, .int a1)], [.int a1, .ref 151])) rfl ?_
        refine e_vI 310 rfl rfl ix_X12_isEmpty rfl (q_recvOf lc_151 rfl) (Nat.le_of_ble_eq_true rfl) (fun w50 s51 e52 => ?_)
        refine e_ifz 399 rfl rfl rfl (fun c53 => ?_) (fun c53 => ?_)
        · refine e_L 3 (f' := (499, [(4, .int (0 : Int32)), (5, .int (1 : Int32)), (3, .int z8), (2, .int w4), (0, .ref 151), (1, .int a1)], [])) rfl ?_
          exact qE_sub (qsubL [0, 1] rfl (ks := [4, 5, 3, 2, 0, 1]) rfl (by decide))
        · refine e_L 1 (f' := (369, [(5, .int (1 : Int32)), (4, .int (1 : Int32)), (3, .int z8), (2, .int w4), (0, .ref 151), (1, .int a1)], [.ref 151])) rfl ?_
          refine e_gR (q := 187) 12 57 rfl rfl lc_151 lr_151_57 ?_
          refine e_L 3 (f' := (376, [(5, .int (1 : Int32)), (4, .int (1 : Int32)), (3, .int z8), (2, .int w4), (0, .ref 151), (1, .int a1)], [.int ((36 : Int32) + z8), .ref 187])) rfl ?_
          refine qle_gd fun h54 => ?_
          refine e_ial (n := 216) (k := ((36 : Int32) + z8).toNatClampNeg) rfl lc_187 ln_187 h54 rfl ?_
          refine e_ifz 395 rfl rfl rfl (fun c55 => ?_) (fun c55 => ?_)
          · refine e_L 4 (f' := (499, [(4, .int (1 : Int32)), (5, .int (1 : Int32)), (3, .int z8), (2, .int w4), (0, .ref 151), (1, .int a1)], [])) rfl ?_
            exact qE_sub (qsubL [0, 1] rfl (ks := [4, 5, 3, 2, 0, 1]) rfl (by decide))
          · refine e_L 1 (f' := (381, [(5, .int (1 : Int32)), (4, .int (1 : Int32)), (3, .int z8), (2, .int w4), (0, .ref 151), (1, .int a1)], [.ref 151])) rfl ?_
            refine e_gR (q := 187) 12 57 rfl rfl lc_151 lr_151_57 ?_
            refine e_L 3 (f' := (388, [(5, .int (1 : Int32)), (4, .int (1 : Int32)), (3, .int z8), (2, .int w4), (0, .ref 151), (1, .int a1)], [.int ((36 : Int32) + z8), .ref 187])) rfl ?_
            refine e_ial (n := 216) (k := ((36 : Int32) + z8).toNatClampNeg) rfl lc_187 ln_187 h54 rfl ?_
            refine e_L 3 (f' := (392, [(5, .int (1 : Int32)), (4, .int (1 : Int32)), (3, .int z8), (2, .int w4), (0, .ref 151), (1, .int a1)], [.int (a1 + (1 : Int32)), .int (s51.1 187 ((36 : Int32) + z8).toNatClampNeg)])) rfl ?_
            refine e_icmp 399 rfl rfl rfl (fun c56 => ?_) (fun c56 => ?_)
            · refine e_L 3 (f' := (499, [(4, .int (0 : Int32)), (5, .int (1 : Int32)), (3, .int z8), (2, .int w4), (0, .ref 151), (1, .int a1)], [])) rfl ?_
              exact qE_sub (qsubL [0, 1] rfl (ks := [4, 5, 3, 2, 0, 1]) rfl (by decide))
            · refine e_L 4 (f' := (499, [(4, .int (1 : Int32)), (5, .int (1 : Int32)), (3, .int z8), (2, .int w4), (0, .ref 151), (1, .int a1)], [])) rfl ?_
              exact qE_sub (qsubL [0, 1] rfl (ks := [4, 5, 3, 2, 0, 1]) rfl (by decide))
      · exact qE_sub (qsubL [4, 5, 0] rfl (ks := [5, 4, 3, 2, 0, 1]) rfl (by decide))
      · exact qE_sub (qsubL [4, 5, 0] rfl (ks := [5, 4, 3, 2, 0, 1]) rfl (by decide))
      · refine e_L 2 (f' := (407, [(5, .int (1 : Int32)), (4, .int (1 : Int32)), (3, .int z8), (2, .int w4), (0, .ref 151), (1, .int a1)], [.int a1, .ref 151])) rfl ?_
        refine e_vI 310 rfl rfl ix_X12_isEmpty rfl (q_recvOf lc_151 rfl) (Nat.le_of_ble_eq_true rfl) (fun w57 s58 e59 => ?_)
        refine e_L 3 (f' := (414, [(4, .int w57), (5, .int (1 : Int32)), (3, .int z8), (2, .int w4), (0, .ref 151), (1, .int a1)], [.int z8, .ref 151])) rfl ?_
        refine e_vI 311 rfl rfl ix_X12_waitingFor rfl (q_recvOf lc_151 rfl) (Nat.le_of_ble_eq_true rfl) (fun w60 s61 e62 => ?_)
        refine e_L 2 (f' := (420, [(6, .int w60), (4, .int w57), (5, .int (1 : Int32)), (3, .int z8), (2, .int w4), (0, .ref 151), (1, .int a1)], [.ref 151])) rfl ?_
        refine e_gR (q := 187) 12 57 rfl rfl lc_151 lr_151_57 ?_
        refine e_L 3 (f' := (427, [(6, .int w60), (4, .int w57), (5, .int (1 : Int32)), (3, .int z8), (2, .int w4), (0, .ref 151), (1, .int a1)], [.int ((36 : Int32) + z8), .ref 187])) rfl ?_
        refine qle_gd fun h63 => ?_
        refine e_ial (n := 216) (k := ((36 : Int32) + z8).toNatClampNeg) rfl lc_187 ln_187 h63 rfl ?_
        refine e_L 3 (f' := (431, [(6, .int w60), (4, .int w57), (5, .int (1 : Int32)), (3, .int z8), (2, .int w4), (0, .ref 151), (1, .int a1)], [.int (a1 + (1 : Int32)), .int (s61.1 187 ((36 : Int32) + z8).toNatClampNeg)])) rfl ?_
        refine e_icmp 445 rfl rfl rfl (fun c64 => ?_) (fun c64 => ?_)
        · refine e_L 3 (f' := (499, [(5, .int (1 : Int32)), (6, .int w60), (4, .int w57), (3, .int z8), (2, .int w4), (0, .ref 151), (1, .int a1)], [])) rfl ?_
          exact qE_sub (qsubL [2, 0] rfl (ks := [5, 6, 4, 3, 2, 0, 1]) rfl (by decide))
        · refine e_L 2 (f' := (437, [(6, .int w60), (4, .int w57), (5, .int (1 : Int32)), (3, .int z8), (2, .int w4), (0, .ref 151), (1, .int a1)], [.int (1 : Int32), .int w60])) rfl ?_
          refine e_icmp 445 rfl rfl rfl (fun c65 => ?_) (fun c65 => ?_)
          · refine e_L 3 (f' := (499, [(5, .int (1 : Int32)), (6, .int w60), (4, .int w57), (3, .int z8), (2, .int w4), (0, .ref 151), (1, .int a1)], [])) rfl ?_
            exact qE_sub (qsubL [2, 0] rfl (ks := [5, 6, 4, 3, 2, 0, 1]) rfl (by decide))
          · refine e_L 4 (f' := (499, [(5, .int w60), (6, .int w60), (4, .int w57), (3, .int z8), (2, .int w4), (0, .ref 151), (1, .int a1)], [])) rfl ?_
            exact qE_sub (qsubL [2, 0] rfl (ks := [5, 6, 4, 3, 2, 0, 1]) rfl (by decide))
      · exact qE_sub (qsubL [4, 5, 0] rfl (ks := [5, 4, 3, 2, 0, 1]) rfl (by decide))
      · exact qE_sub (qsubL [4, 5, 0] rfl (ks := [5, 4, 3, 2, 0, 1]) rfl (by decide))
      · refine e_L 1 (f' := (462, [(5, .int (1 : Int32)), (4, .int (1 : Int32)), (3, .int z8), (2, .int w4), (0, .ref 151), (1, .int a1)], [.ref 151])) rfl ?_
        refine e_gR (q := 187) 12 57 rfl rfl lc_151 lr_151_57 ?_
        refine e_L 3 (f' := (468, [(5, .int (1 : Int32)), (4, .int (1 : Int32)), (3, .int z8), (2, .int w4), (0, .ref 151), (1, .int a1)], [.int ((0 : Int32) + z8), .ref 187])) rfl ?_
        refine qle_gd fun h66 => ?_
        refine e_ial (n := 216) (k := ((0 : Int32) + z8).toNatClampNeg) rfl lc_187 ln_187 h66 rfl ?_
        refine e_L 1 (f' := (470, [(5, .int (1 : Int32)), (4, .int (1 : Int32)), (3, .int z8), (2, .int w4), (0, .ref 151), (1, .int a1)], [.int (4 : Int32), .int (s5.1 187 ((0 : Int32) + z8).toNatClampNeg)])) rfl ?_
        refine e_icmp 493 rfl rfl rfl (fun c67 => ?_) (fun c67 => ?_)
        · refine e_L 3 (f' := (499, [(4, .int (0 : Int32)), (5, .int (1 : Int32)), (3, .int z8), (2, .int w4), (0, .ref 151), (1, .int a1)], [])) rfl ?_
          exact qE_sub (qsubL [0, 1] rfl (ks := [4, 5, 3, 2, 0, 1]) rfl (by decide))
        · refine e_L 2 (f' := (475, [(5, .int (1 : Int32)), (4, .int (1 : Int32)), (3, .int z8), (2, .int w4), (0, .ref 151), (1, .int a1)], [.int a1, .ref 151])) rfl ?_
          refine e_vI 310 rfl rfl ix_X12_isEmpty rfl (q_recvOf lc_151 rfl) (Nat.le_of_ble_eq_true rfl) (fun w68 s69 e70 => ?_)
          refine e_ifz 493 rfl rfl rfl (fun c71 => ?_) (fun c71 => ?_)
          · refine e_L 3 (f' := (499, [(4, .int (0 : Int32)), (5, .int (1 : Int32)), (3, .int z8), (2, .int w4), (0, .ref 151), (1, .int a1)], [])) rfl ?_
            exact qE_sub (qsubL [0, 1] rfl (ks := [4, 5, 3, 2, 0, 1]) rfl (by decide))
          · refine e_L 2 (f' := (483, [(5, .int (1 : Int32)), (4, .int (1 : Int32)), (3, .int z8), (2, .int w4), (0, .ref 151), (1, .int a1)], [.int z8, .ref 151])) rfl ?_
            refine e_vI 310 rfl rfl ix_X12_isEmpty rfl (q_recvOf lc_151 rfl) (Nat.le_of_ble_eq_true rfl) (fun w72 s73 e74 => ?_)
            refine e_ifz 493 rfl rfl rfl (fun c75 => ?_) (fun c75 => ?_)
            · refine e_L 3 (f' := (499, [(4, .int (0 : Int32)), (5, .int (1 : Int32)), (3, .int z8), (2, .int w4), (0, .ref 151), (1, .int a1)], [])) rfl ?_
              exact qE_sub (qsubL [0, 1] rfl (ks := [4, 5, 3, 2, 0, 1]) rfl (by decide))
            · refine e_L 4 (f' := (499, [(4, .int (1 : Int32)), (5, .int (1 : Int32)), (3, .int z8), (2, .int w4), (0, .ref 151), (1, .int a1)], [])) rfl ?_
              exact qE_sub (qsubL [0, 1] rfl (ks := [4, 5, 3, 2, 0, 1]) rfl (by decide))
      · exact qE_sub (qsubL [4, 5, 0] rfl (ks := [5, 4, 3, 2, 0, 1]) rfl (by decide))
      · exact qE_sub (qsubL [1, 0] rfl (ks := [5, 4, 3, 2, 0, 1]) rfl (by decide))
    · refine e_L 1 (f' := (60, [(0, .ref 151), (1, .int a1)], [.int (0 : Int32)])) rfl ?_
      exact e_rI rfl rfl
  · refine e_L 1 (f' := (13, [(0, .ref 151), (1, .int a1)], [.ref 151])) rfl ?_
    refine e_gR (q := 187) 12 57 rfl rfl lc_151 lr_151_57 ?_
    refine e_L 2 (f' := (19, [(0, .ref 151), (1, .int a1)], [.ref 151, .int (36 : Int32), .ref 187])) rfl ?_
    refine e_gR (q := 166) 12 35 rfl rfl lc_151 lr_151_35 ?_
    refine e_L 2 (f' := (24, [(0, .ref 151), (1, .int a1)], [.int a1, .ref 151, .ref 166, .int (36 : Int32), .ref 187])) rfl ?_
    refine e_vI 303 rfl rfl ix_X12_lineOf rfl (q_recvOf lc_151 rfl) (Nat.le_of_ble_eq_true rfl) (fun w76 s77 e78 => ?_)
    refine qle_gd fun h79 => ?_
    refine e_ial (n := 400) (k := w76.toNatClampNeg) rfl lc_166 ln_166 h79 rfl ?_
    refine e_L 1 (f' := (29, [(0, .ref 151), (1, .int a1)], [.int ((36 : Int32) + (s77.1 166 w76.toNatClampNeg)), .ref 187])) rfl ?_
    refine qle_gd fun h80 => ?_
    refine e_ial (n := 216) (k := ((36 : Int32) + (s77.1 166 w76.toNatClampNeg)).toNatClampNeg) rfl lc_187 ln_187 h80 rfl ?_
    refine e_ifz 45 rfl rfl rfl (fun c81 => ?_) (fun c81 => ?_)
    · refine e_L 1 (f' := (46, [(0, .ref 151), (1, .int a1)], [.int (0 : Int32)])) rfl ?_
      exact e_rI rfl rfl
    · refine e_L 2 (f' := (35, [(0, .ref 151), (1, .int a1)], [.int a1, .ref 151])) rfl ?_
      refine e_vI 310 rfl rfl ix_X12_isEmpty rfl (q_recvOf lc_151 rfl) (Nat.le_of_ble_eq_true rfl) (fun w82 s83 e84 => ?_)
      refine e_ifz 45 rfl rfl rfl (fun c85 => ?_) (fun c85 => ?_)
      · refine e_L 1 (f' := (46, [(0, .ref 151), (1, .int a1)], [.int (0 : Int32)])) rfl ?_
        exact e_rI rfl rfl
      · refine e_L 2 (f' := (46, [(0, .ref 151), (1, .int a1)], [.int (1 : Int32)])) rfl ?_
        exact e_rI rfl rfl
