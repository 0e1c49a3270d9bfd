/-! what methods do, printed by program out of their tables: X12_endPrefixes .. -/
noncomputable def L_X12_endPrefixes_2 (en : pN) (d : Nat) (v1 : Int32) (s : qS) : Option qR := qE (qev en d) en (some .int) tb_X12_endPrefixes (2, [(0, .ref 151), (1, .int v1)], []) s
noncomputable def L_X12_endPrefixes_46 (en : pN) (d : Nat) (v1 : Int32) (s : qS) : Option qR := qE (qev en d) en (some .int) tb_X12_endPrefixes (46, [(0, .ref 151), (1, .int v1)], []) s
set_option maxRecDepth 100000 in
set_option maxHeartbeats 4000000 in
theorem le_X12_endPrefixes_2 (en : pN) (d : Nat) (v1 : Int32) (s : qS) : qle (bI (qev en d 243 [.ref 151] s) (fun w1 s2 => if w1 = (0 : Int32) then some (some (.int v1), s2) else if (s2.1 151 31) ≤ (0 : Int32) then some (some (.int v1), s2) else gd (p_inB ((s2.1 151 31) - (1 : Int32)) 2000 = true) (if (s2.1 163 ((s2.1 151 31) - (1 : Int32)).toNatClampNeg) = (2 : Int32) then L_X12_endPrefixes_46 en d v1 s2 else if ¬ (s2.1 163 ((s2.1 151 31) - (1 : Int32)).toNatClampNeg) = (3 : Int32) then some (some (.int v1), s2) else L_X12_endPrefixes_46 en d v1 s2))) (L_X12_endPrefixes_2 en d v1 s) := by
  show qle _ (qE (qev en d) en (some .int) tb_X12_endPrefixes (2, [(0, .ref 151), (1, .int v1)], []) s)
  refine e_L 1 (f' := (3, [(0, .ref 151), (1, .int v1)], [.ref 151])) rfl ?_
  refine e_vI 243 rfl rfl ix_X12_good rfl (q_recvOf lc_151 rfl) (Nat.le_of_ble_eq_true rfl) (fun w1 s2 e3 => ?_)
  refine e_ifz 76 rfl rfl rfl (fun c4 => ?_) (fun c4 => ?_)
  · refine e_L 1 (f' := (77, [(0, .ref 151), (1, .int v1)], [.int v1])) rfl ?_
    exact e_rI rfl rfl
  · refine e_L 1 (f' := (10, [(0, .ref 151), (1, .int v1)], [.ref 151])) rfl ?_
    refine e_gI 12 31 rfl rfl lc_151 ?_
    refine e_ifz 76 rfl rfl rfl (fun c5 => ?_) (fun c5 => ?_)
    · refine e_L 1 (f' := (77, [(0, .ref 151), (1, .int v1)], [.int v1])) rfl ?_
      exact e_rI rfl rfl
    · refine e_L 1 (f' := (17, [(0, .ref 151), (1, .int v1)], [.ref 151])) rfl ?_
      refine e_gR (q := 163) 12 30 rfl rfl lc_151 lr_151_30 ?_
      refine e_L 1 (f' := (21, [(0, .ref 151), (1, .int v1)], [.ref 151, .ref 163])) rfl ?_
      refine e_gI 12 31 rfl rfl lc_151 ?_
      refine e_L 2 (f' := (26, [(0, .ref 151), (1, .int v1)], [.int ((s2.1 151 31) - (1 : Int32)), .ref 163])) rfl ?_
      refine qle_gd fun h6 => ?_
      refine e_ial (n := 2000) (k := ((s2.1 151 31) - (1 : Int32)).toNatClampNeg) rfl lc_163 ln_163 h6 rfl ?_
      refine e_L 1 (f' := (28, [(0, .ref 151), (1, .int v1)], [.int (2 : Int32), .int (s2.1 163 ((s2.1 151 31) - (1 : Int32)).toNatClampNeg)])) rfl ?_
      refine e_icmp 46 rfl rfl rfl (fun c7 => ?_) (fun c7 => ?_)
      · exact qE_sub (qsubL [0, 1] rfl (ks := [0, 1]) rfl (by decide))
      · refine e_L 1 (f' := (32, [(0, .ref 151), (1, .int v1)], [.ref 151])) rfl ?_
        refine e_gR (q := 163) 12 30 rfl rfl lc_151 lr_151_30 ?_
        refine e_L 1 (f' := (36, [(0, .ref 151), (1, .int v1)], [.ref 151, .ref 163])) rfl ?_
        refine e_gI 12 31 rfl rfl lc_151 ?_
        refine e_L 2 (f' := (41, [(0, .ref 151), (1, .int v1)], [.int ((s2.1 151 31) - (1 : Int32)), .ref 163])) rfl ?_
        refine e_ial (n := 2000) (k := ((s2.1 151 31) - (1 : Int32)).toNatClampNeg) rfl lc_163 ln_163 h6 rfl ?_
        refine e_L 1 (f' := (43, [(0, .ref 151), (1, .int v1)], [.int (3 : Int32), .int (s2.1 163 ((s2.1 151 31) - (1 : Int32)).toNatClampNeg)])) rfl ?_
        refine e_icmp 76 rfl rfl rfl (fun c8 => ?_) (fun c8 => ?_)
        · refine e_L 1 (f' := (77, [(0, .ref 151), (1, .int v1)], [.int v1])) rfl ?_
          exact e_rI rfl rfl
        · exact qE_sub (qsubL [0, 1] rfl (ks := [0, 1]) rfl (by decide))
set_option maxRecDepth 100000 in
set_option maxHeartbeats 4000000 in
theorem le_X12_endPrefixes_46 (en : pN) (d : Nat) (v1 : Int32) (s : qS) : qle (nm (uI s 151 31 ((s.1 151 31) - (1 : Int32))) (fun s1 => gd (p_inB (s1.1 151 31) 2000 = true) (bV (qev en d 262 [.ref 151, .int (s1.1 163 (s1.1 151 31).toNatClampNeg), .int (0 : Int32)] s1) (fun s4 => L_X12_endPrefixes_2 en d (v1 + (1 : Int32)) s4)))) (L_X12_endPrefixes_46 en d v1 s) := by
  show qle _ (qE (qev en d) en (some .int) tb_X12_endPrefixes (46, [(0, .ref 151), (1, .int v1)], []) s)
  refine e_L 2 (f' := (48, [(0, .ref 151), (1, .int v1)], [.ref 151, .ref 151])) rfl ?_
  refine e_gI 12 31 rfl rfl lc_151 ?_
  refine e_L 2 (f' := (53, [(0, .ref 151), (1, .int v1)], [.int ((s.1 151 31) - (1 : Int32)), .ref 151])) rfl ?_
  refine e_pI 12 31 rfl rfl lc_151 rfl ?_
  refine e_nS fun s1 => ?_
  refine e_L 2 (f' := (58, [(0, .ref 151), (1, .int v1)], [.ref 151, .ref 151])) rfl ?_
  refine e_gR (q := 163) 12 30 rfl rfl lc_151 lr_151_30 ?_
  refine e_L 1 (f' := (62, [(0, .ref 151), (1, .int v1)], [.ref 151, .ref 163, .ref 151])) rfl ?_
  refine e_gI 12 31 rfl rfl lc_151 ?_
  refine qle_gd fun h2 => ?_
  refine e_ial (n := 2000) (k := (s1.1 151 31).toNatClampNeg) rfl lc_163 ln_163 h2 rfl ?_
  refine e_L 1 (f' := (67, [(0, .ref 151), (1, .int v1)], [.int (0 : Int32), .int (s1.1 163 (s1.1 151 31).toNatClampNeg), .ref 151])) rfl ?_
  refine e_vV 262 rfl rfl ix_X12_emit rfl (q_recvOf lc_151 rfl) (Nat.le_of_ble_eq_true rfl) (fun s4 e5 => ?_)
  refine e_L 2 (f' := (2, [(1, .int (v1 + (1 : Int32))), (0, .ref 151)], [])) rfl ?_
  exact qE_sub (qsubL [1, 0] rfl (ks := [1, 0]) rfl (by decide))
set_option maxRecDepth 100000 in
set_option maxHeartbeats 4000000 in
theorem le_X12_endPrefixes (en : pN) (d : Nat) (s : qS) : qle (L_X12_endPrefixes_2 en d (0 : Int32) s) (qev en (d + 1) 269 [.ref 151] s) := by
  refine e_enter ix_X12_endPrefixes (Nat.le_of_ble_eq_true rfl) ?_
  show qle _ (qE (qev en d) en (some .int) tb_X12_endPrefixes (0, [(0, .ref 151)], []) s)
  refine e_L 2 (f' := (2, [(1, .int (0 : Int32)), (0, .ref 151)], [])) rfl ?_
  exact qE_sub (qsubL [1, 0] rfl (ks := [1, 0]) rfl (by decide))
set_option maxRecDepth 100000 in
set_option maxHeartbeats 4000000 in
theorem le_X12_isFactWord (en : pN) (d : Nat) (s : qS) : qle (bI (qev en d 255 [.ref 151, .long (435643770212 : Int64)] s) (fun w1 s2 => if ¬ w1 = (0 : Int32) then some (some (.int (1 : Int32)), s2) else bI (qev en d 255 [.ref 151, .long (513021013607 : Int64)] s2) (fun w5 s6 => if ¬ w5 = (0 : Int32) then some (some (.int (1 : Int32)), s6) else bI (qev en d 255 [.ref 151, .long (512735409267 : Int64)] s6) (fun w9 s10 => if ¬ w9 = (0 : Int32) then some (some (.int (1 : Int32)), s10) else bI (qev en d 255 [.ref 151, .long (1751477348 : Int64)] s10) (fun w13 s14 => if ¬ w13 = (0 : Int32) then some (some (.int (1 : Int32)), s14) else bI (qev en d 255 [.ref 151, .long (495875089259 : Int64)] s14) (fun w17 s18 => if w17 = (0 : Int32) then some (some (.int (0 : Int32)), s18) else some (some (.int (1 : Int32)), s18))))))) (qev en (d + 1) 270 [.ref 151] s) := by
  refine e_enter ix_X12_isFactWord (Nat.le_of_ble_eq_true rfl) ?_
  show qle _ (qE (qev en d) en (some .boolean) tb_X12_isFactWord (0, [(0, .ref 151)], []) s)
  refine e_L 1 (f' := (1, [(0, .ref 151)], [.ref 151])) rfl ?_
  refine e_gs (w := .long (435643770212 : Int64)) rfl rfl ?_
  refine e_vI 255 rfl rfl ix_X12_isWord rfl (q_recvOf lc_151 rfl) (Nat.le_of_ble_eq_true rfl) (fun w1 s2 e3 => ?_)
  refine e_ifz 50 rfl rfl rfl (fun c4 => ?_) (fun c4 => ?_)
  · refine e_L 2 (f' := (55, [(0, .ref 151)], [.int (1 : Int32)])) rfl ?_
    exact e_rZ rfl rfl (by decide)
  · refine e_L 1 (f' := (11, [(0, .ref 151)], [.ref 151])) rfl ?_
    refine e_gs (w := .long (513021013607 : Int64)) rfl rfl ?_
    refine e_vI 255 rfl rfl ix_X12_isWord rfl (q_recvOf lc_151 rfl) (Nat.le_of_ble_eq_true rfl) (fun w5 s6 e7 => ?_)
    refine e_ifz 50 rfl rfl rfl (fun c8 => ?_) (fun c8 => ?_)
    · refine e_L 2 (f' := (55, [(0, .ref 151)], [.int (1 : Int32)])) rfl ?_
      exact e_rZ rfl rfl (by decide)
    · refine e_L 1 (f' := (21, [(0, .ref 151)], [.ref 151])) rfl ?_
      refine e_gs (w := .long (512735409267 : Int64)) rfl rfl ?_
      refine e_vI 255 rfl rfl ix_X12_isWord rfl (q_recvOf lc_151 rfl) (Nat.le_of_ble_eq_true rfl) (fun w9 s10 e11 => ?_)
      refine e_ifz 50 rfl rfl rfl (fun c12 => ?_) (fun c12 => ?_)
      · refine e_L 2 (f' := (55, [(0, .ref 151)], [.int (1 : Int32)])) rfl ?_
        exact e_rZ rfl rfl (by decide)
      · refine e_L 1 (f' := (31, [(0, .ref 151)], [.ref 151])) rfl ?_
        refine e_gs (w := .long (1751477348 : Int64)) rfl rfl ?_
        refine e_vI 255 rfl rfl ix_X12_isWord rfl (q_recvOf lc_151 rfl) (Nat.le_of_ble_eq_true rfl) (fun w13 s14 e15 => ?_)
        refine e_ifz 50 rfl rfl rfl (fun c16 => ?_) (fun c16 => ?_)
        · refine e_L 2 (f' := (55, [(0, .ref 151)], [.int (1 : Int32)])) rfl ?_
          exact e_rZ rfl rfl (by decide)
        · refine e_L 1 (f' := (41, [(0, .ref 151)], [.ref 151])) rfl ?_
          refine e_gs (w := .long (495875089259 : Int64)) rfl rfl ?_
          refine e_vI 255 rfl rfl ix_X12_isWord rfl (q_recvOf lc_151 rfl) (Nat.le_of_ble_eq_true rfl) (fun w17 s18 e19 => ?_)
          refine e_ifz 54 rfl rfl rfl (fun c20 => ?_) (fun c20 => ?_)
          · refine e_L 1 (f' := (55, [(0, .ref 151)], [.int (0 : Int32)])) rfl ?_
            exact e_rZ rfl rfl (by decide)
          · refine e_L 2 (f' := (55, [(0, .ref 151)], [.int (1 : Int32)])) rfl ?_
            exact e_rZ rfl rfl (by decide)
noncomputable def L_X12_checkWord_44 (en : pN) (d : Nat) (vs1 : Int32) (s : qS) : Option qR := qE (qev en d) en none tb_X12_checkWord (44, [], [.int vs1, .ref 151]) s
noncomputable def L_X12_checkWord_68 (en : pN) (d : Nat) (vs1 : Int32) (s : qS) : Option qR := qE (qev en d) en none tb_X12_checkWord (68, [], [.int vs1, .ref 151]) s
set_option maxRecDepth 100000 in
set_option maxHeartbeats 4000000 in
theorem le_X12_checkWord_44 (en : pN) (d : Nat) (vs1 : Int32) (s : qS) : qle (bV (qev en d 245 [.ref 151, .int vs1, .int (3 : Int32)] s) (fun s2 => some (none, s2))) (L_X12_checkWord_44 en d vs1 s) := by
  show qle _ (qE (qev en d) en none tb_X12_checkWord (44, [], [.int vs1, .ref 151]) s)
  refine e_L 1 (f' := (45, [], [.int (3 : Int32), .int vs1, .ref 151])) rfl ?_
  refine e_vV 245 rfl rfl ix_X12_need rfl (q_recvOf lc_151 rfl) (Nat.le_of_ble_eq_true rfl) (fun s2 e3 => ?_)
  refine e_L 1 (f' := (72, [], [])) rfl ?_
  exact e_rV rfl rfl
set_option maxRecDepth 100000 in
set_option maxHeartbeats 4000000 in
theorem le_X12_checkWord_68 (en : pN) (d : Nat) (vs1 : Int32) (s : qS) : qle (bV (qev en d 245 [.ref 151, .int vs1, .int (3 : Int32)] s) (fun s2 => some (none, s2))) (L_X12_checkWord_68 en d vs1 s) := by
  show qle _ (qE (qev en d) en none tb_X12_checkWord (68, [], [.int vs1, .ref 151]) s)
  refine e_L 1 (f' := (69, [], [.int (3 : Int32), .int vs1, .ref 151])) rfl ?_
  refine e_vV 245 rfl rfl ix_X12_need rfl (q_recvOf lc_151 rfl) (Nat.le_of_ble_eq_true rfl) (fun s2 e3 => ?_)
  exact e_rV rfl rfl
set_option maxRecDepth 100000 in
set_option maxHeartbeats 4000000 in
theorem le_X12_checkWord (en : pN) (d : Nat) (s : qS) : qle (if (s.1 151 29) = (0 : Int32) then bI (qev en d 260 [.ref 151, .long (s.2.1 151 5)] s) (fun w2 s3 => if ¬ w2 = (0 : Int32) then L_X12_checkWord_68 en d (0 : Int32) s3 else L_X12_checkWord_68 en d (1 : Int32) s3) else bI (qev en d 270 [.ref 151] s) (fun w6 s7 => if ¬ w6 = (0 : Int32) then some (none, s7) else bI (qev en d 256 [.ref 151, .long (s7.2.1 151 5)] s7) (fun w10 s11 => if ¬ w10 = (-1 : Int32) then L_X12_checkWord_44 en d (1 : Int32) s11 else bI (qev en d 258 [.ref 151, .long (s11.2.1 151 5)] s11) (fun w14 s15 => if w14 = (-1 : Int32) then L_X12_checkWord_44 en d (0 : Int32) s15 else L_X12_checkWord_44 en d (1 : Int32) s15)))) (qev en (d + 1) 271 [.ref 151] s) := by
  refine e_enter ix_X12_checkWord (Nat.le_of_ble_eq_true rfl) ?_
  show qle _ (qE (qev en d) en none tb_X12_checkWord (0, [(0, .ref 151)], []) s)
  refine e_L 1 (f' := (1, [(0, .ref 151)], [.ref 151])) rfl ?_
  refine e_gI 12 29 rfl rfl lc_151 ?_
  refine e_ifz 51 rfl rfl rfl (fun c1 => ?_) (fun c1 => ?_)
  · refine e_L 3 (f' := (54, [(0, .ref 151)], [.ref 151, .ref 151, .ref 151])) rfl ?_
    refine e_gJ 12 5 rfl rfl lc_151 ?_
    refine e_vI 260 rfl rfl ix_X12_isTold rfl (q_recvOf lc_151 rfl) (Nat.le_of_ble_eq_true rfl) (fun w2 s3 e4 => ?_)
    refine e_ifz 67 rfl rfl rfl (fun c5 => ?_) (fun c5 => ?_)
    · refine e_L 1 (f' := (68, [(0, .ref 151)], [.int (0 : Int32), .ref 151])) rfl ?_
      exact qE_sub (qsubL [] rfl (ks := [0]) rfl (by decide))
    · refine e_L 2 (f' := (68, [(0, .ref 151)], [.int (1 : Int32), .ref 151])) rfl ?_
      exact qE_sub (qsubL [] rfl (ks := [0]) rfl (by decide))
  · refine e_L 1 (f' := (8, [(0, .ref 151)], [.ref 151])) rfl ?_
    refine e_vI 270 rfl rfl ix_X12_isFactWord rfl (q_recvOf lc_151 rfl) (Nat.le_of_ble_eq_true rfl) (fun w6 s7 e8 => ?_)
    refine e_ifz 72 rfl rfl rfl (fun c9 => ?_) (fun c9 => ?_)
    · exact e_rV rfl rfl
    · refine e_L 3 (f' := (17, [(0, .ref 151)], [.ref 151, .ref 151, .ref 151])) rfl ?_
      refine e_gJ 12 5 rfl rfl lc_151 ?_
      refine e_vI 256 rfl rfl ix_X12_cellOf rfl (q_recvOf lc_151 rfl) (Nat.le_of_ble_eq_true rfl) (fun w10 s11 e12 => ?_)
      refine e_L 1 (f' := (24, [(0, .ref 151)], [.int (-1 : Int32), .int w10, .ref 151])) rfl ?_
      refine e_icmp 39 rfl rfl rfl (fun c13 => ?_) (fun c13 => ?_)
      · refine e_L 2 (f' := (44, [(0, .ref 151)], [.int (1 : Int32), .ref 151])) rfl ?_
        exact qE_sub (qsubL [] rfl (ks := [0]) rfl (by decide))
      · refine e_L 2 (f' := (29, [(0, .ref 151)], [.ref 151, .ref 151, .ref 151])) rfl ?_
        refine e_gJ 12 5 rfl rfl lc_151 ?_
        refine e_vI 258 rfl rfl ix_X12_threadOf rfl (q_recvOf lc_151 rfl) (Nat.le_of_ble_eq_true rfl) (fun w14 s15 e16 => ?_)
        refine e_L 1 (f' := (36, [(0, .ref 151)], [.int (-1 : Int32), .int w14, .ref 151])) rfl ?_
        refine e_icmp 43 rfl rfl rfl (fun c17 => ?_) (fun c17 => ?_)
        · refine e_L 1 (f' := (44, [(0, .ref 151)], [.int (0 : Int32), .ref 151])) rfl ?_
          exact qE_sub (qsubL [] rfl (ks := [0]) rfl (by decide))
        · refine e_L 2 (f' := (44, [(0, .ref 151)], [.int (1 : Int32), .ref 151])) rfl ?_
          exact qE_sub (qsubL [] rfl (ks := [0]) rfl (by decide))
noncomputable def L_X12_takeOperand_57 (en : pN) (d : Nat) (vs0 : Int32) (s : qS) : Option qR := qE (qev en d) en none tb_X12_takeOperand (57, [(0, .ref 151)], [.int vs0]) s
set_option maxRecDepth 100000 in
set_option maxHeartbeats 4000000 in
theorem le_X12_takeOperand_57 (en : pN) (d : Nat) (vs0 : Int32) (s : qS) : qle (bV (qev en d 262 [.ref 151, .int (1 : Int32), .int vs0] s) (fun s2 => bV (qev en d 249 [.ref 151] s2) (fun s5 => some (none, s5)))) (L_X12_takeOperand_57 en d vs0 s) := by
  show qle _ (qE (qev en d) en none tb_X12_takeOperand (57, [(0, .ref 151)], [.int vs0]) s)
  refine e_L 4 (f' := (61, [(1, .int vs0), (0, .ref 151)], [.int vs0, .int (1 : Int32), .ref 151])) rfl ?_
  refine e_vV 262 rfl rfl ix_X12_emit rfl (q_recvOf lc_151 rfl) (Nat.le_of_ble_eq_true rfl) (fun s2 e3 => ?_)
  refine e_L 1 (f' := (65, [(1, .int vs0), (0, .ref 151)], [.ref 151])) rfl ?_
  refine e_vV 249 rfl rfl ix_X12_next rfl (q_recvOf lc_151 rfl) (Nat.le_of_ble_eq_true rfl) (fun s5 e6 => ?_)
  exact e_rV rfl rfl
set_option maxRecDepth 100000 in
set_option maxHeartbeats 4000000 in
theorem le_X12_takeOperand (en : pN) (d : Nat) (s : qS) : qle (bV (qev en d 263 [.ref 151] s) (fun s2 => if ¬ (s2.1 151 3) = (2 : Int32) then if (s2.1 151 29) = (0 : Int32) then bI (qev en d 243 [.ref 151] s2) (fun w6 s7 => if w6 = (0 : Int32) then L_X12_takeOperand_57 en d (-1 : Int32) s7 else bI (qev en d 261 [.ref 151] s7) (fun w10 s11 => L_X12_takeOperand_57 en d w10 s11)) else bV (qev en d 273 [.ref 151] s2) (fun s14 => some (none, s14)) else bV (qev en d 262 [.ref 151, .int (0 : Int32), .int (s2.1 151 6)] s2) (fun s17 => bV (qev en d 249 [.ref 151] s17) (fun s20 => some (none, s20))))) (qev en (d + 1) 272 [.ref 151] s) := by
  refine e_enter ix_X12_takeOperand (Nat.le_of_ble_eq_true rfl) ?_
  show qle _ (qE (qev en d) en none tb_X12_takeOperand (0, [(0, .ref 151)], []) s)
  refine e_L 1 (f' := (1, [(0, .ref 151)], [.ref 151])) rfl ?_
  refine e_vV 263 rfl rfl ix_X12_countNode rfl (q_recvOf lc_151 rfl) (Nat.le_of_ble_eq_true rfl) (fun s2 e3 => ?_)
  refine e_L 1 (f' := (5, [(0, .ref 151)], [.ref 151])) rfl ?_
  refine e_gI 12 3 rfl rfl lc_151 ?_
  refine e_L 1 (f' := (9, [(0, .ref 151)], [.int (2 : Int32), .int (s2.1 151 3)])) rfl ?_
  refine e_icmp 28 rfl rfl rfl (fun c4 => ?_) (fun c4 => ?_)
  · refine e_L 1 (f' := (29, [(0, .ref 151)], [.ref 151])) rfl ?_
    refine e_gI 12 29 rfl rfl lc_151 ?_
    refine e_ifz 42 rfl rfl rfl (fun c5 => ?_) (fun c5 => ?_)
    · refine e_L 1 (f' := (43, [(0, .ref 151)], [.ref 151])) rfl ?_
      refine e_vI 243 rfl rfl ix_X12_good rfl (q_recvOf lc_151 rfl) (Nat.le_of_ble_eq_true rfl) (fun w6 s7 e8 => ?_)
      refine e_ifz 56 rfl rfl rfl (fun c9 => ?_) (fun c9 => ?_)
      · refine e_L 1 (f' := (57, [(0, .ref 151)], [.int (-1 : Int32)])) rfl ?_
        exact qE_sub (qsubL [0] rfl (ks := [0]) rfl (by decide))
      · refine e_L 1 (f' := (50, [(0, .ref 151)], [.ref 151])) rfl ?_
        refine e_vI 261 rfl rfl ix_X12_takeLocal rfl (q_recvOf lc_151 rfl) (Nat.le_of_ble_eq_true rfl) (fun w10 s11 e12 => ?_)
        refine e_L 1 (f' := (57, [(0, .ref 151)], [.int w10])) rfl ?_
        exact qE_sub (qsubL [0] rfl (ks := [0]) rfl (by decide))
    · refine e_L 1 (f' := (36, [(0, .ref 151)], [.ref 151])) rfl ?_
      refine e_vV 273 rfl rfl ix_X12_takeFact rfl (q_recvOf lc_151 rfl) (Nat.le_of_ble_eq_true rfl) (fun s14 e15 => ?_)
      refine e_L 1 (f' := (68, [(0, .ref 151)], [])) rfl ?_
      exact e_rV rfl rfl
  · refine e_L 3 (f' := (15, [(0, .ref 151)], [.ref 151, .int (0 : Int32), .ref 151])) rfl ?_
    refine e_gI 12 6 rfl rfl lc_151 ?_
    refine e_vV 262 rfl rfl ix_X12_emit rfl (q_recvOf lc_151 rfl) (Nat.le_of_ble_eq_true rfl) (fun s17 e18 => ?_)
    refine e_L 1 (f' := (22, [(0, .ref 151)], [.ref 151])) rfl ?_
    refine e_vV 249 rfl rfl ix_X12_next rfl (q_recvOf lc_151 rfl) (Nat.le_of_ble_eq_true rfl) (fun s20 e21 => ?_)
    refine e_L 1 (f' := (68, [(0, .ref 151)], [])) rfl ?_
    exact e_rV rfl rfl
noncomputable def L_X12_takeFact_72 (en : pN) (d : Nat) (v2 : Int32) (s : qS) : Option qR := qE (qev en d) en none tb_X12_takeFact (72, [(0, .ref 151), (2, .int v2)], []) s
noncomputable def L_X12_takeFact_92 (en : pN) (d : Nat) (v2 : Int32) (vs0 : Int32) (s : qS) : Option qR := qE (qev en d) en none tb_X12_takeFact (92, [(0, .ref 151), (2, .int v2)], [.int vs0]) s
noncomputable def L_X12_takeFact_111 (en : pN) (d : Nat) (v2 : Int32) (v3 : Int32) (vs1 : Int32) (s : qS) : Option qR := qE (qev en d) en none tb_X12_takeFact (111, [(0, .ref 151), (2, .int v2), (3, .int v3)], [.int vs1, .ref 151]) s
noncomputable def L_X12_takeFact_115 (en : pN) (d : Nat) (v2 : Int32) (v3 : Int32) (s : qS) : Option qR := qE (qev en d) en none tb_X12_takeFact (115, [(0, .ref 151), (2, .int v2), (3, .int v3)], []) s
noncomputable def L_X12_takeFact_198 (en : pN) (d : Nat) (vs0 : Int32) (s : qS) : Option qR := qE (qev en d) en none tb_X12_takeFact (198, [(0, .ref 151)], [.int vs0]) s
noncomputable def L_X12_takeFact_232 (en : pN) (d : Nat) (v1 : Int32) (s : qS) : Option qR := qE (qev en d) en none tb_X12_takeFact (232, [(0, .ref 151), (1, .int v1)], []) s
noncomputable def L_X12_takeFact_268 (en : pN) (d : Nat) (v1 : Int32) (vs0 : Int32) (s : qS) : Option qR := qE (qev en d) en none tb_X12_takeFact (268, [(0, .ref 151), (1, .int v1)], [.int vs0]) s
noncomputable def L_X12_takeFact_287 (en : pN) (d : Nat) (v1 : Int32) (v2 : Int32) (vs1 : Int32) (s : qS) : Option qR := qE (qev en d) en none tb_X12_takeFact (287, [(0, .ref 151), (1, .int v1), (2, .int v2)], [.int vs1, .ref 151]) s
noncomputable def L_X12_takeFact_291 (en : pN) (d : Nat) (v1 : Int32) (v2 : Int32) (s : qS) : Option qR := qE (qev en d) en none tb_X12_takeFact (291, [(0, .ref 151), (1, .int v1), (2, .int v2)], []) s
set_option maxRecDepth 100000 in
set_option maxHeartbeats 4000000 in
theorem le_X12_takeFact_72 (en : pN) (d : Nat) (v2 : Int32) (s : qS) : qle (bI (qev en d 243 [.ref 151] s) (fun w1 s2 => if w1 = (0 : Int32) then L_X12_takeFact_92 en d v2 (-1 : Int32) s2 else bI (qev en d 259 [.ref 151, .int v2, .long (s2.2.1 151 5)] s2) (fun w5 s6 => L_X12_takeFact_92 en d v2 w5 s6))) (L_X12_takeFact_72 en d v2 s) := by
  show qle _ (qE (qev en d) en none tb_X12_takeFact (72, [(0, .ref 151), (2, .int v2)], []) s)
  refine e_L 1 (f' := (73, [(0, .ref 151), (2, .int v2)], [.ref 151])) rfl ?_
  refine e_vI 243 rfl rfl ix_X12_good rfl (q_recvOf lc_151 rfl) (Nat.le_of_ble_eq_true rfl) (fun w1 s2 e3 => ?_)
  refine e_ifz 91 rfl rfl rfl (fun c4 => ?_) (fun c4 => ?_)
  · refine e_L 1 (f' := (92, [(0, .ref 151), (2, .int v2)], [.int (-1 : Int32)])) rfl ?_
    exact qE_sub (qsubL [0, 1] rfl (ks := [0, 2]) rfl (by decide))
  · refine e_L 3 (f' := (82, [(0, .ref 151), (2, .int v2)], [.ref 151, .int v2, .ref 151])) rfl ?_
    refine e_gJ 12 5 rfl rfl lc_151 ?_
    refine e_vI 259 rfl rfl ix_X12_localOf rfl (q_recvOf lc_151 rfl) (Nat.le_of_ble_eq_true rfl) (fun w5 s6 e7 => ?_)
    refine e_L 1 (f' := (92, [(0, .ref 151), (2, .int v2)], [.int w5])) rfl ?_
    exact qE_sub (qsubL [0, 1] rfl (ks := [0, 2]) rfl (by decide))
set_option maxRecDepth 100000 in
set_option maxHeartbeats 4000000 in
theorem le_X12_takeFact_92 (en : pN) (d : Nat) (v2 : Int32) (vs0 : Int32) (s : qS) : qle (bI (qev en d 243 [.ref 151] s) (fun w1 s2 => if w1 = (0 : Int32) then L_X12_takeFact_115 en d v2 vs0 s2 else if vs0 = (-1 : Int32) then L_X12_takeFact_111 en d v2 vs0 (0 : Int32) s2 else L_X12_takeFact_111 en d v2 vs0 (1 : Int32) s2)) (L_X12_takeFact_92 en d v2 vs0 s) := by
  show qle _ (qE (qev en d) en none tb_X12_takeFact (92, [(0, .ref 151), (2, .int v2)], [.int vs0]) s)
  refine e_L 2 (f' := (94, [(3, .int vs0), (0, .ref 151), (2, .int v2)], [.ref 151])) rfl ?_
  refine e_vI 243 rfl rfl ix_X12_good rfl (q_recvOf lc_151 rfl) (Nat.le_of_ble_eq_true rfl) (fun w1 s2 e3 => ?_)
  refine e_ifz 115 rfl rfl rfl (fun c4 => ?_) (fun c4 => ?_)
  · exact qE_sub (qsubL [1, 2, 0] rfl (ks := [3, 0, 2]) rfl (by decide))
  · refine e_L 3 (f' := (103, [(3, .int vs0), (0, .ref 151), (2, .int v2)], [.int (-1 : Int32), .int vs0, .ref 151])) rfl ?_
    refine e_icmp 110 rfl rfl rfl (fun c5 => ?_) (fun c5 => ?_)
    · refine e_L 1 (f' := (111, [(3, .int vs0), (0, .ref 151), (2, .int v2)], [.int (0 : Int32), .ref 151])) rfl ?_
      exact qE_sub (qsubL [1, 2, 0] rfl (ks := [3, 0, 2]) rfl (by decide))
    · refine e_L 2 (f' := (111, [(3, .int vs0), (0, .ref 151), (2, .int v2)], [.int (1 : Int32), .ref 151])) rfl ?_
      exact qE_sub (qsubL [1, 2, 0] rfl (ks := [3, 0, 2]) rfl (by decide))
set_option maxRecDepth 100000 in
set_option maxHeartbeats 4000000 in
theorem le_X12_takeFact_111 (en : pN) (d : Nat) (v2 : Int32) (v3 : Int32) (vs1 : Int32) (s : qS) : qle (bV (qev en d 245 [.ref 151, .int vs1, .int (3 : Int32)] s) (fun s2 => L_X12_takeFact_115 en d v2 v3 s2)) (L_X12_takeFact_111 en d v2 v3 vs1 s) := by
  show qle _ (qE (qev en d) en none tb_X12_takeFact (111, [(0, .ref 151), (2, .int v2), (3, .int v3)], [.int vs1, .ref 151]) s)
  refine e_L 1 (f' := (112, [(0, .ref 151), (2, .int v2), (3, .int v3)], [.int (3 : Int32), .int vs1, .ref 151])) rfl ?_
  refine e_vV 245 rfl rfl ix_X12_need rfl (q_recvOf lc_151 rfl) (Nat.le_of_ble_eq_true rfl) (fun s2 e3 => ?_)
  exact qE_sub (qsubL [0, 1, 2] rfl (ks := [0, 2, 3]) rfl (by decide))
set_option maxRecDepth 100000 in
set_option maxHeartbeats 4000000 in
theorem le_X12_takeFact_115 (en : pN) (d : Nat) (v2 : Int32) (v3 : Int32) (s : qS) : qle (bV (qev en d 262 [.ref 151, .int (16 : Int32), .int (((6 : Int32) * v2) + v3)] s) (fun s2 => bV (qev en d 249 [.ref 151] s2) (fun s5 => some (none, s5)))) (L_X12_takeFact_115 en d v2 v3 s) := by
  show qle _ (qE (qev en d) en none tb_X12_takeFact (115, [(0, .ref 151), (2, .int v2), (3, .int v3)], []) s)
  refine e_L 7 (f' := (124, [(0, .ref 151), (2, .int v2), (3, .int v3)], [.int (((6 : Int32) * v2) + v3), .int (16 : Int32), .ref 151])) rfl ?_
  refine e_vV 262 rfl rfl ix_X12_emit rfl (q_recvOf lc_151 rfl) (Nat.le_of_ble_eq_true rfl) (fun s2 e3 => ?_)
  refine e_L 1 (f' := (128, [(0, .ref 151), (2, .int v2), (3, .int v3)], [.ref 151])) rfl ?_
  refine e_vV 249 rfl rfl ix_X12_next rfl (q_recvOf lc_151 rfl) (Nat.le_of_ble_eq_true rfl) (fun s5 e6 => ?_)
  exact e_rV rfl rfl
set_option maxRecDepth 100000 in
set_option maxHeartbeats 4000000 in
theorem le_X12_takeFact_198 (en : pN) (d : Nat) (vs0 : Int32) (s : qS) : qle (bV (qev en d 249 [.ref 151] s) (fun s2 => if ¬ vs0 = (21 : Int32) then bI (qev en d 243 [.ref 151] s2) (fun w5 s6 => if w5 = (0 : Int32) then L_X12_takeFact_232 en d vs0 s6 else bI (qev en d 254 [.ref 151] s6) (fun w9 s10 => bV (qev en d 245 [.ref 151, .int w9, .int (2 : Int32)] s10) (fun s13 => L_X12_takeFact_232 en d vs0 s13))) else bV (qev en d 262 [.ref 151, .int vs0, .int (0 : Int32)] s2) (fun s16 => some (none, s16)))) (L_X12_takeFact_198 en d vs0 s) := by
  show qle _ (qE (qev en d) en none tb_X12_takeFact (198, [(0, .ref 151)], [.int vs0]) s)
  refine e_L 2 (f' := (200, [(1, .int vs0), (0, .ref 151)], [.ref 151])) rfl ?_
  refine e_vV 249 rfl rfl ix_X12_next rfl (q_recvOf lc_151 rfl) (Nat.le_of_ble_eq_true rfl) (fun s2 e3 => ?_)
  refine e_L 2 (f' := (206, [(1, .int vs0), (0, .ref 151)], [.int (21 : Int32), .int vs0])) rfl ?_
  refine e_icmp 216 rfl rfl rfl (fun c4 => ?_) (fun c4 => ?_)
  · refine e_L 1 (f' := (217, [(1, .int vs0), (0, .ref 151)], [.ref 151])) rfl ?_
    refine e_vI 243 rfl rfl ix_X12_good rfl (q_recvOf lc_151 rfl) (Nat.le_of_ble_eq_true rfl) (fun w5 s6 e7 => ?_)
    refine e_ifz 232 rfl rfl rfl (fun c8 => ?_) (fun c8 => ?_)
    · exact qE_sub (qsubL [1, 0] rfl (ks := [1, 0]) rfl (by decide))
    · refine e_L 2 (f' := (225, [(1, .int vs0), (0, .ref 151)], [.ref 151, .ref 151])) rfl ?_
      refine e_vI 254 rfl rfl ix_X12_isName rfl (q_recvOf lc_151 rfl) (Nat.le_of_ble_eq_true rfl) (fun w9 s10 e11 => ?_)
      refine e_L 1 (f' := (229, [(1, .int vs0), (0, .ref 151)], [.int (2 : Int32), .int w9, .ref 151])) rfl ?_
      refine e_vV 245 rfl rfl ix_X12_need rfl (q_recvOf lc_151 rfl) (Nat.le_of_ble_eq_true rfl) (fun s13 e14 => ?_)
      exact qE_sub (qsubL [1, 0] rfl (ks := [1, 0]) rfl (by decide))
  · refine e_L 3 (f' := (212, [(1, .int vs0), (0, .ref 151)], [.int (0 : Int32), .int vs0, .ref 151])) rfl ?_
    refine e_vV 262 rfl rfl ix_X12_emit rfl (q_recvOf lc_151 rfl) (Nat.le_of_ble_eq_true rfl) (fun s16 e17 => ?_)
    exact e_rV rfl rfl
set_option maxRecDepth 100000 in
set_option maxHeartbeats 4000000 in
theorem le_X12_takeFact_232 (en : pN) (d : Nat) (v1 : Int32) (s : qS) : qle (bI (qev en d 243 [.ref 151] s) (fun w1 s2 => if ¬ w1 = (0 : Int32) then if ¬ v1 = (20 : Int32) then bI (qev en d 258 [.ref 151, .long (s2.2.1 151 5)] s2) (fun w6 s7 => L_X12_takeFact_268 en d v1 w6 s7) else bI (qev en d 257 [.ref 151, .long (s2.2.1 151 5)] s2) (fun w9 s10 => L_X12_takeFact_268 en d v1 w9 s10) else L_X12_takeFact_268 en d v1 (-1 : Int32) s2)) (L_X12_takeFact_232 en d v1 s) := by
  show qle _ (qE (qev en d) en none tb_X12_takeFact (232, [(0, .ref 151), (1, .int v1)], []) s)
  refine e_L 1 (f' := (233, [(0, .ref 151), (1, .int v1)], [.ref 151])) rfl ?_
  refine e_vI 243 rfl rfl ix_X12_good rfl (q_recvOf lc_151 rfl) (Nat.le_of_ble_eq_true rfl) (fun w1 s2 e3 => ?_)
  refine e_ifz 243 rfl rfl rfl (fun c4 => ?_) (fun c4 => ?_)
  · refine e_L 2 (f' := (246, [(0, .ref 151), (1, .int v1)], [.int (20 : Int32), .int v1])) rfl ?_
    refine e_icmp 260 rfl rfl rfl (fun c5 => ?_) (fun c5 => ?_)
    · refine e_L 2 (f' := (262, [(0, .ref 151), (1, .int v1)], [.ref 151, .ref 151])) rfl ?_
      refine e_gJ 12 5 rfl rfl lc_151 ?_
      refine e_vI 258 rfl rfl ix_X12_threadOf rfl (q_recvOf lc_151 rfl) (Nat.le_of_ble_eq_true rfl) (fun w6 s7 e8 => ?_)
      exact qE_sub (qsubL [0, 1] rfl (ks := [0, 1]) rfl (by decide))
    · refine e_L 2 (f' := (251, [(0, .ref 151), (1, .int v1)], [.ref 151, .ref 151])) rfl ?_
      refine e_gJ 12 5 rfl rfl lc_151 ?_
      refine e_vI 257 rfl rfl ix_X12_lockOf rfl (q_recvOf lc_151 rfl) (Nat.le_of_ble_eq_true rfl) (fun w9 s10 e11 => ?_)
      refine e_L 1 (f' := (268, [(0, .ref 151), (1, .int v1)], [.int w9])) rfl ?_
      exact qE_sub (qsubL [0, 1] rfl (ks := [0, 1]) rfl (by decide))
  · refine e_L 2 (f' := (268, [(0, .ref 151), (1, .int v1)], [.int (-1 : Int32)])) rfl ?_
    exact qE_sub (qsubL [0, 1] rfl (ks := [0, 1]) rfl (by decide))
set_option maxRecDepth 100000 in
set_option maxHeartbeats 4000000 in
theorem le_X12_takeFact_268 (en : pN) (d : Nat) (v1 : Int32) (vs0 : Int32) (s : qS) : qle (bI (qev en d 243 [.ref 151] s) (fun w1 s2 => if w1 = (0 : Int32) then L_X12_takeFact_291 en d v1 vs0 s2 else if vs0 = (-1 : Int32) then L_X12_takeFact_287 en d v1 vs0 (0 : Int32) s2 else L_X12_takeFact_287 en d v1 vs0 (1 : Int32) s2)) (L_X12_takeFact_268 en d v1 vs0 s) := by
  show qle _ (qE (qev en d) en none tb_X12_takeFact (268, [(0, .ref 151), (1, .int v1)], [.int vs0]) s)
  refine e_L 2 (f' := (270, [(2, .int vs0), (0, .ref 151), (1, .int v1)], [.ref 151])) rfl ?_
  refine e_vI 243 rfl rfl ix_X12_good rfl (q_recvOf lc_151 rfl) (Nat.le_of_ble_eq_true rfl) (fun w1 s2 e3 => ?_)
  refine e_ifz 291 rfl rfl rfl (fun c4 => ?_) (fun c4 => ?_)
  · exact qE_sub (qsubL [1, 2, 0] rfl (ks := [2, 0, 1]) rfl (by decide))
  · refine e_L 3 (f' := (279, [(2, .int vs0), (0, .ref 151), (1, .int v1)], [.int (-1 : Int32), .int vs0, .ref 151])) rfl ?_
    refine e_icmp 286 rfl rfl rfl (fun c5 => ?_) (fun c5 => ?_)
    · refine e_L 1 (f' := (287, [(2, .int vs0), (0, .ref 151), (1, .int v1)], [.int (0 : Int32), .ref 151])) rfl ?_
      exact qE_sub (qsubL [1, 2, 0] rfl (ks := [2, 0, 1]) rfl (by decide))
    · refine e_L 2 (f' := (287, [(2, .int vs0), (0, .ref 151), (1, .int v1)], [.int (1 : Int32), .ref 151])) rfl ?_
      exact qE_sub (qsubL [1, 2, 0] rfl (ks := [2, 0, 1]) rfl (by decide))
set_option maxRecDepth 100000 in
set_option maxHeartbeats 4000000 in
theorem le_X12_takeFact_287 (en : pN) (d : Nat) (v1 : Int32) (v2 : Int32) (vs1 : Int32) (s : qS) : qle (bV (qev en d 245 [.ref 151, .int vs1, .int (3 : Int32)] s) (fun s2 => L_X12_takeFact_291 en d v1 v2 s2)) (L_X12_takeFact_287 en d v1 v2 vs1 s) := by
  show qle _ (qE (qev en d) en none tb_X12_takeFact (287, [(0, .ref 151), (1, .int v1), (2, .int v2)], [.int vs1, .ref 151]) s)
  refine e_L 1 (f' := (288, [(0, .ref 151), (1, .int v1), (2, .int v2)], [.int (3 : Int32), .int vs1, .ref 151])) rfl ?_
  refine e_vV 245 rfl rfl ix_X12_need rfl (q_recvOf lc_151 rfl) (Nat.le_of_ble_eq_true rfl) (fun s2 e3 => ?_)
  exact qE_sub (qsubL [0, 1, 2] rfl (ks := [0, 1, 2]) rfl (by decide))
set_option maxRecDepth 100000 in
set_option maxHeartbeats 4000000 in
theorem le_X12_takeFact_291 (en : pN) (d : Nat) (v1 : Int32) (v2 : Int32) (s : qS) : qle (bV (qev en d 262 [.ref 151, .int v1, .int v2] s) (fun s2 => bV (qev en d 249 [.ref 151] s2) (fun s5 => some (none, s5)))) (L_X12_takeFact_291 en d v1 v2 s) := by
  show qle _ (qE (qev en d) en none tb_X12_takeFact (291, [(0, .ref 151), (1, .int v1), (2, .int v2)], []) s)
  refine e_L 3 (f' := (294, [(0, .ref 151), (1, .int v1), (2, .int v2)], [.int v2, .int v1, .ref 151])) rfl ?_
  refine e_vV 262 rfl rfl ix_X12_emit rfl (q_recvOf lc_151 rfl) (Nat.le_of_ble_eq_true rfl) (fun s2 e3 => ?_)
  refine e_L 1 (f' := (298, [(0, .ref 151), (1, .int v1), (2, .int v2)], [.ref 151])) rfl ?_
  refine e_vV 249 rfl rfl ix_X12_next rfl (q_recvOf lc_151 rfl) (Nat.le_of_ble_eq_true rfl) (fun s5 e6 => ?_)
  exact e_rV rfl rfl
set_option maxRecDepth 100000 in
set_option maxHeartbeats 4000000 in
theorem le_X12_takeFact (en : pN) (d : Nat) (s : qS) : qle (bI (qev en d 243 [.ref 151] s) (fun w1 s2 => if ¬ w1 = (0 : Int32) then bI (qev en d 270 [.ref 151] s2) (fun w5 s6 => if ¬ w5 = (0 : Int32) then if ¬ (lg_cmp (s6.2.1 151 5) (435643770212 : Int64)) = (0 : Int32) then if ¬ (lg_cmp (s6.2.1 151 5) (513021013607 : Int64)) = (0 : Int32) then if ¬ (lg_cmp (s6.2.1 151 5) (512735409267 : Int64)) = (0 : Int32) then if ¬ (lg_cmp (s6.2.1 151 5) (1751477348 : Int64)) = (0 : Int32) then L_X12_takeFact_198 en d (21 : Int32) s6 else L_X12_takeFact_198 en d (20 : Int32) s6 else L_X12_takeFact_198 en d (19 : Int32) s6 else L_X12_takeFact_198 en d (18 : Int32) s6 else L_X12_takeFact_198 en d (17 : Int32) s6 else bI (qev en d 256 [.ref 151, .long (s6.2.1 151 5)] s6) (fun w13 s14 => bI (qev en d 258 [.ref 151, .long (s14.2.1 151 5)] s14) (fun w16 s17 => bV (qev en d 249 [.ref 151] s17) (fun s20 => if w13 = (-1 : Int32) then bV (qev en d 252 [.ref 151, .int (46 : Int32)] s20) (fun s24 => bI (qev en d 243 [.ref 151] s24) (fun w26 s27 => if w26 = (0 : Int32) then L_X12_takeFact_72 en d w16 s27 else bI (qev en d 254 [.ref 151] s27) (fun w30 s31 => bV (qev en d 245 [.ref 151, .int w30, .int (2 : Int32)] s31) (fun s34 => L_X12_takeFact_72 en d w16 s34)))) else bV (qev en d 262 [.ref 151, .int (15 : Int32), .int w13] s20) (fun s37 => some (none, s37)))))) else some (none, s2))) (qev en (d + 1) 273 [.ref 151] s) := by
  refine e_enter ix_X12_takeFact (Nat.le_of_ble_eq_true rfl) ?_
  show qle _ (qE (qev en d) en none tb_X12_takeFact (0, [(0, .ref 151)], []) s)
  refine e_L 1 (f' := (1, [(0, .ref 151)], [.ref 151])) rfl ?_
  refine e_vI 243 rfl rfl ix_X12_good rfl (q_recvOf lc_151 rfl) (Nat.le_of_ble_eq_true rfl) (fun w1 s2 e3 => ?_)
  refine e_ifz 8 rfl rfl rfl (fun c4 => ?_) (fun c4 => ?_)
  · refine e_L 1 (f' := (9, [(0, .ref 151)], [.ref 151])) rfl ?_
    refine e_vI 270 rfl rfl ix_X12_isFactWord rfl (q_recvOf lc_151 rfl) (Nat.le_of_ble_eq_true rfl) (fun w5 s6 e7 => ?_)
    refine e_ifz 132 rfl rfl rfl (fun c8 => ?_) (fun c8 => ?_)
    · refine e_L 1 (f' := (133, [(0, .ref 151)], [.ref 151])) rfl ?_
      refine e_gJ 12 5 rfl rfl lc_151 ?_
      refine e_gs (w := .long (435643770212 : Int64)) rfl rfl ?_
      refine e_L 1 (f' := (140, [(0, .ref 151)], [.int (lg_cmp (s6.2.1 151 5) (435643770212 : Int64))])) rfl ?_
      refine e_ifz 148 rfl rfl rfl (fun c9 => ?_) (fun c9 => ?_)
      · refine e_L 1 (f' := (149, [(0, .ref 151)], [.ref 151])) rfl ?_
        refine e_gJ 12 5 rfl rfl lc_151 ?_
        refine e_gs (w := .long (513021013607 : Int64)) rfl rfl ?_
        refine e_L 1 (f' := (156, [(0, .ref 151)], [.int (lg_cmp (s6.2.1 151 5) (513021013607 : Int64))])) rfl ?_
        refine e_ifz 164 rfl rfl rfl (fun c10 => ?_) (fun c10 => ?_)
        · refine e_L 1 (f' := (165, [(0, .ref 151)], [.ref 151])) rfl ?_
          refine e_gJ 12 5 rfl rfl lc_151 ?_
          refine e_gs (w := .long (512735409267 : Int64)) rfl rfl ?_
          refine e_L 1 (f' := (172, [(0, .ref 151)], [.int (lg_cmp (s6.2.1 151 5) (512735409267 : Int64))])) rfl ?_
          refine e_ifz 180 rfl rfl rfl (fun c11 => ?_) (fun c11 => ?_)
          · refine e_L 1 (f' := (181, [(0, .ref 151)], [.ref 151])) rfl ?_
            refine e_gJ 12 5 rfl rfl lc_151 ?_
            refine e_gs (w := .long (1751477348 : Int64)) rfl rfl ?_
            refine e_L 1 (f' := (188, [(0, .ref 151)], [.int (lg_cmp (s6.2.1 151 5) (1751477348 : Int64))])) rfl ?_
            refine e_ifz 196 rfl rfl rfl (fun c12 => ?_) (fun c12 => ?_)
            · refine e_L 1 (f' := (198, [(0, .ref 151)], [.int (21 : Int32)])) rfl ?_
              exact qE_sub (qsubL [0] rfl (ks := [0]) rfl (by decide))
            · refine e_L 2 (f' := (198, [(0, .ref 151)], [.int (20 : Int32)])) rfl ?_
              exact qE_sub (qsubL [0] rfl (ks := [0]) rfl (by decide))
          · refine e_L 2 (f' := (198, [(0, .ref 151)], [.int (19 : Int32)])) rfl ?_
            exact qE_sub (qsubL [0] rfl (ks := [0]) rfl (by decide))
        · refine e_L 2 (f' := (198, [(0, .ref 151)], [.int (18 : Int32)])) rfl ?_
          exact qE_sub (qsubL [0] rfl (ks := [0]) rfl (by decide))
      · refine e_L 2 (f' := (198, [(0, .ref 151)], [.int (17 : Int32)])) rfl ?_
        exact qE_sub (qsubL [0] rfl (ks := [0]) rfl (by decide))
    · refine e_L 2 (f' := (17, [(0, .ref 151)], [.ref 151, .ref 151])) rfl ?_
      refine e_gJ 12 5 rfl rfl lc_151 ?_
      refine e_vI 256 rfl rfl ix_X12_cellOf rfl (q_recvOf lc_151 rfl) (Nat.le_of_ble_eq_true rfl) (fun w13 s14 e15 => ?_)
      refine e_L 3 (f' := (26, [(1, .int w13), (0, .ref 151)], [.ref 151, .ref 151])) rfl ?_
      refine e_gJ 12 5 rfl rfl lc_151 ?_
      refine e_vI 258 rfl rfl ix_X12_threadOf rfl (q_recvOf lc_151 rfl) (Nat.le_of_ble_eq_true rfl) (fun w16 s17 e18 => ?_)
      refine e_L 2 (f' := (34, [(2, .int w16), (1, .int w13), (0, .ref 151)], [.ref 151])) rfl ?_
      refine e_vV 249 rfl rfl ix_X12_next rfl (q_recvOf lc_151 rfl) (Nat.le_of_ble_eq_true rfl) (fun s20 e21 => ?_)
      refine e_L 2 (f' := (39, [(2, .int w16), (1, .int w13), (0, .ref 151)], [.int (-1 : Int32), .int w13])) rfl ?_
      refine e_icmp 50 rfl rfl rfl (fun c22 => ?_) (fun c22 => ?_)
      · refine e_L 2 (f' := (53, [(2, .int w16), (1, .int w13), (0, .ref 151)], [.int (46 : Int32), .ref 151])) rfl ?_
        refine e_vV 252 rfl rfl ix_X12_must rfl (q_recvOf lc_151 rfl) (Nat.le_of_ble_eq_true rfl) (fun s24 e25 => ?_)
        refine e_L 1 (f' := (57, [(2, .int w16), (1, .int w13), (0, .ref 151)], [.ref 151])) rfl ?_
        refine e_vI 243 rfl rfl ix_X12_good rfl (q_recvOf lc_151 rfl) (Nat.le_of_ble_eq_true rfl) (fun w26 s27 e28 => ?_)
        refine e_ifz 72 rfl rfl rfl (fun c29 => ?_) (fun c29 => ?_)
        · exact qE_sub (qsubL [2, 0] rfl (ks := [2, 1, 0]) rfl (by decide))
        · refine e_L 2 (f' := (65, [(2, .int w16), (1, .int w13), (0, .ref 151)], [.ref 151, .ref 151])) rfl ?_
          refine e_vI 254 rfl rfl ix_X12_isName rfl (q_recvOf lc_151 rfl) (Nat.le_of_ble_eq_true rfl) (fun w30 s31 e32 => ?_)
          refine e_L 1 (f' := (69, [(2, .int w16), (1, .int w13), (0, .ref 151)], [.int (2 : Int32), .int w30, .ref 151])) rfl ?_
          refine e_vV 245 rfl rfl ix_X12_need rfl (q_recvOf lc_151 rfl) (Nat.le_of_ble_eq_true rfl) (fun s34 e35 => ?_)
          exact qE_sub (qsubL [2, 0] rfl (ks := [2, 1, 0]) rfl (by decide))
      · refine e_L 3 (f' := (46, [(2, .int w16), (1, .int w13), (0, .ref 151)], [.int w13, .int (15 : Int32), .ref 151])) rfl ?_
        refine e_vV 262 rfl rfl ix_X12_emit rfl (q_recvOf lc_151 rfl) (Nat.le_of_ble_eq_true rfl) (fun s37 e38 => ?_)
        exact e_rV rfl rfl
  · exact e_rV rfl rfl
noncomputable def L_X12_openBlock_22 (en : pN) (d : Nat) (v1 : Int32) (v2 : Int32) (vs1 : Int32) (s : qS) : Option qR := qE (qev en d) en none tb_X12_openBlock (22, [(0, .ref 151), (1, .int v1), (2, .int v2)], [.int vs1, .ref 151]) s
noncomputable def L_X12_openBlock_26 (en : pN) (d : Nat) (v1 : Int32) (v2 : Int32) (s : qS) : Option qR := qE (qev en d) en none tb_X12_openBlock (26, [(0, .ref 151), (1, .int v1), (2, .int v2)], []) s
noncomputable def L_X12_openBlock_48 (en : pN) (d : Nat) (v1 : Int32) (v2 : Int32) (vs1 : Int32) (s : qS) : Option qR := qE (qev en d) en none tb_X12_openBlock (48, [(0, .ref 151), (1, .int v1), (2, .int v2)], [.int vs1, .ref 151]) s
noncomputable def L_X12_openBlock_52 (en : pN) (d : Nat) (v1 : Int32) (v2 : Int32) (s : qS) : Option qR := qE (qev en d) en none tb_X12_openBlock (52, [(0, .ref 151), (1, .int v1), (2, .int v2)], []) s
noncomputable def L_X12_openBlock_100 (en : pN) (d : Nat) (s : qS) : Option qR := qE (qev en d) en none tb_X12_openBlock (100, [(0, .ref 151)], []) s
set_option maxRecDepth 100000 in
set_option maxHeartbeats 4000000 in
theorem le_X12_openBlock_22 (en : pN) (d : Nat) (v1 : Int32) (v2 : Int32) (vs1 : Int32) (s : qS) : qle (bV (qev en d 245 [.ref 151, .int vs1, .int (2 : Int32)] s) (fun s2 => L_X12_openBlock_26 en d v1 v2 s2)) (L_X12_openBlock_22 en d v1 v2 vs1 s) := by
  show qle _ (qE (qev en d) en none tb_X12_openBlock (22, [(0, .ref 151), (1, .int v1), (2, .int v2)], [.int vs1, .ref 151]) s)
  refine e_L 1 (f' := (23, [(0, .ref 151), (1, .int v1), (2, .int v2)], [.int (2 : Int32), .int vs1, .ref 151])) rfl ?_
  refine e_vV 245 rfl rfl ix_X12_need rfl (q_recvOf lc_151 rfl) (Nat.le_of_ble_eq_true rfl) (fun s2 e3 => ?_)
  exact qE_sub (qsubL [0, 1, 2] rfl (ks := [0, 1, 2]) rfl (by decide))
set_option maxRecDepth 100000 in
set_option maxHeartbeats 4000000 in
theorem le_X12_openBlock_26 (en : pN) (d : Nat) (v1 : Int32) (v2 : Int32) (s : qS) : qle (bI (qev en d 243 [.ref 151] s) (fun w1 s2 => if w1 = (0 : Int32) then L_X12_openBlock_52 en d v1 v2 s2 else if (8 : Int32) < (s2.1 151 56) then L_X12_openBlock_48 en d v1 v2 (0 : Int32) s2 else L_X12_openBlock_48 en d v1 v2 (1 : Int32) s2)) (L_X12_openBlock_26 en d v1 v2 s) := by
  show qle _ (qE (qev en d) en none tb_X12_openBlock (26, [(0, .ref 151), (1, .int v1), (2, .int v2)], []) s)
  refine e_L 1 (f' := (27, [(0, .ref 151), (1, .int v1), (2, .int v2)], [.ref 151])) rfl ?_
  refine e_vI 243 rfl rfl ix_X12_good rfl (q_recvOf lc_151 rfl) (Nat.le_of_ble_eq_true rfl) (fun w1 s2 e3 => ?_)
  refine e_ifz 52 rfl rfl rfl (fun c4 => ?_) (fun c4 => ?_)
  · exact qE_sub (qsubL [0, 1, 2] rfl (ks := [0, 1, 2]) rfl (by decide))
  · refine e_L 2 (f' := (35, [(0, .ref 151), (1, .int v1), (2, .int v2)], [.ref 151, .ref 151])) rfl ?_
    refine e_gI 12 56 rfl rfl lc_151 ?_
    refine e_L 1 (f' := (40, [(0, .ref 151), (1, .int v1), (2, .int v2)], [.int (8 : Int32), .int (s2.1 151 56), .ref 151])) rfl ?_
    refine e_icmp 47 rfl rfl rfl (fun c5 => ?_) (fun c5 => ?_)
    · refine e_L 1 (f' := (48, [(0, .ref 151), (1, .int v1), (2, .int v2)], [.int (0 : Int32), .ref 151])) rfl ?_
      exact qE_sub (qsubL [0, 1, 2] rfl (ks := [0, 1, 2]) rfl (by decide))
    · refine e_L 2 (f' := (48, [(0, .ref 151), (1, .int v1), (2, .int v2)], [.int (1 : Int32), .ref 151])) rfl ?_
      exact qE_sub (qsubL [0, 1, 2] rfl (ks := [0, 1, 2]) rfl (by decide))
set_option maxRecDepth 100000 in
set_option maxHeartbeats 4000000 in
theorem le_X12_openBlock_48 (en : pN) (d : Nat) (v1 : Int32) (v2 : Int32) (vs1 : Int32) (s : qS) : qle (bV (qev en d 245 [.ref 151, .int vs1, .int (4 : Int32)] s) (fun s2 => L_X12_openBlock_52 en d v1 v2 s2)) (L_X12_openBlock_48 en d v1 v2 vs1 s) := by
  show qle _ (qE (qev en d) en none tb_X12_openBlock (48, [(0, .ref 151), (1, .int v1), (2, .int v2)], [.int vs1, .ref 151]) s)
  refine e_L 1 (f' := (49, [(0, .ref 151), (1, .int v1), (2, .int v2)], [.int (4 : Int32), .int vs1, .ref 151])) rfl ?_
  refine e_vV 245 rfl rfl ix_X12_need rfl (q_recvOf lc_151 rfl) (Nat.le_of_ble_eq_true rfl) (fun s2 e3 => ?_)
  exact qE_sub (qsubL [0, 1, 2] rfl (ks := [0, 1, 2]) rfl (by decide))
set_option maxRecDepth 100000 in
set_option maxHeartbeats 4000000 in
theorem le_X12_openBlock_52 (en : pN) (d : Nat) (v1 : Int32) (v2 : Int32) (s : qS) : qle (bI (qev en d 243 [.ref 151] s) (fun w1 s2 => if w1 = (0 : Int32) then L_X12_openBlock_100 en d s2 else gd (p_inB (s2.1 151 56) 12 = true) (nm (uI s2 184 ((s2.1 151 56).toNatClampNeg) v1) (fun s6 => gd (p_inB (s6.1 151 56) 12 = true) (nm (uI s6 185 ((s6.1 151 56).toNatClampNeg) v2) (fun s8 => gd (p_inB (s8.1 151 56) 12 = true) (nm (uI s8 186 ((s8.1 151 56).toNatClampNeg) (-2 : Int32)) (fun s10 => nm (uI s10 151 56 ((s10.1 151 56) + (1 : Int32))) (fun s11 => L_X12_openBlock_100 en d s11))))))))) (L_X12_openBlock_52 en d v1 v2 s) := by
  show qle _ (qE (qev en d) en none tb_X12_openBlock (52, [(0, .ref 151), (1, .int v1), (2, .int v2)], []) s)
  refine e_L 1 (f' := (53, [(0, .ref 151), (1, .int v1), (2, .int v2)], [.ref 151])) rfl ?_
  refine e_vI 243 rfl rfl ix_X12_good rfl (q_recvOf lc_151 rfl) (Nat.le_of_ble_eq_true rfl) (fun w1 s2 e3 => ?_)
  refine e_ifz 100 rfl rfl rfl (fun c4 => ?_) (fun c4 => ?_)
  · exact qE_sub (qsubL [0] rfl (ks := [0, 1, 2]) rfl (by decide))
  · refine e_L 1 (f' := (60, [(0, .ref 151), (1, .int v1), (2, .int v2)], [.ref 151])) rfl ?_
    refine e_gR (q := 184) 12 53 rfl rfl lc_151 lr_151_53 ?_
    refine e_L 1 (f' := (64, [(0, .ref 151), (1, .int v1), (2, .int v2)], [.ref 151, .ref 184])) rfl ?_
    refine e_gI 12 56 rfl rfl lc_151 ?_
    refine e_L 1 (f' := (68, [(0, .ref 151), (1, .int v1), (2, .int v2)], [.int v1, .int (s2.1 151 56), .ref 184])) rfl ?_
    refine qle_gd fun h5 => ?_
    refine e_ias (n := 12) (k := (s2.1 151 56).toNatClampNeg) rfl lc_184 ln_184 h5 rfl ?_
    refine e_nS fun s6 => ?_
    refine e_L 1 (f' := (70, [(0, .ref 151), (1, .int v1), (2, .int v2)], [.ref 151])) rfl ?_
    refine e_gR (q := 185) 12 54 rfl rfl lc_151 lr_151_54 ?_
    refine e_L 1 (f' := (74, [(0, .ref 151), (1, .int v1), (2, .int v2)], [.ref 151, .ref 185])) rfl ?_
    refine e_gI 12 56 rfl rfl lc_151 ?_
    refine e_L 1 (f' := (78, [(0, .ref 151), (1, .int v1), (2, .int v2)], [.int v2, .int (s6.1 151 56), .ref 185])) rfl ?_
    refine qle_gd fun h7 => ?_
    refine e_ias (n := 12) (k := (s6.1 151 56).toNatClampNeg) rfl lc_185 ln_185 h7 rfl ?_
    refine e_nS fun s8 => ?_
    refine e_L 1 (f' := (80, [(0, .ref 151), (1, .int v1), (2, .int v2)], [.ref 151])) rfl ?_
    refine e_gR (q := 186) 12 55 rfl rfl lc_151 lr_151_55 ?_
    refine e_L 1 (f' := (84, [(0, .ref 151), (1, .int v1), (2, .int v2)], [.ref 151, .ref 186])) rfl ?_
    refine e_gI 12 56 rfl rfl lc_151 ?_
    refine e_L 1 (f' := (89, [(0, .ref 151), (1, .int v1), (2, .int v2)], [.int (-2 : Int32), .int (s8.1 151 56), .ref 186])) rfl ?_
    refine qle_gd fun h9 => ?_
    refine e_ias (n := 12) (k := (s8.1 151 56).toNatClampNeg) rfl lc_186 ln_186 h9 rfl ?_
    refine e_nS fun s10 => ?_
    refine e_L 2 (f' := (92, [(0, .ref 151), (1, .int v1), (2, .int v2)], [.ref 151, .ref 151])) rfl ?_
    refine e_gI 12 56 rfl rfl lc_151 ?_
    refine e_L 2 (f' := (97, [(0, .ref 151), (1, .int v1), (2, .int v2)], [.int ((s10.1 151 56) + (1 : Int32)), .ref 151])) rfl ?_
    refine e_pI 12 56 rfl rfl lc_151 rfl ?_
    refine e_nS fun s11 => ?_
    exact qE_sub (qsubL [0] rfl (ks := [0, 1, 2]) rfl (by decide))
set_option maxRecDepth 100000 in
set_option maxHeartbeats 4000000 in
theorem le_X12_openBlock_100 (en : pN) (d : Nat) (s : qS) : qle (bV (qev en d 249 [.ref 151] s) (fun s2 => some (none, s2))) (L_X12_openBlock_100 en d s) := by
  show qle _ (qE (qev en d) en none tb_X12_openBlock (100, [(0, .ref 151)], []) s)
  refine e_L 1 (f' := (101, [(0, .ref 151)], [.ref 151])) rfl ?_
  refine e_vV 249 rfl rfl ix_X12_next rfl (q_recvOf lc_151 rfl) (Nat.le_of_ble_eq_true rfl) (fun s2 e3 => ?_)
  exact e_rV rfl rfl
set_option maxRecDepth 100000 in
set_option maxHeartbeats 4000000 in
theorem le_X12_openBlock (en : pN) (d : Nat) (a1 : Int32) (a2 : Int32) (s : qS) : qle (bI (qev en d 243 [.ref 151] s) (fun w1 s2 => if w1 = (0 : Int32) then L_X12_openBlock_26 en d a1 a2 s2 else if ¬ (s2.1 151 3) = (123 : Int32) then L_X12_openBlock_22 en d a1 a2 (0 : Int32) s2 else L_X12_openBlock_22 en d a1 a2 (1 : Int32) s2)) (qev en (d + 1) 274 [.ref 151, .int a1, .int a2] s) := by
  refine e_enter ix_X12_openBlock (Nat.le_of_ble_eq_true rfl) ?_
  show qle _ (qE (qev en d) en none tb_X12_openBlock (0, [(0, .ref 151), (1, .int a1), (2, .int a2)], []) s)
  refine e_L 1 (f' := (1, [(0, .ref 151), (1, .int a1), (2, .int a2)], [.ref 151])) rfl ?_
  refine e_vI 243 rfl rfl ix_X12_good rfl (q_recvOf lc_151 rfl) (Nat.le_of_ble_eq_true rfl) (fun w1 s2 e3 => ?_)
  refine e_ifz 26 rfl rfl rfl (fun c4 => ?_) (fun c4 => ?_)
  · exact qE_sub (qsubL [0, 1, 2] rfl (ks := [0, 1, 2]) rfl (by decide))
  · refine e_L 2 (f' := (9, [(0, .ref 151), (1, .int a1), (2, .int a2)], [.ref 151, .ref 151])) rfl ?_
    refine e_gI 12 3 rfl rfl lc_151 ?_
    refine e_L 1 (f' := (14, [(0, .ref 151), (1, .int a1), (2, .int a2)], [.int (123 : Int32), .int (s2.1 151 3), .ref 151])) rfl ?_
    refine e_icmp 21 rfl rfl rfl (fun c5 => ?_) (fun c5 => ?_)
    · refine e_L 1 (f' := (22, [(0, .ref 151), (1, .int a1), (2, .int a2)], [.int (0 : Int32), .ref 151])) rfl ?_
      exact qE_sub (qsubL [0, 1, 2] rfl (ks := [0, 1, 2]) rfl (by decide))
    · refine e_L 2 (f' := (22, [(0, .ref 151), (1, .int a1), (2, .int a2)], [.int (1 : Int32), .ref 151])) rfl ?_
      exact qE_sub (qsubL [0, 1, 2] rfl (ks := [0, 1, 2]) rfl (by decide))
noncomputable def L_X12_newLine_261 (en : pN) (d : Nat) (v2 : Int32) (s : qS) : Option qR := qE (qev en d) en (some .int) tb_X12_newLine (261, [(0, .ref 151), (2, .int v2)], []) s
set_option maxRecDepth 100000 in
set_option maxHeartbeats 4000000 in
theorem le_X12_newLine_261 (en : pN) (d : Nat) (v2 : Int32) (s : qS) : qle (gd (p_inB ((s.1 151 56) - (1 : Int32)) 12 = true) (nm (uI s 186 (((s.1 151 56) - (1 : Int32)).toNatClampNeg) v2) (fun s2 => nm (uI s2 151 32 ((s2.1 151 32) + (1 : Int32))) (fun s3 => some (some (.int v2), s3))))) (L_X12_newLine_261 en d v2 s) := by
  show qle _ (qE (qev en d) en (some .int) tb_X12_newLine (261, [(0, .ref 151), (2, .int v2)], []) s)
  refine e_L 1 (f' := (262, [(0, .ref 151), (2, .int v2)], [.ref 151])) rfl ?_
  refine e_gR (q := 186) 12 55 rfl rfl lc_151 lr_151_55 ?_
  refine e_L 1 (f' := (266, [(0, .ref 151), (2, .int v2)], [.ref 151, .ref 186])) rfl ?_
  refine e_gI 12 56 rfl rfl lc_151 ?_
  refine e_L 3 (f' := (272, [(0, .ref 151), (2, .int v2)], [.int v2, .int ((s.1 151 56) - (1 : Int32)), .ref 186])) rfl ?_
  refine qle_gd fun h1 => ?_
  refine e_ias (n := 12) (k := ((s.1 151 56) - (1 : Int32)).toNatClampNeg) rfl lc_186 ln_186 h1 rfl ?_
  refine e_nS fun s2 => ?_
  refine e_L 2 (f' := (275, [(0, .ref 151), (2, .int v2)], [.ref 151, .ref 151])) rfl ?_
  refine e_gI 12 32 rfl rfl lc_151 ?_
  refine e_L 2 (f' := (280, [(0, .ref 151), (2, .int v2)], [.int ((s2.1 151 32) + (1 : Int32)), .ref 151])) rfl ?_
  refine e_pI 12 32 rfl rfl lc_151 rfl ?_
  refine e_nS fun s3 => ?_
  refine e_L 1 (f' := (284, [(0, .ref 151), (2, .int v2)], [.int v2])) rfl ?_
  exact e_rI rfl rfl
set_option maxRecDepth 100000 in
set_option maxHeartbeats 4000000 in
theorem le_X12_newLine (en : pN) (d : Nat) (a1 : Int32) (s : qS) : qle (gd (p_inB (s.1 151 32) 400 = true) (nm (uI s 164 ((s.1 151 32).toNatClampNeg) a1) (fun s2 => nm (uI s2 165 ((s.1 151 32).toNatClampNeg) ((s2.1 151 18) - (1 : Int32))) (fun s3 => nm (uI s3 166 ((s.1 151 32).toNatClampNeg) (-2 : Int32)) (fun s4 => nm (uI s4 167 ((s.1 151 32).toNatClampNeg) (-2 : Int32)) (fun s5 => nm (uI s5 168 ((s.1 151 32).toNatClampNeg) ((s5.1 151 56) - (1 : Int32))) (fun s6 => gd (p_inB ((s6.1 151 56) - (1 : Int32)) 12 = true) (nm (uI s6 169 ((s.1 151 32).toNatClampNeg) (s6.1 184 ((s6.1 151 56) - (1 : Int32)).toNatClampNeg)) (fun s8 => gd (p_inB ((s8.1 151 56) - (1 : Int32)) 12 = true) (nm (uI s8 170 ((s.1 151 32).toNatClampNeg) (s8.1 185 ((s8.1 151 56) - (1 : Int32)).toNatClampNeg)) (fun s10 => nm (uI s10 171 ((s.1 151 32).toNatClampNeg) (-2 : Int32)) (fun s11 => nm (uI s11 172 ((s.1 151 32).toNatClampNeg) (-2 : Int32)) (fun s12 => nm (uI s12 173 ((s.1 151 32).toNatClampNeg) (-2 : Int32)) (fun s13 => nm (uI s13 175 ((s.1 151 32).toNatClampNeg) (vp_nar .boolean (0 : Int32))) (fun s14 => nm (uI s14 176 ((s.1 151 32).toNatClampNeg) (s14.1 151 25)) (fun s15 => nm (uI s15 177 ((s.1 151 32).toNatClampNeg) (s15.1 151 25)) (fun s16 => nm (uI s16 178 ((s.1 151 32).toNatClampNeg) (s16.1 151 25)) (fun s17 => nm (uI s17 179 ((s.1 151 32).toNatClampNeg) (s17.1 151 25)) (fun s18 => nm (uJ s18 180 ((s.1 151 32).toNatClampNeg) (0 : Int64)) (fun s19 => gd (p_inB (s.1 151 32) 100 = true) (nm (uJ s19 182 ((s.1 151 32).toNatClampNeg) (0 : Int64)) (fun s21 => gd (p_inB ((s21.1 151 56) - (1 : Int32)) 12 = true) (nm (s21.1 186 ((s21.1 151 56) - (1 : Int32)).toNatClampNeg) (fun z23 => if z23 = (-2 : Int32) then if ¬ (s21.1 169 (s.1 151 32).toNatClampNeg) = (-2 : Int32) then if ¬ (s21.1 170 (s.1 151 32).toNatClampNeg) = (0 : Int32) then gd (p_inB (s21.1 169 (s.1 151 32).toNatClampNeg) 400 = true) (nm (uI s21 173 ((s21.1 169 (s.1 151 32).toNatClampNeg).toNatClampNeg) (s.1 151 32)) (fun s28 => L_X12_newLine_261 en d (s.1 151 32) s28)) else gd (p_inB (s21.1 169 (s.1 151 32).toNatClampNeg) 400 = true) (nm (uI s21 172 ((s21.1 169 (s.1 151 32).toNatClampNeg).toNatClampNeg) (s.1 151 32)) (fun s30 => L_X12_newLine_261 en d (s.1 151 32) s30)) else gd (p_inB ((s21.1 151 18) - (1 : Int32)) 16 = true) (nm (uI s21 181 (((s21.1 151 18) - (1 : Int32)).toNatClampNeg) (s.1 151 32)) (fun s32 => L_X12_newLine_261 en d (s.1 151 32) s32)) else gd (p_inB z23 400 = true) (nm (uI s21 171 (z23.toNatClampNeg) (s.1 151 32)) (fun s34 => L_X12_newLine_261 en d (s.1 151 32) s34)))))))))))))))))))))))))) (qev en (d + 1) 275 [.ref 151, .int a1] s) := by
  refine e_enter ix_X12_newLine (Nat.le_of_ble_eq_true rfl) ?_
  show qle _ (qE (qev en d) en (some .int) tb_X12_newLine (0, [(0, .ref 151), (1, .int a1)], []) s)
  refine e_L 1 (f' := (1, [(0, .ref 151), (1, .int a1)], [.ref 151])) rfl ?_
  refine e_gI 12 32 rfl rfl lc_151 ?_
  refine e_L 2 (f' := (6, [(2, .int (s.1 151 32)), (0, .ref 151), (1, .int a1)], [.ref 151])) rfl ?_
  refine e_gR (q := 164) 12 33 rfl rfl lc_151 lr_151_33 ?_
  refine e_L 2 (f' := (11, [(2, .int (s.1 151 32)), (0, .ref 151), (1, .int a1)], [.int a1, .int (s.1 151 32), .ref 164])) rfl ?_
  refine qle_gd fun h1 => ?_
  refine e_ias (n := 400) (k := (s.1 151 32).toNatClampNeg) rfl lc_164 ln_164 h1 rfl ?_
  refine e_nS fun s2 => ?_
  refine e_L 1 (f' := (13, [(2, .int (s.1 151 32)), (0, .ref 151), (1, .int a1)], [.ref 151])) rfl ?_
  refine e_gR (q := 165) 12 34 rfl rfl lc_151 lr_151_34 ?_
  refine e_L 2 (f' := (18, [(2, .int (s.1 151 32)), (0, .ref 151), (1, .int a1)], [.ref 151, .int (s.1 151 32), .ref 165])) rfl ?_
  refine e_gI 12 18 rfl rfl lc_151 ?_
  refine e_L 2 (f' := (23, [(2, .int (s.1 151 32)), (0, .ref 151), (1, .int a1)], [.int ((s2.1 151 18) - (1 : Int32)), .int (s.1 151 32), .ref 165])) rfl ?_
  refine e_ias (n := 400) (k := (s.1 151 32).toNatClampNeg) rfl lc_165 ln_165 h1 rfl ?_
  refine e_nS fun s3 => ?_
  refine e_L 1 (f' := (25, [(2, .int (s.1 151 32)), (0, .ref 151), (1, .int a1)], [.ref 151])) rfl ?_
  refine e_gR (q := 166) 12 35 rfl rfl lc_151 lr_151_35 ?_
  refine e_L 2 (f' := (31, [(2, .int (s.1 151 32)), (0, .ref 151), (1, .int a1)], [.int (-2 : Int32), .int (s.1 151 32), .ref 166])) rfl ?_
  refine e_ias (n := 400) (k := (s.1 151 32).toNatClampNeg) rfl lc_166 ln_166 h1 rfl ?_
  refine e_nS fun s4 => ?_
  refine e_L 1 (f' := (33, [(2, .int (s.1 151 32)), (0, .ref 151), (1, .int a1)], [.ref 151])) rfl ?_
  refine e_gR (q := 167) 12 36 rfl rfl lc_151 lr_151_36 ?_
  refine e_L 2 (f' := (39, [(2, .int (s.1 151 32)), (0, .ref 151), (1, .int a1)], [.int (-2 : Int32), .int (s.1 151 32), .ref 167])) rfl ?_
  refine e_ias (n := 400) (k := (s.1 151 32).toNatClampNeg) rfl lc_167 ln_167 h1 rfl ?_
  refine e_nS fun s5 => ?_
  refine e_L 1 (f' := (41, [(2, .int (s.1 151 32)), (0, .ref 151), (1, .int a1)], [.ref 151])) rfl ?_
  refine e_gR (q := 168) 12 37 rfl rfl lc_151 lr_151_37 ?_
  refine e_L 2 (f' := (46, [(2, .int (s.1 151 32)), (0, .ref 151), (1, .int a1)], [.ref 151, .int (s.1 151 32), .ref 168])) rfl ?_
  refine e_gI 12 56 rfl rfl lc_151 ?_
  refine e_L 2 (f' := (51, [(2, .int (s.1 151 32)), (0, .ref 151), (1, .int a1)], [.int ((s5.1 151 56) - (1 : Int32)), .int (s.1 151 32), .ref 168])) rfl ?_
  refine e_ias (n := 400) (k := (s.1 151 32).toNatClampNeg) rfl lc_168 ln_168 h1 rfl ?_
  refine e_nS fun s6 => ?_
  refine e_L 1 (f' := (53, [(2, .int (s.1 151 32)), (0, .ref 151), (1, .int a1)], [.ref 151])) rfl ?_
  refine e_gR (q := 169) 12 38 rfl rfl lc_151 lr_151_38 ?_
  refine e_L 2 (f' := (58, [(2, .int (s.1 151 32)), (0, .ref 151), (1, .int a1)], [.ref 151, .int (s.1 151 32), .ref 169])) rfl ?_
  refine e_gR (q := 184) 12 53 rfl rfl lc_151 lr_151_53 ?_
  refine e_L 1 (f' := (62, [(2, .int (s.1 151 32)), (0, .ref 151), (1, .int a1)], [.ref 151, .ref 184, .int (s.1 151 32), .ref 169])) rfl ?_
  refine e_gI 12 56 rfl rfl lc_151 ?_
  refine e_L 2 (f' := (67, [(2, .int (s.1 151 32)), (0, .ref 151), (1, .int a1)], [.int ((s6.1 151 56) - (1 : Int32)), .ref 184, .int (s.1 151 32), .ref 169])) rfl ?_
  refine qle_gd fun h7 => ?_
  refine e_ial (n := 12) (k := ((s6.1 151 56) - (1 : Int32)).toNatClampNeg) rfl lc_184 ln_184 h7 rfl ?_
  refine e_ias (n := 400) (k := (s.1 151 32).toNatClampNeg) rfl lc_169 ln_169 h1 rfl ?_
  refine e_nS fun s8 => ?_
  refine e_L 1 (f' := (70, [(2, .int (s.1 151 32)), (0, .ref 151), (1, .int a1)], [.ref 151])) rfl ?_
  refine e_gR (q := 170) 12 39 rfl rfl lc_151 lr_151_39 ?_
  refine e_L 2 (f' := (75, [(2, .int (s.1 151 32)), (0, .ref 151), (1, .int a1)], [.ref 151, .int (s.1 151 32), .ref 170])) rfl ?_
  refine e_gR (q := 185) 12 54 rfl rfl lc_151 lr_151_54 ?_
  refine e_L 1 (f' := (79, [(2, .int (s.1 151 32)), (0, .ref 151), (1, .int a1)], [.ref 151, .ref 185, .int (s.1 151 32), .ref 170])) rfl ?_
  refine e_gI 12 56 rfl rfl lc_151 ?_
  refine e_L 2 (f' := (84, [(2, .int (s.1 151 32)), (0, .ref 151), (1, .int a1)], [.int ((s8.1 151 56) - (1 : Int32)), .ref 185, .int (s.1 151 32), .ref 170])) rfl ?_
  refine qle_gd fun h9 => ?_
  refine e_ial (n := 12) (k := ((s8.1 151 56) - (1 : Int32)).toNatClampNeg) rfl lc_185 ln_185 h9 rfl ?_
  refine e_ias (n := 400) (k := (s.1 151 32).toNatClampNeg) rfl lc_170 ln_170 h1 rfl ?_
  refine e_nS fun s10 => ?_
  refine e_L 1 (f' := (87, [(2, .int (s.1 151 32)), (0, .ref 151), (1, .int a1)], [.ref 151])) rfl ?_
  refine e_gR (q := 171) 12 40 rfl rfl lc_151 lr_151_40 ?_
  refine e_L 2 (f' := (93, [(2, .int (s.1 151 32)), (0, .ref 151), (1, .int a1)], [.int (-2 : Int32), .int (s.1 151 32), .ref 171])) rfl ?_
  refine e_ias (n := 400) (k := (s.1 151 32).toNatClampNeg) rfl lc_171 ln_171 h1 rfl ?_
  refine e_nS fun s11 => ?_
  refine e_L 1 (f' := (95, [(2, .int (s.1 151 32)), (0, .ref 151), (1, .int a1)], [.ref 151])) rfl ?_
  refine e_gR (q := 172) 12 41 rfl rfl lc_151 lr_151_41 ?_
  refine e_L 2 (f' := (101, [(2, .int (s.1 151 32)), (0, .ref 151), (1, .int a1)], [.int (-2 : Int32), .int (s.1 151 32), .ref 172])) rfl ?_
  refine e_ias (n := 400) (k := (s.1 151 32).toNatClampNeg) rfl lc_172 ln_172 h1 rfl ?_
  refine e_nS fun s12 => ?_
  refine e_L 1 (f' := (103, [(2, .int (s.1 151 32)), (0, .ref 151), (1, .int a1)], [.ref 151])) rfl ?_
  refine e_gR (q := 173) 12 42 rfl rfl lc_151 lr_151_42 ?_
  refine e_L 2 (f' := (109, [(2, .int (s.1 151 32)), (0, .ref 151), (1, .int a1)], [.int (-2 : Int32), .int (s.1 151 32), .ref 173])) rfl ?_
  refine e_ias (n := 400) (k := (s.1 151 32).toNatClampNeg) rfl lc_173 ln_173 h1 rfl ?_
  refine e_nS fun s13 => ?_
  refine e_L 1 (f' := (111, [(2, .int (s.1 151 32)), (0, .ref 151), (1, .int a1)], [.ref 151])) rfl ?_
  refine e_gR (q := 175) 12 44 rfl rfl lc_151 lr_151_44 ?_
  refine e_L 2 (f' := (116, [(2, .int (s.1 151 32)), (0, .ref 151), (1, .int a1)], [.int (0 : Int32), .int (s.1 151 32), .ref 175])) rfl ?_
  refine e_bas (n := 400) (k := (s.1 151 32).toNatClampNeg) rfl lc_175 ln_175 h1 rfl ?_
  refine e_nS fun s14 => ?_
  refine e_L 1 (f' := (118, [(2, .int (s.1 151 32)), (0, .ref 151), (1, .int a1)], [.ref 151])) rfl ?_
  refine e_gR (q := 176) 12 45 rfl rfl lc_151 lr_151_45 ?_
  refine e_L 2 (f' := (123, [(2, .int (s.1 151 32)), (0, .ref 151), (1, .int a1)], [.ref 151, .int (s.1 151 32), .ref 176])) rfl ?_
  refine e_gI 12 25 rfl rfl lc_151 ?_
  refine e_ias (n := 400) (k := (s.1 151 32).toNatClampNeg) rfl lc_176 ln_176 h1 rfl ?_
  refine e_nS fun s15 => ?_
  refine e_L 1 (f' := (128, [(2, .int (s.1 151 32)), (0, .ref 151), (1, .int a1)], [.ref 151])) rfl ?_
  refine e_gR (q := 177) 12 46 rfl rfl lc_151 lr_151_46 ?_
  refine e_L 2 (f' := (133, [(2, .int (s.1 151 32)), (0, .ref 151), (1, .int a1)], [.ref 151, .int (s.1 151 32), .ref 177])) rfl ?_
  refine e_gI 12 25 rfl rfl lc_151 ?_
  refine e_ias (n := 400) (k := (s.1 151 32).toNatClampNeg) rfl lc_177 ln_177 h1 rfl ?_
  refine e_nS fun s16 => ?_
  refine e_L 1 (f' := (138, [(2, .int (s.1 151 32)), (0, .ref 151), (1, .int a1)], [.ref 151])) rfl ?_
  refine e_gR (q := 178) 12 47 rfl rfl lc_151 lr_151_47 ?_
  refine e_L 2 (f' := (143, [(2, .int (s.1 151 32)), (0, .ref 151), (1, .int a1)], [.ref 151, .int (s.1 151 32), .ref 178])) rfl ?_
  refine e_gI 12 25 rfl rfl lc_151 ?_
  refine e_ias (n := 400) (k := (s.1 151 32).toNatClampNeg) rfl lc_178 ln_178 h1 rfl ?_
  refine e_nS fun s17 => ?_
  refine e_L 1 (f' := (148, [(2, .int (s.1 151 32)), (0, .ref 151), (1, .int a1)], [.ref 151])) rfl ?_
  refine e_gR (q := 179) 12 48 rfl rfl lc_151 lr_151_48 ?_
  refine e_L 2 (f' := (153, [(2, .int (s.1 151 32)), (0, .ref 151), (1, .int a1)], [.ref 151, .int (s.1 151 32), .ref 179])) rfl ?_
  refine e_gI 12 25 rfl rfl lc_151 ?_
  refine e_ias (n := 400) (k := (s.1 151 32).toNatClampNeg) rfl lc_179 ln_179 h1 rfl ?_
  refine e_nS fun s18 => ?_
  refine e_L 1 (f' := (158, [(2, .int (s.1 151 32)), (0, .ref 151), (1, .int a1)], [.ref 151])) rfl ?_
  refine e_gR (q := 180) 12 49 rfl rfl lc_151 lr_151_49 ?_
  refine e_L 2 (f' := (163, [(2, .int (s.1 151 32)), (0, .ref 151), (1, .int a1)], [.long (0 : Int64), .int (s.1 151 32), .ref 180])) rfl ?_
  refine e_las (n := 400) (k := (s.1 151 32).toNatClampNeg) rfl lc_180 ln_180 h1 rfl ?_
  refine e_nS fun s19 => ?_
  refine e_L 1 (f' := (165, [(2, .int (s.1 151 32)), (0, .ref 151), (1, .int a1)], [.ref 151])) rfl ?_
  refine e_gR (q := 182) 12 51 rfl rfl lc_151 lr_151_51 ?_
  refine e_L 2 (f' := (170, [(2, .int (s.1 151 32)), (0, .ref 151), (1, .int a1)], [.long (0 : Int64), .int (s.1 151 32), .ref 182])) rfl ?_
  refine qle_gd fun h20 => ?_
  refine e_las (n := 100) (k := (s.1 151 32).toNatClampNeg) rfl lc_182 ln_182 h20 rfl ?_
  refine e_nS fun s21 => ?_
  refine e_L 1 (f' := (172, [(2, .int (s.1 151 32)), (0, .ref 151), (1, .int a1)], [.ref 151])) rfl ?_
  refine e_gR (q := 186) 12 55 rfl rfl lc_151 lr_151_55 ?_
  refine e_L 1 (f' := (176, [(2, .int (s.1 151 32)), (0, .ref 151), (1, .int a1)], [.ref 151, .ref 186])) rfl ?_
  refine e_gI 12 56 rfl rfl lc_151 ?_
  refine e_L 2 (f' := (181, [(2, .int (s.1 151 32)), (0, .ref 151), (1, .int a1)], [.int ((s21.1 151 56) - (1 : Int32)), .ref 186])) rfl ?_
  refine qle_gd fun h22 => ?_
  refine e_ial (n := 12) (k := ((s21.1 151 56) - (1 : Int32)).toNatClampNeg) rfl lc_186 ln_186 h22 rfl ?_
  refine e_nI fun z23 => ?_
  refine e_L 3 (f' := (186, [(3, .int z23), (2, .int (s.1 151 32)), (0, .ref 151), (1, .int a1)], [.int (-2 : Int32), .int z23])) rfl ?_
  refine e_icmp 199 rfl rfl rfl (fun c24 => ?_) (fun c24 => ?_)
  · refine e_L 1 (f' := (200, [(3, .int z23), (2, .int (s.1 151 32)), (0, .ref 151), (1, .int a1)], [.ref 151])) rfl ?_
    refine e_gR (q := 169) 12 38 rfl rfl lc_151 lr_151_38 ?_
    refine e_L 1 (f' := (204, [(3, .int z23), (2, .int (s.1 151 32)), (0, .ref 151), (1, .int a1)], [.int (s.1 151 32), .ref 169])) rfl ?_
    refine e_ial (n := 400) (k := (s.1 151 32).toNatClampNeg) rfl lc_169 ln_169 h1 rfl ?_
    refine e_L 1 (f' := (207, [(3, .int z23), (2, .int (s.1 151 32)), (0, .ref 151), (1, .int a1)], [.int (-2 : Int32), .int (s21.1 169 (s.1 151 32).toNatClampNeg)])) rfl ?_
    refine e_icmp 225 rfl rfl rfl (fun c25 => ?_) (fun c25 => ?_)
    · refine e_L 1 (f' := (226, [(3, .int z23), (2, .int (s.1 151 32)), (0, .ref 151), (1, .int a1)], [.ref 151])) rfl ?_
      refine e_gR (q := 170) 12 39 rfl rfl lc_151 lr_151_39 ?_
      refine e_L 1 (f' := (230, [(3, .int z23), (2, .int (s.1 151 32)), (0, .ref 151), (1, .int a1)], [.int (s.1 151 32), .ref 170])) rfl ?_
      refine e_ial (n := 400) (k := (s.1 151 32).toNatClampNeg) rfl lc_170 ln_170 h1 rfl ?_
      refine e_ifz 249 rfl rfl rfl (fun c26 => ?_) (fun c26 => ?_)
      · refine e_L 1 (f' := (250, [(3, .int z23), (2, .int (s.1 151 32)), (0, .ref 151), (1, .int a1)], [.ref 151])) rfl ?_
        refine e_gR (q := 173) 12 42 rfl rfl lc_151 lr_151_42 ?_
        refine e_L 1 (f' := (254, [(3, .int z23), (2, .int (s.1 151 32)), (0, .ref 151), (1, .int a1)], [.ref 151, .ref 173])) rfl ?_
        refine e_gR (q := 169) 12 38 rfl rfl lc_151 lr_151_38 ?_
        refine e_L 1 (f' := (258, [(3, .int z23), (2, .int (s.1 151 32)), (0, .ref 151), (1, .int a1)], [.int (s.1 151 32), .ref 169, .ref 173])) rfl ?_
        refine e_ial (n := 400) (k := (s.1 151 32).toNatClampNeg) rfl lc_169 ln_169 h1 rfl ?_
        refine e_L 1 (f' := (260, [(3, .int z23), (2, .int (s.1 151 32)), (0, .ref 151), (1, .int a1)], [.int (s.1 151 32), .int (s21.1 169 (s.1 151 32).toNatClampNeg), .ref 173])) rfl ?_
        refine qle_gd fun h27 => ?_
        refine e_ias (n := 400) (k := (s21.1 169 (s.1 151 32).toNatClampNeg).toNatClampNeg) rfl lc_173 ln_173 h27 rfl ?_
        refine e_nS fun s28 => ?_
        exact qE_sub (qsubL [2, 1] rfl (ks := [3, 2, 0, 1]) rfl (by decide))
      · refine e_L 1 (f' := (235, [(3, .int z23), (2, .int (s.1 151 32)), (0, .ref 151), (1, .int a1)], [.ref 151])) rfl ?_
        refine e_gR (q := 172) 12 41 rfl rfl lc_151 lr_151_41 ?_
        refine e_L 1 (f' := (239, [(3, .int z23), (2, .int (s.1 151 32)), (0, .ref 151), (1, .int a1)], [.ref 151, .ref 172])) rfl ?_
        refine e_gR (q := 169) 12 38 rfl rfl lc_151 lr_151_38 ?_
        refine e_L 1 (f' := (243, [(3, .int z23), (2, .int (s.1 151 32)), (0, .ref 151), (1, .int a1)], [.int (s.1 151 32), .ref 169, .ref 172])) rfl ?_
        refine e_ial (n := 400) (k := (s.1 151 32).toNatClampNeg) rfl lc_169 ln_169 h1 rfl ?_
        refine e_L 1 (f' := (245, [(3, .int z23), (2, .int (s.1 151 32)), (0, .ref 151), (1, .int a1)], [.int (s.1 151 32), .int (s21.1 169 (s.1 151 32).toNatClampNeg), .ref 172])) rfl ?_
        refine qle_gd fun h29 => ?_
        refine e_ias (n := 400) (k := (s21.1 169 (s.1 151 32).toNatClampNeg).toNatClampNeg) rfl lc_172 ln_172 h29 rfl ?_
        refine e_nS fun s30 => ?_
        refine e_L 1 (f' := (261, [(3, .int z23), (2, .int (s.1 151 32)), (0, .ref 151), (1, .int a1)], [])) rfl ?_
        exact qE_sub (qsubL [2, 1] rfl (ks := [3, 2, 0, 1]) rfl (by decide))
    · refine e_L 1 (f' := (211, [(3, .int z23), (2, .int (s.1 151 32)), (0, .ref 151), (1, .int a1)], [.ref 151])) rfl ?_
      refine e_gR (q := 181) 12 50 rfl rfl lc_151 lr_151_50 ?_
      refine e_L 1 (f' := (215, [(3, .int z23), (2, .int (s.1 151 32)), (0, .ref 151), (1, .int a1)], [.ref 151, .ref 181])) rfl ?_
      refine e_gI 12 18 rfl rfl lc_151 ?_
      refine e_L 3 (f' := (221, [(3, .int z23), (2, .int (s.1 151 32)), (0, .ref 151), (1, .int a1)], [.int (s.1 151 32), .int ((s21.1 151 18) - (1 : Int32)), .ref 181])) rfl ?_
      refine qle_gd fun h31 => ?_
      refine e_ias (n := 16) (k := ((s21.1 151 18) - (1 : Int32)).toNatClampNeg) rfl lc_181 ln_181 h31 rfl ?_
      refine e_nS fun s32 => ?_
      refine e_L 1 (f' := (261, [(3, .int z23), (2, .int (s.1 151 32)), (0, .ref 151), (1, .int a1)], [])) rfl ?_
      exact qE_sub (qsubL [2, 1] rfl (ks := [3, 2, 0, 1]) rfl (by decide))
  · refine e_L 1 (f' := (190, [(3, .int z23), (2, .int (s.1 151 32)), (0, .ref 151), (1, .int a1)], [.ref 151])) rfl ?_
    refine e_gR (q := 171) 12 40 rfl rfl lc_151 lr_151_40 ?_
    refine e_L 2 (f' := (195, [(3, .int z23), (2, .int (s.1 151 32)), (0, .ref 151), (1, .int a1)], [.int (s.1 151 32), .int z23, .ref 171])) rfl ?_
    refine qle_gd fun h33 => ?_
    refine e_ias (n := 400) (k := z23.toNatClampNeg) rfl lc_171 ln_171 h33 rfl ?_
    refine e_nS fun s34 => ?_
    refine e_L 1 (f' := (261, [(3, .int z23), (2, .int (s.1 151 32)), (0, .ref 151), (1, .int a1)], [])) rfl ?_
    exact qE_sub (qsubL [2, 1] rfl (ks := [3, 2, 0, 1]) rfl (by decide))
set_option maxRecDepth 100000 in
set_option maxHeartbeats 4000000 in
theorem le_X12_takeExp (en : pN) (d : Nat) (a1 : Int32) (s : qS) : qle (bI (qev en d 268 [.ref 151] s) (fun w1 s2 => gd (p_inB a1 400 = true) (nm (uI s2 176 (a1.toNatClampNeg) w1) (fun s5 => nm (uI s5 177 (a1.toNatClampNeg) (s5.1 151 25)) (fun s6 => some (none, s6)))))) (qev en (d + 1) 276 [.ref 151, .int a1] s) := by
  refine e_enter ix_X12_takeExp (Nat.le_of_ble_eq_true rfl) ?_
  show qle _ (qE (qev en d) en none tb_X12_takeExp (0, [(0, .ref 151), (1, .int a1)], []) s)
  refine e_L 1 (f' := (1, [(0, .ref 151), (1, .int a1)], [.ref 151])) rfl ?_
  refine e_gR (q := 176) 12 45 rfl rfl lc_151 lr_151_45 ?_
  refine e_L 2 (f' := (6, [(0, .ref 151), (1, .int a1)], [.ref 151, .int a1, .ref 176])) rfl ?_
  refine e_vI 268 rfl rfl ix_X12_readExp rfl (q_recvOf lc_151 rfl) (Nat.le_of_ble_eq_true rfl) (fun w1 s2 e3 => ?_)
  refine qle_gd fun h4 => ?_
  refine e_ias (n := 400) (k := a1.toNatClampNeg) rfl lc_176 ln_176 h4 rfl ?_
  refine e_nS fun s5 => ?_
  refine e_L 1 (f' := (11, [(0, .ref 151), (1, .int a1)], [.ref 151])) rfl ?_
  refine e_gR (q := 177) 12 46 rfl rfl lc_151 lr_151_46 ?_
  refine e_L 2 (f' := (16, [(0, .ref 151), (1, .int a1)], [.ref 151, .int a1, .ref 177])) rfl ?_
  refine e_gI 12 25 rfl rfl lc_151 ?_
  refine e_ias (n := 400) (k := a1.toNatClampNeg) rfl lc_177 ln_177 h4 rfl ?_
  refine e_nS fun s6 => ?_
  exact e_rV rfl rfl
noncomputable def L_X12_keywordAtHand_16 (en : pN) (d : Nat) (vs0 : Int64) (s : qS) : Option qR := qE (qev en d) en (some .int) tb_X12_keywordAtHand (16, [], [.long vs0]) s
set_option maxRecDepth 100000 in
set_option maxHeartbeats 4000000 in
theorem le_X12_keywordAtHand_16 (en : pN) (d : Nat) (vs0 : Int64) (s : qS) : qle (if ¬ (lg_cmp vs0 (6513011 : Int64)) = (0 : Int32) then if ¬ (lg_cmp vs0 (6382692 : Int64)) = (0 : Int32) then if ¬ (lg_cmp vs0 (1819239275 : Int64)) = (0 : Int32) then if ¬ (lg_cmp vs0 (129117126091627 : Int64)) = (0 : Int32) then if ¬ (lg_cmp vs0 (2002872692 : Int64)) = (0 : Int32) then if ¬ (lg_cmp vs0 (2002873189 : Int64)) = (0 : Int32) then if ¬ (lg_cmp vs0 (33602636118846572 : Int64)) = (0 : Int32) then if ¬ (lg_cmp vs0 (495873782388 : Int64)) = (0 : Int32) then if ¬ (lg_cmp vs0 (1785686382 : Int64)) = (0 : Int32) then if ¬ (lg_cmp vs0 (439788397413 : Int64)) = (0 : Int32) then if ¬ (lg_cmp vs0 (1751215220 : Int64)) = (0 : Int32) then if ¬ (lg_cmp vs0 (107148485161588 : Int64)) = (0 : Int32) then if ¬ (lg_cmp vs0 (1667329132 : Int64)) = (0 : Int32) then if ¬ (lg_cmp vs0 (491328138361 : Int64)) = (0 : Int32) then if ¬ (lg_cmp vs0 (26982 : Int64)) = (0 : Int32) then if ¬ (lg_cmp vs0 (512852847717 : Int64)) = (0 : Int32) then some (some (.int (-1 : Int32)), s) else some (some (.int (18 : Int32)), s) else some (some (.int (17 : Int32)), s) else some (some (.int (16 : Int32)), s) else some (some (.int (15 : Int32)), s) else some (some (.int (14 : Int32)), s) else some (some (.int (13 : Int32)), s) else some (some (.int (12 : Int32)), s) else some (some (.int (11 : Int32)), s) else some (some (.int (10 : Int32)), s) else some (some (.int (9 : Int32)), s) else some (some (.int (8 : Int32)), s) else some (some (.int (7 : Int32)), s) else some (some (.int (6 : Int32)), s) else some (some (.int (5 : Int32)), s) else some (some (.int (4 : Int32)), s) else some (some (.int (3 : Int32)), s)) (L_X12_keywordAtHand_16 en d vs0 s) := by
  show qle _ (qE (qev en d) en (some .int) tb_X12_keywordAtHand (16, [], [.long vs0]) s)
  refine e_L 2 (f' := (18, [(1, .long vs0)], [.long vs0])) rfl ?_
  refine e_gs (w := .long (6513011 : Int64)) rfl rfl ?_
  refine e_L 1 (f' := (22, [(1, .long vs0)], [.int (lg_cmp vs0 (6513011 : Int64))])) rfl ?_
  refine e_ifz 29 rfl rfl rfl (fun c1 => ?_) (fun c1 => ?_)
  · refine e_L 1 (f' := (30, [(1, .long vs0)], [.long vs0])) rfl ?_
    refine e_gs (w := .long (6382692 : Int64)) rfl rfl ?_
    refine e_L 1 (f' := (34, [(1, .long vs0)], [.int (lg_cmp vs0 (6382692 : Int64))])) rfl ?_
    refine e_ifz 41 rfl rfl rfl (fun c2 => ?_) (fun c2 => ?_)
    · refine e_L 1 (f' := (42, [(1, .long vs0)], [.long vs0])) rfl ?_
      refine e_gs (w := .long (1819239275 : Int64)) rfl rfl ?_
      refine e_L 1 (f' := (46, [(1, .long vs0)], [.int (lg_cmp vs0 (1819239275 : Int64))])) rfl ?_
      refine e_ifz 53 rfl rfl rfl (fun c3 => ?_) (fun c3 => ?_)
      · refine e_L 1 (f' := (54, [(1, .long vs0)], [.long vs0])) rfl ?_
        refine e_gs (w := .long (129117126091627 : Int64)) rfl rfl ?_
        refine e_L 1 (f' := (58, [(1, .long vs0)], [.int (lg_cmp vs0 (129117126091627 : Int64))])) rfl ?_
        refine e_ifz 66 rfl rfl rfl (fun c4 => ?_) (fun c4 => ?_)
        · refine e_L 1 (f' := (67, [(1, .long vs0)], [.long vs0])) rfl ?_
          refine e_gs (w := .long (2002872692 : Int64)) rfl rfl ?_
          refine e_L 1 (f' := (71, [(1, .long vs0)], [.int (lg_cmp vs0 (2002872692 : Int64))])) rfl ?_
          refine e_ifz 79 rfl rfl rfl (fun c5 => ?_) (fun c5 => ?_)
          · refine e_L 1 (f' := (80, [(1, .long vs0)], [.long vs0])) rfl ?_
            refine e_gs (w := .long (2002873189 : Int64)) rfl rfl ?_
            refine e_L 1 (f' := (84, [(1, .long vs0)], [.int (lg_cmp vs0 (2002873189 : Int64))])) rfl ?_
            refine e_ifz 92 rfl rfl rfl (fun c6 => ?_) (fun c6 => ?_)
            · refine e_L 1 (f' := (93, [(1, .long vs0)], [.long vs0])) rfl ?_
              refine e_gs (w := .long (33602636118846572 : Int64)) rfl rfl ?_
              refine e_L 1 (f' := (97, [(1, .long vs0)], [.int (lg_cmp vs0 (33602636118846572 : Int64))])) rfl ?_
              refine e_ifz 105 rfl rfl rfl (fun c7 => ?_) (fun c7 => ?_)
              · refine e_L 1 (f' := (106, [(1, .long vs0)], [.long vs0])) rfl ?_
                refine e_gs (w := .long (495873782388 : Int64)) rfl rfl ?_
                refine e_L 1 (f' := (110, [(1, .long vs0)], [.int (lg_cmp vs0 (495873782388 : Int64))])) rfl ?_
                refine e_ifz 118 rfl rfl rfl (fun c8 => ?_) (fun c8 => ?_)
                · refine e_L 1 (f' := (119, [(1, .long vs0)], [.long vs0])) rfl ?_
                  refine e_gs (w := .long (1785686382 : Int64)) rfl rfl ?_
                  refine e_L 1 (f' := (123, [(1, .long vs0)], [.int (lg_cmp vs0 (1785686382 : Int64))])) rfl ?_
                  refine e_ifz 131 rfl rfl rfl (fun c9 => ?_) (fun c9 => ?_)
                  · refine e_L 1 (f' := (132, [(1, .long vs0)], [.long vs0])) rfl ?_
                    refine e_gs (w := .long (439788397413 : Int64)) rfl rfl ?_
                    refine e_L 1 (f' := (136, [(1, .long vs0)], [.int (lg_cmp vs0 (439788397413 : Int64))])) rfl ?_
                    refine e_ifz 144 rfl rfl rfl (fun c10 => ?_) (fun c10 => ?_)
                    · refine e_L 1 (f' := (145, [(1, .long vs0)], [.long vs0])) rfl ?_
                      refine e_gs (w := .long (1751215220 : Int64)) rfl rfl ?_
                      refine e_L 1 (f' := (149, [(1, .long vs0)], [.int (lg_cmp vs0 (1751215220 : Int64))])) rfl ?_
                      refine e_ifz 157 rfl rfl rfl (fun c11 => ?_) (fun c11 => ?_)
                      · refine e_L 1 (f' := (158, [(1, .long vs0)], [.long vs0])) rfl ?_
                        refine e_gs (w := .long (107148485161588 : Int64)) rfl rfl ?_
                        refine e_L 1 (f' := (162, [(1, .long vs0)], [.int (lg_cmp vs0 (107148485161588 : Int64))])) rfl ?_
                        refine e_ifz 170 rfl rfl rfl (fun c12 => ?_) (fun c12 => ?_)
                        · refine e_L 1 (f' := (171, [(1, .long vs0)], [.long vs0])) rfl ?_
                          refine e_gs (w := .long (1667329132 : Int64)) rfl rfl ?_
                          refine e_L 1 (f' := (175, [(1, .long vs0)], [.int (lg_cmp vs0 (1667329132 : Int64))])) rfl ?_
                          refine e_ifz 183 rfl rfl rfl (fun c13 => ?_) (fun c13 => ?_)
                          · refine e_L 1 (f' := (184, [(1, .long vs0)], [.long vs0])) rfl ?_
                            refine e_gs (w := .long (491328138361 : Int64)) rfl rfl ?_
                            refine e_L 1 (f' := (188, [(1, .long vs0)], [.int (lg_cmp vs0 (491328138361 : Int64))])) rfl ?_
                            refine e_ifz 196 rfl rfl rfl (fun c14 => ?_) (fun c14 => ?_)
                            · refine e_L 1 (f' := (197, [(1, .long vs0)], [.long vs0])) rfl ?_
                              refine e_gs (w := .long (26982 : Int64)) rfl rfl ?_
                              refine e_L 1 (f' := (201, [(1, .long vs0)], [.int (lg_cmp vs0 (26982 : Int64))])) rfl ?_
                              refine e_ifz 209 rfl rfl rfl (fun c15 => ?_) (fun c15 => ?_)
                              · refine e_L 1 (f' := (210, [(1, .long vs0)], [.long vs0])) rfl ?_
                                refine e_gs (w := .long (512852847717 : Int64)) rfl rfl ?_
                                refine e_L 1 (f' := (214, [(1, .long vs0)], [.int (lg_cmp vs0 (512852847717 : Int64))])) rfl ?_
                                refine e_ifz 222 rfl rfl rfl (fun c16 => ?_) (fun c16 => ?_)
                                · refine e_L 1 (f' := (223, [(1, .long vs0)], [.int (-1 : Int32)])) rfl ?_
                                  exact e_rI rfl rfl
                                · refine e_L 2 (f' := (223, [(1, .long vs0)], [.int (18 : Int32)])) rfl ?_
                                  exact e_rI rfl rfl
                              · refine e_L 2 (f' := (223, [(1, .long vs0)], [.int (17 : Int32)])) rfl ?_
                                exact e_rI rfl rfl
                            · refine e_L 2 (f' := (223, [(1, .long vs0)], [.int (16 : Int32)])) rfl ?_
                              exact e_rI rfl rfl
                          · refine e_L 2 (f' := (223, [(1, .long vs0)], [.int (15 : Int32)])) rfl ?_
                            exact e_rI rfl rfl
                        · refine e_L 2 (f' := (223, [(1, .long vs0)], [.int (14 : Int32)])) rfl ?_
                          exact e_rI rfl rfl
                      · refine e_L 2 (f' := (223, [(1, .long vs0)], [.int (13 : Int32)])) rfl ?_
                        exact e_rI rfl rfl
                    · refine e_L 2 (f' := (223, [(1, .long vs0)], [.int (12 : Int32)])) rfl ?_
                      exact e_rI rfl rfl
                  · refine e_L 2 (f' := (223, [(1, .long vs0)], [.int (11 : Int32)])) rfl ?_
                    exact e_rI rfl rfl
                · refine e_L 2 (f' := (223, [(1, .long vs0)], [.int (10 : Int32)])) rfl ?_
                  exact e_rI rfl rfl
              · refine e_L 2 (f' := (223, [(1, .long vs0)], [.int (9 : Int32)])) rfl ?_
                exact e_rI rfl rfl
            · refine e_L 2 (f' := (223, [(1, .long vs0)], [.int (8 : Int32)])) rfl ?_
              exact e_rI rfl rfl
          · refine e_L 2 (f' := (223, [(1, .long vs0)], [.int (7 : Int32)])) rfl ?_
            exact e_rI rfl rfl
        · refine e_L 2 (f' := (223, [(1, .long vs0)], [.int (6 : Int32)])) rfl ?_
          exact e_rI rfl rfl
      · refine e_L 2 (f' := (223, [(1, .long vs0)], [.int (5 : Int32)])) rfl ?_
        exact e_rI rfl rfl
    · refine e_L 2 (f' := (223, [(1, .long vs0)], [.int (4 : Int32)])) rfl ?_
      exact e_rI rfl rfl
  · refine e_L 2 (f' := (223, [(1, .long vs0)], [.int (3 : Int32)])) rfl ?_
    exact e_rI rfl rfl
set_option maxRecDepth 100000 in
set_option maxHeartbeats 4000000 in
theorem le_X12_keywordAtHand (en : pN) (d : Nat) (s : qS) : qle (if ¬ (s.1 151 3) = (1 : Int32) then L_X12_keywordAtHand_16 en d (0 : Int64) s else L_X12_keywordAtHand_16 en d (s.2.1 151 5) s) (qev en (d + 1) 277 [.ref 151] s) := by
  refine e_enter ix_X12_keywordAtHand (Nat.le_of_ble_eq_true rfl) ?_
  show qle _ (qE (qev en d) en (some .int) tb_X12_keywordAtHand (0, [(0, .ref 151)], []) s)
  refine e_L 1 (f' := (1, [(0, .ref 151)], [.ref 151])) rfl ?_
  refine e_gI 12 3 rfl rfl lc_151 ?_
  refine e_L 1 (f' := (5, [(0, .ref 151)], [.int (1 : Int32), .int (s.1 151 3)])) rfl ?_
  refine e_icmp 15 rfl rfl rfl (fun c1 => ?_) (fun c1 => ?_)
  · refine e_L 1 (f' := (16, [(0, .ref 151)], [.long (0 : Int64)])) rfl ?_
    exact qE_sub (qsubL [] rfl (ks := [0]) rfl (by decide))
  · refine e_L 1 (f' := (9, [(0, .ref 151)], [.ref 151])) rfl ?_
    refine e_gJ 12 5 rfl rfl lc_151 ?_
    refine e_L 1 (f' := (16, [(0, .ref 151)], [.long (s.2.1 151 5)])) rfl ?_
    exact qE_sub (qsubL [] rfl (ks := [0]) rfl (by decide))
noncomputable def L_X12_readStatement_23 (en : pN) (d : Nat) (v1 : Int32) (vs1 : Int32) (s : qS) : Option qR := qE (qev en d) en none tb_X12_readStatement (23, [(0, .ref 151), (1, .int v1)], [.int vs1, .ref 151]) s
noncomputable def L_X12_readStatement_69 (en : pN) (d : Nat) (v1 : Int32) (vs1 : Int32) (s : qS) : Option qR := qE (qev en d) en none tb_X12_readStatement (69, [(0, .ref 151), (1, .int v1)], [.int vs1, .ref 151]) s
noncomputable def L_X12_readStatement_73 (en : pN) (d : Nat) (v1 : Int32) (s : qS) : Option qR := qE (qev en d) en none tb_X12_readStatement (73, [(0, .ref 151), (1, .int v1)], []) s
noncomputable def L_X12_readStatement_95 (en : pN) (d : Nat) (v1 : Int32) (vs1 : Int32) (s : qS) : Option qR := qE (qev en d) en none tb_X12_readStatement (95, [(0, .ref 151), (1, .int v1)], [.int vs1, .ref 151]) s
noncomputable def L_X12_readStatement_99 (en : pN) (d : Nat) (v1 : Int32) (s : qS) : Option qR := qE (qev en d) en none tb_X12_readStatement (99, [(0, .ref 151), (1, .int v1)], []) s
noncomputable def L_X12_readStatement_139 (en : pN) (d : Nat) (v2 : Int32) (s : qS) : Option qR := qE (qev en d) en none tb_X12_readStatement (139, [(0, .ref 151), (2, .int v2)], []) s
set_option maxRecDepth 100000 in
set_option maxHeartbeats 4000000 in
theorem le_X12_readStatement_23 (en : pN) (d : Nat) (v1 : Int32) (vs1 : Int32) (s : qS) : qle (bV (qev en d 245 [.ref 151, .int vs1, .int (2 : Int32)] s) (fun s2 => bI (qev en d 243 [.ref 151] s2) (fun w4 s5 => if w4 = (0 : Int32) then L_X12_readStatement_73 en d v1 s5 else if ¬ v1 = (-1 : Int32) then L_X12_readStatement_73 en d v1 s5 else bI (qev en d 257 [.ref 151, .long (s5.2.1 151 5)] s5) (fun w9 s10 => if ¬ w9 = (-1 : Int32) then L_X12_readStatement_69 en d v1 (0 : Int32) s10 else bI (qev en d 258 [.ref 151, .long (s10.2.1 151 5)] s10) (fun w13 s14 => if ¬ w13 = (-1 : Int32) then L_X12_readStatement_69 en d v1 (0 : Int32) s14 else L_X12_readStatement_69 en d v1 (1 : Int32) s14))))) (L_X12_readStatement_23 en d v1 vs1 s) := by
  show qle _ (qE (qev en d) en none tb_X12_readStatement (23, [(0, .ref 151), (1, .int v1)], [.int vs1, .ref 151]) s)
  refine e_L 1 (f' := (24, [(0, .ref 151), (1, .int v1)], [.int (2 : Int32), .int vs1, .ref 151])) rfl ?_
  refine e_vV 245 rfl rfl ix_X12_need rfl (q_recvOf lc_151 rfl) (Nat.le_of_ble_eq_true rfl) (fun s2 e3 => ?_)
  refine e_L 1 (f' := (28, [(0, .ref 151), (1, .int v1)], [.ref 151])) rfl ?_
  refine e_vI 243 rfl rfl ix_X12_good rfl (q_recvOf lc_151 rfl) (Nat.le_of_ble_eq_true rfl) (fun w4 s5 e6 => ?_)
  refine e_ifz 73 rfl rfl rfl (fun c7 => ?_) (fun c7 => ?_)
  · exact qE_sub (qsubL [0, 1] rfl (ks := [0, 1]) rfl (by decide))
  · refine e_L 2 (f' := (36, [(0, .ref 151), (1, .int v1)], [.int (-1 : Int32), .int v1])) rfl ?_
    refine e_icmp 73 rfl rfl rfl (fun c8 => ?_) (fun c8 => ?_)
    · exact qE_sub (qsubL [0, 1] rfl (ks := [0, 1]) rfl (by decide))
    · refine e_L 3 (f' := (42, [(0, .ref 151), (1, .int v1)], [.ref 151, .ref 151, .ref 151])) rfl ?_
      refine e_gJ 12 5 rfl rfl lc_151 ?_
      refine e_vI 257 rfl rfl ix_X12_lockOf rfl (q_recvOf lc_151 rfl) (Nat.le_of_ble_eq_true rfl) (fun w9 s10 e11 => ?_)
      refine e_L 1 (f' := (49, [(0, .ref 151), (1, .int v1)], [.int (-1 : Int32), .int w9, .ref 151])) rfl ?_
      refine e_icmp 68 rfl rfl rfl (fun c12 => ?_) (fun c12 => ?_)
      · refine e_L 1 (f' := (69, [(0, .ref 151), (1, .int v1)], [.int (0 : Int32), .ref 151])) rfl ?_
        exact qE_sub (qsubL [0, 1] rfl (ks := [0, 1]) rfl (by decide))
      · refine e_L 2 (f' := (54, [(0, .ref 151), (1, .int v1)], [.ref 151, .ref 151, .ref 151])) rfl ?_
        refine e_gJ 12 5 rfl rfl lc_151 ?_
        refine e_vI 258 rfl rfl ix_X12_threadOf rfl (q_recvOf lc_151 rfl) (Nat.le_of_ble_eq_true rfl) (fun w13 s14 e15 => ?_)
        refine e_L 1 (f' := (61, [(0, .ref 151), (1, .int v1)], [.int (-1 : Int32), .int w13, .ref 151])) rfl ?_
        refine e_icmp 68 rfl rfl rfl (fun c16 => ?_) (fun c16 => ?_)
        · refine e_L 1 (f' := (69, [(0, .ref 151), (1, .int v1)], [.int (0 : Int32), .ref 151])) rfl ?_
          exact qE_sub (qsubL [0, 1] rfl (ks := [0, 1]) rfl (by decide))
        · refine e_L 2 (f' := (69, [(0, .ref 151), (1, .int v1)], [.int (1 : Int32), .ref 151])) rfl ?_
          exact qE_sub (qsubL [0, 1] rfl (ks := [0, 1]) rfl (by decide))
set_option maxRecDepth 100000 in
set_option maxHeartbeats 4000000 in
theorem le_X12_readStatement_69 (en : pN) (d : Nat) (v1 : Int32) (vs1 : Int32) (s : qS) : qle (bV (qev en d 245 [.ref 151, .int vs1, .int (3 : Int32)] s) (fun s2 => L_X12_readStatement_73 en d v1 s2)) (L_X12_readStatement_69 en d v1 vs1 s) := by
  show qle _ (qE (qev en d) en none tb_X12_readStatement (69, [(0, .ref 151), (1, .int v1)], [.int vs1, .ref 151]) s)
  refine e_L 1 (f' := (70, [(0, .ref 151), (1, .int v1)], [.int (3 : Int32), .int vs1, .ref 151])) rfl ?_
  refine e_vV 245 rfl rfl ix_X12_need rfl (q_recvOf lc_151 rfl) (Nat.le_of_ble_eq_true rfl) (fun s2 e3 => ?_)
  exact qE_sub (qsubL [0, 1] rfl (ks := [0, 1]) rfl (by decide))
set_option maxRecDepth 100000 in
set_option maxHeartbeats 4000000 in
theorem le_X12_readStatement_73 (en : pN) (d : Nat) (v1 : Int32) (s : qS) : qle (bI (qev en d 243 [.ref 151] s) (fun w1 s2 => if w1 = (0 : Int32) then L_X12_readStatement_99 en d v1 s2 else if (100 : Int32) ≤ (s2.1 151 32) then L_X12_readStatement_95 en d v1 (0 : Int32) s2 else L_X12_readStatement_95 en d v1 (1 : Int32) s2)) (L_X12_readStatement_73 en d v1 s) := by
  show qle _ (qE (qev en d) en none tb_X12_readStatement (73, [(0, .ref 151), (1, .int v1)], []) s)
  refine e_L 1 (f' := (74, [(0, .ref 151), (1, .int v1)], [.ref 151])) rfl ?_
  refine e_vI 243 rfl rfl ix_X12_good rfl (q_recvOf lc_151 rfl) (Nat.le_of_ble_eq_true rfl) (fun w1 s2 e3 => ?_)
  refine e_ifz 99 rfl rfl rfl (fun c4 => ?_) (fun c4 => ?_)
  · exact qE_sub (qsubL [0, 1] rfl (ks := [0, 1]) rfl (by decide))
  · refine e_L 2 (f' := (82, [(0, .ref 151), (1, .int v1)], [.ref 151, .ref 151])) rfl ?_
    refine e_gI 12 32 rfl rfl lc_151 ?_
    refine e_L 1 (f' := (87, [(0, .ref 151), (1, .int v1)], [.int (100 : Int32), .int (s2.1 151 32), .ref 151])) rfl ?_
    refine e_icmp 94 rfl rfl rfl (fun c5 => ?_) (fun c5 => ?_)
    · refine e_L 1 (f' := (95, [(0, .ref 151), (1, .int v1)], [.int (0 : Int32), .ref 151])) rfl ?_
      exact qE_sub (qsubL [0, 1] rfl (ks := [0, 1]) rfl (by decide))
    · refine e_L 2 (f' := (95, [(0, .ref 151), (1, .int v1)], [.int (1 : Int32), .ref 151])) rfl ?_
      exact qE_sub (qsubL [0, 1] rfl (ks := [0, 1]) rfl (by decide))
set_option maxRecDepth 100000 in
set_option maxHeartbeats 4000000 in
theorem le_X12_readStatement_95 (en : pN) (d : Nat) (v1 : Int32) (vs1 : Int32) (s : qS) : qle (bV (qev en d 245 [.ref 151, .int vs1, .int (4 : Int32)] s) (fun s2 => L_X12_readStatement_99 en d v1 s2)) (L_X12_readStatement_95 en d v1 vs1 s) := by
  show qle _ (qE (qev en d) en none tb_X12_readStatement (95, [(0, .ref 151), (1, .int v1)], [.int vs1, .ref 151]) s)
  refine e_L 1 (f' := (96, [(0, .ref 151), (1, .int v1)], [.int (4 : Int32), .int vs1, .ref 151])) rfl ?_
  refine e_vV 245 rfl rfl ix_X12_need rfl (q_recvOf lc_151 rfl) (Nat.le_of_ble_eq_true rfl) (fun s2 e3 => ?_)
  exact qE_sub (qsubL [0, 1] rfl (ks := [0, 1]) rfl (by decide))
set_option maxRecDepth 100000 in
set_option maxHeartbeats 4000000 in
theorem le_X12_readStatement_99 (en : pN) (d : Nat) (v1 : Int32) (s : qS) : qle (bI (qev en d 243 [.ref 151] s) (fun w1 s2 => if ¬ w1 = (0 : Int32) then if ¬ v1 = (-1 : Int32) then bI (qev en d 275 [.ref 151, .int v1] s2) (fun w6 s7 => bV (qev en d 249 [.ref 151] s7) (fun s10 => if v1 = (17 : Int32) then L_X12_readStatement_139 en d w6 s10 else if ¬ v1 = (18 : Int32) then bV (qev en d 279 [.ref 151, .int w6, .int v1] s10) (fun s15 => bV (qev en d 252 [.ref 151, .int (59 : Int32)] s15) (fun s18 => some (none, s18))) else L_X12_readStatement_139 en d w6 s10)) else bV (qev en d 283 [.ref 151] s2) (fun s21 => some (none, s21)) else some (none, s2))) (L_X12_readStatement_99 en d v1 s) := by
  show qle _ (qE (qev en d) en none tb_X12_readStatement (99, [(0, .ref 151), (1, .int v1)], []) s)
  refine e_L 1 (f' := (100, [(0, .ref 151), (1, .int v1)], [.ref 151])) rfl ?_
  refine e_vI 243 rfl rfl ix_X12_good rfl (q_recvOf lc_151 rfl) (Nat.le_of_ble_eq_true rfl) (fun w1 s2 e3 => ?_)
  refine e_ifz 107 rfl rfl rfl (fun c4 => ?_) (fun c4 => ?_)
  · refine e_L 2 (f' := (109, [(0, .ref 151), (1, .int v1)], [.int (-1 : Int32), .int v1])) rfl ?_
    refine e_icmp 117 rfl rfl rfl (fun c5 => ?_) (fun c5 => ?_)
    · refine e_L 2 (f' := (119, [(0, .ref 151), (1, .int v1)], [.int v1, .ref 151])) rfl ?_
      refine e_vI 275 rfl rfl ix_X12_newLine rfl (q_recvOf lc_151 rfl) (Nat.le_of_ble_eq_true rfl) (fun w6 s7 e8 => ?_)
      refine e_L 2 (f' := (124, [(2, .int w6), (0, .ref 151), (1, .int v1)], [.ref 151])) rfl ?_
      refine e_vV 249 rfl rfl ix_X12_next rfl (q_recvOf lc_151 rfl) (Nat.le_of_ble_eq_true rfl) (fun s10 e11 => ?_)
      refine e_L 2 (f' := (130, [(2, .int w6), (0, .ref 151), (1, .int v1)], [.int (17 : Int32), .int v1])) rfl ?_
      refine e_icmp 139 rfl rfl rfl (fun c12 => ?_) (fun c12 => ?_)
      · exact qE_sub (qsubL [1, 0] rfl (ks := [2, 0, 1]) rfl (by decide))
      · refine e_L 2 (f' := (136, [(2, .int w6), (0, .ref 151), (1, .int v1)], [.int (18 : Int32), .int v1])) rfl ?_
        refine e_icmp 151 rfl rfl rfl (fun c13 => ?_) (fun c13 => ?_)
        · refine e_L 3 (f' := (154, [(2, .int w6), (0, .ref 151), (1, .int v1)], [.int v1, .int w6, .ref 151])) rfl ?_
          refine e_vV 279 rfl rfl ix_X12_readRest rfl (q_recvOf lc_151 rfl) (Nat.le_of_ble_eq_true rfl) (fun s15 e16 => ?_)
          refine e_L 2 (f' := (160, [(2, .int w6), (0, .ref 151), (1, .int v1)], [.int (59 : Int32), .ref 151])) rfl ?_
          refine e_vV 252 rfl rfl ix_X12_must rfl (q_recvOf lc_151 rfl) (Nat.le_of_ble_eq_true rfl) (fun s18 e19 => ?_)
          exact e_rV rfl rfl
        · exact qE_sub (qsubL [1, 0] rfl (ks := [2, 0, 1]) rfl (by decide))
    · refine e_L 1 (f' := (113, [(0, .ref 151), (1, .int v1)], [.ref 151])) rfl ?_
      refine e_vV 283 rfl rfl ix_X12_readAssignment rfl (q_recvOf lc_151 rfl) (Nat.le_of_ble_eq_true rfl) (fun s21 e22 => ?_)
      exact e_rV rfl rfl
  · exact e_rV rfl rfl
set_option maxRecDepth 100000 in
set_option maxHeartbeats 4000000 in
theorem le_X12_readStatement_139 (en : pN) (d : Nat) (v2 : Int32) (s : qS) : qle (bV (qev en d 276 [.ref 151, .int v2] s) (fun s2 => bV (qev en d 274 [.ref 151, .int v2, .int (0 : Int32)] s2) (fun s5 => some (none, s5)))) (L_X12_readStatement_139 en d v2 s) := by
  show qle _ (qE (qev en d) en none tb_X12_readStatement (139, [(0, .ref 151), (2, .int v2)], []) s)
  refine e_L 2 (f' := (141, [(0, .ref 151), (2, .int v2)], [.int v2, .ref 151])) rfl ?_
  refine e_vV 276 rfl rfl ix_X12_takeExp rfl (q_recvOf lc_151 rfl) (Nat.le_of_ble_eq_true rfl) (fun s2 e3 => ?_)
  refine e_L 3 (f' := (147, [(0, .ref 151), (2, .int v2)], [.int (0 : Int32), .int v2, .ref 151])) rfl ?_
  refine e_vV 274 rfl rfl ix_X12_openBlock rfl (q_recvOf lc_151 rfl) (Nat.le_of_ble_eq_true rfl) (fun s5 e6 => ?_)
  exact e_rV rfl rfl
set_option maxRecDepth 100000 in
set_option maxHeartbeats 4000000 in
theorem le_X12_readStatement (en : pN) (d : Nat) (s : qS) : qle (bI (qev en d 277 [.ref 151] s) (fun w1 s2 => if ¬ w1 = (-1 : Int32) then L_X12_readStatement_23 en d w1 (1 : Int32) s2 else bI (qev en d 254 [.ref 151] s2) (fun w5 s6 => if w5 = (0 : Int32) then L_X12_readStatement_23 en d w1 (0 : Int32) s6 else L_X12_readStatement_23 en d w1 (1 : Int32) s6))) (qev en (d + 1) 278 [.ref 151] s) := by
  refine e_enter ix_X12_readStatement (Nat.le_of_ble_eq_true rfl) ?_
  show qle _ (qE (qev en d) en none tb_X12_readStatement (0, [(0, .ref 151)], []) s)
  refine e_L 1 (f' := (1, [(0, .ref 151)], [.ref 151])) rfl ?_
  refine e_vI 277 rfl rfl ix_X12_keywordAtHand rfl (q_recvOf lc_151 rfl) (Nat.le_of_ble_eq_true rfl) (fun w1 s2 e3 => ?_)
  refine e_L 4 (f' := (8, [(1, .int w1), (0, .ref 151)], [.int (-1 : Int32), .int w1, .ref 151])) rfl ?_
  refine e_icmp 18 rfl rfl rfl (fun c4 => ?_) (fun c4 => ?_)
  · refine e_L 2 (f' := (23, [(1, .int w1), (0, .ref 151)], [.int (1 : Int32), .ref 151])) rfl ?_
    exact qE_sub (qsubL [1, 0] rfl (ks := [1, 0]) rfl (by decide))
  · refine e_L 1 (f' := (12, [(1, .int w1), (0, .ref 151)], [.ref 151, .ref 151])) rfl ?_
    refine e_vI 254 rfl rfl ix_X12_isName rfl (q_recvOf lc_151 rfl) (Nat.le_of_ble_eq_true rfl) (fun w5 s6 e7 => ?_)
    refine e_ifz 22 rfl rfl rfl (fun c8 => ?_) (fun c8 => ?_)
    · refine e_L 1 (f' := (23, [(1, .int w1), (0, .ref 151)], [.int (0 : Int32), .ref 151])) rfl ?_
      exact qE_sub (qsubL [1, 0] rfl (ks := [1, 0]) rfl (by decide))
    · refine e_L 2 (f' := (23, [(1, .int w1), (0, .ref 151)], [.int (1 : Int32), .ref 151])) rfl ?_
      exact qE_sub (qsubL [1, 0] rfl (ks := [1, 0]) rfl (by decide))
noncomputable def L_X12_readRest_10 (en : pN) (d : Nat) (v1 : Int32) (v2 : Int32) (s : qS) : Option qR := qE (qev en d) en none tb_X12_readRest (10, [(0, .ref 151), (1, .int v1), (2, .int v2)], []) s
noncomputable def L_X12_readRest_60 (en : pN) (d : Nat) (v1 : Int32) (vs1 : Int32) (vs2 : Int32) (s : qS) : Option qR := qE (qev en d) en none tb_X12_readRest (60, [(0, .ref 151), (1, .int v1)], [.int vs2, .int vs1, .ref 178]) s
noncomputable def L_X12_readRest_71 (en : pN) (d : Nat) (v1 : Int32) (s : qS) : Option qR := qE (qev en d) en none tb_X12_readRest (71, [(0, .ref 151), (1, .int v1)], []) s
noncomputable def L_X12_readRest_127 (en : pN) (d : Nat) (v1 : Int32) (s : qS) : Option qR := qE (qev en d) en none tb_X12_readRest (127, [(0, .ref 151), (1, .int v1)], []) s
noncomputable def L_X12_readRest_164 (en : pN) (d : Nat) (vs1 : Int32) (s : qS) : Option qR := qE (qev en d) en none tb_X12_readRest (164, [(0, .ref 151)], [.int vs1, .ref 151]) s
noncomputable def L_X12_readRest_168 (en : pN) (d : Nat) (s : qS) : Option qR := qE (qev en d) en none tb_X12_readRest (168, [(0, .ref 151)], []) s
noncomputable def L_X12_readRest_175 (en : pN) (d : Nat) (v1 : Int32) (v2 : Int32) (s : qS) : Option qR := qE (qev en d) en none tb_X12_readRest (175, [(0, .ref 151), (1, .int v1), (2, .int v2)], []) s
noncomputable def L_X12_readRest_187 (en : pN) (d : Nat) (v1 : Int32) (s : qS) : Option qR := qE (qev en d) en none tb_X12_readRest (187, [(0, .ref 151), (1, .int v1)], []) s
noncomputable def L_X12_readRest_203 (en : pN) (d : Nat) (v1 : Int32) (s : qS) : Option qR := qE (qev en d) en none tb_X12_readRest (203, [(0, .ref 151), (1, .int v1)], []) s
noncomputable def L_X12_readRest_252 (en : pN) (d : Nat) (v1 : Int32) (s : qS) : Option qR := qE (qev en d) en none tb_X12_readRest (252, [(0, .ref 151), (1, .int v1)], []) s
noncomputable def L_X12_readRest_312 (en : pN) (d : Nat) (v1 : Int32) (v2 : Int32) (s : qS) : Option qR := qE (qev en d) en none tb_X12_readRest (312, [(0, .ref 151), (1, .int v1), (2, .int v2)], []) s
noncomputable def L_X12_readRest_318 (en : pN) (d : Nat) (v1 : Int32) (s : qS) : Option qR := qE (qev en d) en none tb_X12_readRest (318, [(0, .ref 151), (1, .int v1)], []) s
set_option maxRecDepth 100000 in
set_option maxHeartbeats 4000000 in
theorem le_X12_readRest_10 (en : pN) (d : Nat) (v1 : Int32) (v2 : Int32) (s : qS) : qle (bV (qev en d 281 [.ref 151, .int v1] s) (fun s2 => bV (qev en d 252 [.ref 151, .int (44 : Int32)] s2) (fun s5 => bV (qev en d 280 [.ref 151, .int v1] s5) (fun s8 => if ¬ v2 = (3 : Int32) then L_X12_readRest_71 en d v1 s8 else bV (qev en d 252 [.ref 151, .int (44 : Int32)] s8) (fun s12 => bI (qev en d 243 [.ref 151] s12) (fun w14 s15 => if w14 = (0 : Int32) then L_X12_readRest_60 en d v1 v1 (s15.1 151 25) s15 else bI (qev en d 268 [.ref 151] s15) (fun w18 s19 => L_X12_readRest_60 en d v1 v1 w18 s19))))))) (L_X12_readRest_10 en d v1 v2 s) := by
  show qle _ (qE (qev en d) en none tb_X12_readRest (10, [(0, .ref 151), (1, .int v1), (2, .int v2)], []) s)
  refine e_L 2 (f' := (12, [(0, .ref 151), (1, .int v1), (2, .int v2)], [.int v1, .ref 151])) rfl ?_
  refine e_vV 281 rfl rfl ix_X12_takeCell rfl (q_recvOf lc_151 rfl) (Nat.le_of_ble_eq_true rfl) (fun s2 e3 => ?_)
  refine e_L 2 (f' := (18, [(0, .ref 151), (1, .int v1), (2, .int v2)], [.int (44 : Int32), .ref 151])) rfl ?_
  refine e_vV 252 rfl rfl ix_X12_must rfl (q_recvOf lc_151 rfl) (Nat.le_of_ble_eq_true rfl) (fun s5 e6 => ?_)
  refine e_L 2 (f' := (23, [(0, .ref 151), (1, .int v1), (2, .int v2)], [.int v1, .ref 151])) rfl ?_
  refine e_vV 280 rfl rfl ix_X12_takeExpGood rfl (q_recvOf lc_151 rfl) (Nat.le_of_ble_eq_true rfl) (fun s8 e9 => ?_)
  refine e_L 2 (f' := (28, [(0, .ref 151), (1, .int v1), (2, .int v2)], [.int (3 : Int32), .int v2])) rfl ?_
  refine e_icmp 71 rfl rfl rfl (fun c10 => ?_) (fun c10 => ?_)
  · exact qE_sub (qsubL [0, 1] rfl (ks := [0, 1, 2]) rfl (by decide))
  · refine e_L 2 (f' := (34, [(0, .ref 151), (1, .int v1), (2, .int v2)], [.int (44 : Int32), .ref 151])) rfl ?_
    refine e_vV 252 rfl rfl ix_X12_must rfl (q_recvOf lc_151 rfl) (Nat.le_of_ble_eq_true rfl) (fun s12 e13 => ?_)
    refine e_L 1 (f' := (38, [(0, .ref 151), (1, .int v1), (2, .int v2)], [.ref 151])) rfl ?_
    refine e_gR (q := 178) 12 47 rfl rfl lc_151 lr_151_47 ?_
    refine e_L 2 (f' := (43, [(0, .ref 151), (1, .int v1), (2, .int v2)], [.ref 151, .int v1, .ref 178])) rfl ?_
    refine e_vI 243 rfl rfl ix_X12_good rfl (q_recvOf lc_151 rfl) (Nat.le_of_ble_eq_true rfl) (fun w14 s15 e16 => ?_)
    refine e_ifz 56 rfl rfl rfl (fun c17 => ?_) (fun c17 => ?_)
    · refine e_L 1 (f' := (57, [(0, .ref 151), (1, .int v1), (2, .int v2)], [.ref 151, .int v1, .ref 178])) rfl ?_
      refine e_gI 12 25 rfl rfl lc_151 ?_
      exact qE_sub (qsubL [0, 1] rfl (ks := [0, 1, 2]) rfl (by decide))
    · refine e_L 1 (f' := (50, [(0, .ref 151), (1, .int v1), (2, .int v2)], [.ref 151, .int v1, .ref 178])) rfl ?_
      refine e_vI 268 rfl rfl ix_X12_readExp rfl (q_recvOf lc_151 rfl) (Nat.le_of_ble_eq_true rfl) (fun w18 s19 e20 => ?_)
      refine e_L 1 (f' := (60, [(0, .ref 151), (1, .int v1), (2, .int v2)], [.int w18, .int v1, .ref 178])) rfl ?_
      exact qE_sub (qsubL [0, 1] rfl (ks := [0, 1, 2]) rfl (by decide))
set_option maxRecDepth 100000 in
set_option maxHeartbeats 4000000 in
theorem le_X12_readRest_60 (en : pN) (d : Nat) (v1 : Int32) (vs1 : Int32) (vs2 : Int32) (s : qS) : qle (gd (p_inB vs1 400 = true) (nm (uI s 178 (vs1.toNatClampNeg) vs2) (fun s2 => gd (p_inB v1 400 = true) (nm (uI s2 179 (v1.toNatClampNeg) (s2.1 151 25)) (fun s4 => L_X12_readRest_71 en d v1 s4))))) (L_X12_readRest_60 en d v1 vs1 vs2 s) := by
  show qle _ (qE (qev en d) en none tb_X12_readRest (60, [(0, .ref 151), (1, .int v1)], [.int vs2, .int vs1, .ref 178]) s)
  refine qle_gd fun h1 => ?_
  refine e_ias (n := 400) (k := vs1.toNatClampNeg) rfl lc_178 ln_178 h1 rfl ?_
  refine e_nS fun s2 => ?_
  refine e_L 1 (f' := (62, [(0, .ref 151), (1, .int v1)], [.ref 151])) rfl ?_
  refine e_gR (q := 179) 12 48 rfl rfl lc_151 lr_151_48 ?_
  refine e_L 2 (f' := (67, [(0, .ref 151), (1, .int v1)], [.ref 151, .int v1, .ref 179])) rfl ?_
  refine e_gI 12 25 rfl rfl lc_151 ?_
  refine qle_gd fun h3 => ?_
  refine e_ias (n := 400) (k := v1.toNatClampNeg) rfl lc_179 ln_179 h3 rfl ?_
  refine e_nS fun s4 => ?_
  exact qE_sub (qsubL [0, 1] rfl (ks := [0, 1]) rfl (by decide))
set_option maxRecDepth 100000 in
set_option maxHeartbeats 4000000 in
theorem le_X12_readRest_71 (en : pN) (d : Nat) (v1 : Int32) (s : qS) : qle (bI (qev en d 243 [.ref 151] s) (fun w1 s2 => if w1 = (0 : Int32) then some (none, s2) else bI (qev en d 255 [.ref 151, .long (1768846447 : Int64)] s2) (fun w5 s6 => if w5 = (0 : Int32) then some (none, s6) else bV (qev en d 249 [.ref 151] s6) (fun s10 => bV (qev en d 282 [.ref 151, .int v1] s10) (fun s13 => some (none, s13)))))) (L_X12_readRest_71 en d v1 s) := by
  show qle _ (qE (qev en d) en none tb_X12_readRest (71, [(0, .ref 151), (1, .int v1)], []) s)
  refine e_L 1 (f' := (72, [(0, .ref 151), (1, .int v1)], [.ref 151])) rfl ?_
  refine e_vI 243 rfl rfl ix_X12_good rfl (q_recvOf lc_151 rfl) (Nat.le_of_ble_eq_true rfl) (fun w1 s2 e3 => ?_)
  refine e_ifz 323 rfl rfl rfl (fun c4 => ?_) (fun c4 => ?_)
  · exact e_rV rfl rfl
  · refine e_L 1 (f' := (79, [(0, .ref 151), (1, .int v1)], [.ref 151])) rfl ?_
    refine e_gs (w := .long (1768846447 : Int64)) rfl rfl ?_
    refine e_vI 255 rfl rfl ix_X12_isWord rfl (q_recvOf lc_151 rfl) (Nat.le_of_ble_eq_true rfl) (fun w5 s6 e7 => ?_)
    refine e_ifz 323 rfl rfl rfl (fun c8 => ?_) (fun c8 => ?_)
    · exact e_rV rfl rfl
    · refine e_L 1 (f' := (89, [(0, .ref 151), (1, .int v1)], [.ref 151])) rfl ?_
      refine e_vV 249 rfl rfl ix_X12_next rfl (q_recvOf lc_151 rfl) (Nat.le_of_ble_eq_true rfl) (fun s10 e11 => ?_)
      refine e_L 2 (f' := (94, [(0, .ref 151), (1, .int v1)], [.int v1, .ref 151])) rfl ?_
      refine e_vV 282 rfl rfl ix_X12_takeInto rfl (q_recvOf lc_151 rfl) (Nat.le_of_ble_eq_true rfl) (fun s13 e14 => ?_)
      refine e_L 1 (f' := (323, [(0, .ref 151), (1, .int v1)], [])) rfl ?_
      exact e_rV rfl rfl
set_option maxRecDepth 100000 in
set_option maxHeartbeats 4000000 in
theorem le_X12_readRest_127 (en : pN) (d : Nat) (v1 : Int32) (s : qS) : qle (bI (qev en d 243 [.ref 151] s) (fun w1 s2 => if w1 = (0 : Int32) then L_X12_readRest_168 en d s2 else bI (qev en d 257 [.ref 151, .long (s2.2.1 151 5)] s2) (fun w5 s6 => gd (p_inB v1 400 = true) (nm (uI s6 166 (v1.toNatClampNeg) w5) (fun s9 => if (s9.1 166 v1.toNatClampNeg) = (-1 : Int32) then L_X12_readRest_164 en d (0 : Int32) s9 else L_X12_readRest_164 en d (1 : Int32) s9))))) (L_X12_readRest_127 en d v1 s) := by
  show qle _ (qE (qev en d) en none tb_X12_readRest (127, [(0, .ref 151), (1, .int v1)], []) s)
  refine e_L 1 (f' := (128, [(0, .ref 151), (1, .int v1)], [.ref 151])) rfl ?_
  refine e_vI 243 rfl rfl ix_X12_good rfl (q_recvOf lc_151 rfl) (Nat.le_of_ble_eq_true rfl) (fun w1 s2 e3 => ?_)
  refine e_ifz 168 rfl rfl rfl (fun c4 => ?_) (fun c4 => ?_)
  · exact qE_sub (qsubL [0] rfl (ks := [0, 1]) rfl (by decide))
  · refine e_L 1 (f' := (135, [(0, .ref 151), (1, .int v1)], [.ref 151])) rfl ?_
    refine e_gR (q := 166) 12 35 rfl rfl lc_151 lr_151_35 ?_
    refine e_L 3 (f' := (141, [(0, .ref 151), (1, .int v1)], [.ref 151, .ref 151, .int v1, .ref 166])) rfl ?_
    refine e_gJ 12 5 rfl rfl lc_151 ?_
    refine e_vI 257 rfl rfl ix_X12_lockOf rfl (q_recvOf lc_151 rfl) (Nat.le_of_ble_eq_true rfl) (fun w5 s6 e7 => ?_)
    refine qle_gd fun h8 => ?_
    refine e_ias (n := 400) (k := v1.toNatClampNeg) rfl lc_166 ln_166 h8 rfl ?_
    refine e_nS fun s9 => ?_
    refine e_L 2 (f' := (150, [(0, .ref 151), (1, .int v1)], [.ref 151, .ref 151])) rfl ?_
    refine e_gR (q := 166) 12 35 rfl rfl lc_151 lr_151_35 ?_
    refine e_L 1 (f' := (154, [(0, .ref 151), (1, .int v1)], [.int v1, .ref 166, .ref 151])) rfl ?_
    refine e_ial (n := 400) (k := v1.toNatClampNeg) rfl lc_166 ln_166 h8 rfl ?_
    refine e_L 1 (f' := (156, [(0, .ref 151), (1, .int v1)], [.int (-1 : Int32), .int (s9.1 166 v1.toNatClampNeg), .ref 151])) rfl ?_
    refine e_icmp 163 rfl rfl rfl (fun c10 => ?_) (fun c10 => ?_)
    · refine e_L 1 (f' := (164, [(0, .ref 151), (1, .int v1)], [.int (0 : Int32), .ref 151])) rfl ?_
      exact qE_sub (qsubL [0] rfl (ks := [0, 1]) rfl (by decide))
    · refine e_L 2 (f' := (164, [(0, .ref 151), (1, .int v1)], [.int (1 : Int32), .ref 151])) rfl ?_
      exact qE_sub (qsubL [0] rfl (ks := [0, 1]) rfl (by decide))
set_option maxRecDepth 100000 in
set_option maxHeartbeats 4000000 in
theorem le_X12_readRest_164 (en : pN) (d : Nat) (vs1 : Int32) (s : qS) : qle (bV (qev en d 245 [.ref 151, .int vs1, .int (3 : Int32)] s) (fun s2 => L_X12_readRest_168 en d s2)) (L_X12_readRest_164 en d vs1 s) := by
  show qle _ (qE (qev en d) en none tb_X12_readRest (164, [(0, .ref 151)], [.int vs1, .ref 151]) s)
  refine e_L 1 (f' := (165, [(0, .ref 151)], [.int (3 : Int32), .int vs1, .ref 151])) rfl ?_
  refine e_vV 245 rfl rfl ix_X12_need rfl (q_recvOf lc_151 rfl) (Nat.le_of_ble_eq_true rfl) (fun s2 e3 => ?_)
  exact qE_sub (qsubL [0] rfl (ks := [0]) rfl (by decide))
set_option maxRecDepth 100000 in
set_option maxHeartbeats 4000000 in
theorem le_X12_readRest_168 (en : pN) (d : Nat) (s : qS) : qle (bV (qev en d 249 [.ref 151] s) (fun s2 => some (none, s2))) (L_X12_readRest_168 en d s) := by
  show qle _ (qE (qev en d) en none tb_X12_readRest (168, [(0, .ref 151)], []) s)
  refine e_L 1 (f' := (169, [(0, .ref 151)], [.ref 151])) rfl ?_
  refine e_vV 249 rfl rfl ix_X12_next rfl (q_recvOf lc_151 rfl) (Nat.le_of_ble_eq_true rfl) (fun s2 e3 => ?_)
  refine e_L 1 (f' := (323, [(0, .ref 151)], [])) rfl ?_
  exact e_rV rfl rfl
set_option maxRecDepth 100000 in
set_option maxHeartbeats 4000000 in
theorem le_X12_readRest_175 (en : pN) (d : Nat) (v1 : Int32) (v2 : Int32) (s : qS) : qle (if v2 = (10 : Int32) then L_X12_readRest_187 en d v1 s else if ¬ v2 = (11 : Int32) then if ¬ v2 = (15 : Int32) then if ¬ v2 = (16 : Int32) then L_X12_readRest_312 en d v1 v2 s else bI (qev en d 243 [.ref 151] s) (fun w5 s6 => if w5 = (0 : Int32) then L_X12_readRest_312 en d v1 v2 s6 else if ¬ (s6.1 151 3) = (59 : Int32) then L_X12_readRest_318 en d v1 s6 else L_X12_readRest_312 en d v1 v2 s6) else bI (qev en d 243 [.ref 151] s) (fun w10 s11 => if w10 = (0 : Int32) then L_X12_readRest_252 en d v1 s11 else bI (qev en d 254 [.ref 151] s11) (fun w14 s15 => bV (qev en d 245 [.ref 151, .int w14, .int (2 : Int32)] s15) (fun s18 => L_X12_readRest_252 en d v1 s18))) else L_X12_readRest_187 en d v1 s) (L_X12_readRest_175 en d v1 v2 s) := by
  show qle _ (qE (qev en d) en none tb_X12_readRest (175, [(0, .ref 151), (1, .int v1), (2, .int v2)], []) s)
  refine e_L 2 (f' := (178, [(0, .ref 151), (1, .int v1), (2, .int v2)], [.int (10 : Int32), .int v2])) rfl ?_
  refine e_icmp 187 rfl rfl rfl (fun c1 => ?_) (fun c1 => ?_)
  · exact qE_sub (qsubL [0, 1] rfl (ks := [0, 1, 2]) rfl (by decide))
  · refine e_L 2 (f' := (184, [(0, .ref 151), (1, .int v1), (2, .int v2)], [.int (11 : Int32), .int v2])) rfl ?_
    refine e_icmp 230 rfl rfl rfl (fun c2 => ?_) (fun c2 => ?_)
    · refine e_L 2 (f' := (233, [(0, .ref 151), (1, .int v1), (2, .int v2)], [.int (15 : Int32), .int v2])) rfl ?_
      refine e_icmp 290 rfl rfl rfl (fun c3 => ?_) (fun c3 => ?_)
      · refine e_L 2 (f' := (293, [(0, .ref 151), (1, .int v1), (2, .int v2)], [.int (16 : Int32), .int v2])) rfl ?_
        refine e_icmp 312 rfl rfl rfl (fun c4 => ?_) (fun c4 => ?_)
        · exact qE_sub (qsubL [0, 1, 2] rfl (ks := [0, 1, 2]) rfl (by decide))
        · refine e_L 1 (f' := (297, [(0, .ref 151), (1, .int v1), (2, .int v2)], [.ref 151])) rfl ?_
          refine e_vI 243 rfl rfl ix_X12_good rfl (q_recvOf lc_151 rfl) (Nat.le_of_ble_eq_true rfl) (fun w5 s6 e7 => ?_)
          refine e_ifz 312 rfl rfl rfl (fun c8 => ?_) (fun c8 => ?_)
          · exact qE_sub (qsubL [0, 1, 2] rfl (ks := [0, 1, 2]) rfl (by decide))
          · refine e_L 1 (f' := (304, [(0, .ref 151), (1, .int v1), (2, .int v2)], [.ref 151])) rfl ?_
            refine e_gI 12 3 rfl rfl lc_151 ?_
            refine e_L 1 (f' := (309, [(0, .ref 151), (1, .int v1), (2, .int v2)], [.int (59 : Int32), .int (s6.1 151 3)])) rfl ?_
            refine e_icmp 318 rfl rfl rfl (fun c9 => ?_) (fun c9 => ?_)
            · exact qE_sub (qsubL [0, 1] rfl (ks := [0, 1, 2]) rfl (by decide))
            · exact qE_sub (qsubL [0, 1, 2] rfl (ks := [0, 1, 2]) rfl (by decide))
      · refine e_L 1 (f' := (237, [(0, .ref 151), (1, .int v1), (2, .int v2)], [.ref 151])) rfl ?_
        refine e_vI 243 rfl rfl ix_X12_good rfl (q_recvOf lc_151 rfl) (Nat.le_of_ble_eq_true rfl) (fun w10 s11 e12 => ?_)
        refine e_ifz 252 rfl rfl rfl (fun c13 => ?_) (fun c13 => ?_)
        · exact qE_sub (qsubL [0, 1] rfl (ks := [0, 1, 2]) rfl (by decide))
        · refine e_L 2 (f' := (245, [(0, .ref 151), (1, .int v1), (2, .int v2)], [.ref 151, .ref 151])) rfl ?_
          refine e_vI 254 rfl rfl ix_X12_isName rfl (q_recvOf lc_151 rfl) (Nat.le_of_ble_eq_true rfl) (fun w14 s15 e16 => ?_)
          refine e_L 1 (f' := (249, [(0, .ref 151), (1, .int v1), (2, .int v2)], [.int (2 : Int32), .int w14, .ref 151])) rfl ?_
          refine e_vV 245 rfl rfl ix_X12_need rfl (q_recvOf lc_151 rfl) (Nat.le_of_ble_eq_true rfl) (fun s18 e19 => ?_)
          exact qE_sub (qsubL [0, 1] rfl (ks := [0, 1, 2]) rfl (by decide))
    · exact qE_sub (qsubL [0, 1] rfl (ks := [0, 1, 2]) rfl (by decide))
set_option maxRecDepth 100000 in
set_option maxHeartbeats 4000000 in
theorem le_X12_readRest_187 (en : pN) (d : Nat) (v1 : Int32) (s : qS) : qle (bI (qev en d 243 [.ref 151] s) (fun w1 s2 => if w1 = (0 : Int32) then L_X12_readRest_203 en d v1 s2 else bI (qev en d 254 [.ref 151] s2) (fun w5 s6 => bV (qev en d 245 [.ref 151, .int w5, .int (2 : Int32)] s6) (fun s9 => L_X12_readRest_203 en d v1 s9)))) (L_X12_readRest_187 en d v1 s) := by
  show qle _ (qE (qev en d) en none tb_X12_readRest (187, [(0, .ref 151), (1, .int v1)], []) s)
  refine e_L 1 (f' := (188, [(0, .ref 151), (1, .int v1)], [.ref 151])) rfl ?_
  refine e_vI 243 rfl rfl ix_X12_good rfl (q_recvOf lc_151 rfl) (Nat.le_of_ble_eq_true rfl) (fun w1 s2 e3 => ?_)
  refine e_ifz 203 rfl rfl rfl (fun c4 => ?_) (fun c4 => ?_)
  · exact qE_sub (qsubL [0, 1] rfl (ks := [0, 1]) rfl (by decide))
  · refine e_L 2 (f' := (196, [(0, .ref 151), (1, .int v1)], [.ref 151, .ref 151])) rfl ?_
    refine e_vI 254 rfl rfl ix_X12_isName rfl (q_recvOf lc_151 rfl) (Nat.le_of_ble_eq_true rfl) (fun w5 s6 e7 => ?_)
    refine e_L 1 (f' := (200, [(0, .ref 151), (1, .int v1)], [.int (2 : Int32), .int w5, .ref 151])) rfl ?_
    refine e_vV 245 rfl rfl ix_X12_need rfl (q_recvOf lc_151 rfl) (Nat.le_of_ble_eq_true rfl) (fun s9 e10 => ?_)
    exact qE_sub (qsubL [0, 1] rfl (ks := [0, 1]) rfl (by decide))
set_option maxRecDepth 100000 in
set_option maxHeartbeats 4000000 in
theorem le_X12_readRest_203 (en : pN) (d : Nat) (v1 : Int32) (s : qS) : qle (gd (p_inB v1 100 = true) (nm (uJ s 182 (v1.toNatClampNeg) (s.2.1 151 5)) (fun s2 => nm (uI s2 183 (v1.toNatClampNeg) (s2.1 151 4)) (fun s3 => bV (qev en d 249 [.ref 151] s3) (fun s5 => some (none, s5)))))) (L_X12_readRest_203 en d v1 s) := by
  show qle _ (qE (qev en d) en none tb_X12_readRest (203, [(0, .ref 151), (1, .int v1)], []) s)
  refine e_L 1 (f' := (204, [(0, .ref 151), (1, .int v1)], [.ref 151])) rfl ?_
  refine e_gR (q := 182) 12 51 rfl rfl lc_151 lr_151_51 ?_
  refine e_L 2 (f' := (209, [(0, .ref 151), (1, .int v1)], [.ref 151, .int v1, .ref 182])) rfl ?_
  refine e_gJ 12 5 rfl rfl lc_151 ?_
  refine qle_gd fun h1 => ?_
  refine e_las (n := 100) (k := v1.toNatClampNeg) rfl lc_182 ln_182 h1 rfl ?_
  refine e_nS fun s2 => ?_
  refine e_L 1 (f' := (214, [(0, .ref 151), (1, .int v1)], [.ref 151])) rfl ?_
  refine e_gR (q := 183) 12 52 rfl rfl lc_151 lr_151_52 ?_
  refine e_L 2 (f' := (219, [(0, .ref 151), (1, .int v1)], [.ref 151, .int v1, .ref 183])) rfl ?_
  refine e_gI 12 4 rfl rfl lc_151 ?_
  refine e_ias (n := 100) (k := v1.toNatClampNeg) rfl lc_183 ln_183 h1 rfl ?_
  refine e_nS fun s3 => ?_
  refine e_L 1 (f' := (224, [(0, .ref 151), (1, .int v1)], [.ref 151])) rfl ?_
  refine e_vV 249 rfl rfl ix_X12_next rfl (q_recvOf lc_151 rfl) (Nat.le_of_ble_eq_true rfl) (fun s5 e6 => ?_)
  refine e_L 1 (f' := (323, [(0, .ref 151), (1, .int v1)], [])) rfl ?_
  exact e_rV rfl rfl
set_option maxRecDepth 100000 in
set_option maxHeartbeats 4000000 in
theorem le_X12_readRest_252 (en : pN) (d : Nat) (v1 : Int32) (s : qS) : qle (gd (p_inB v1 400 = true) (nm (uJ s 180 (v1.toNatClampNeg) (s.2.1 151 5)) (fun s2 => bV (qev en d 249 [.ref 151] s2) (fun s4 => bI (qev en d 243 [.ref 151] s4) (fun w6 s7 => if w6 = (0 : Int32) then some (none, s7) else if (s7.1 151 3) = (59 : Int32) then some (none, s7) else bV (qev en d 276 [.ref 151, .int v1] s7) (fun s12 => some (none, s12))))))) (L_X12_readRest_252 en d v1 s) := by
  show qle _ (qE (qev en d) en none tb_X12_readRest (252, [(0, .ref 151), (1, .int v1)], []) s)
  refine e_L 1 (f' := (253, [(0, .ref 151), (1, .int v1)], [.ref 151])) rfl ?_
  refine e_gR (q := 180) 12 49 rfl rfl lc_151 lr_151_49 ?_
  refine e_L 2 (f' := (258, [(0, .ref 151), (1, .int v1)], [.ref 151, .int v1, .ref 180])) rfl ?_
  refine e_gJ 12 5 rfl rfl lc_151 ?_
  refine qle_gd fun h1 => ?_
  refine e_las (n := 400) (k := v1.toNatClampNeg) rfl lc_180 ln_180 h1 rfl ?_
  refine e_nS fun s2 => ?_
  refine e_L 1 (f' := (263, [(0, .ref 151), (1, .int v1)], [.ref 151])) rfl ?_
  refine e_vV 249 rfl rfl ix_X12_next rfl (q_recvOf lc_151 rfl) (Nat.le_of_ble_eq_true rfl) (fun s4 e5 => ?_)
  refine e_L 1 (f' := (267, [(0, .ref 151), (1, .int v1)], [.ref 151])) rfl ?_
  refine e_vI 243 rfl rfl ix_X12_good rfl (q_recvOf lc_151 rfl) (Nat.le_of_ble_eq_true rfl) (fun w6 s7 e8 => ?_)
  refine e_ifz 323 rfl rfl rfl (fun c9 => ?_) (fun c9 => ?_)
  · exact e_rV rfl rfl
  · refine e_L 1 (f' := (274, [(0, .ref 151), (1, .int v1)], [.ref 151])) rfl ?_
    refine e_gI 12 3 rfl rfl lc_151 ?_
    refine e_L 1 (f' := (279, [(0, .ref 151), (1, .int v1)], [.int (59 : Int32), .int (s7.1 151 3)])) rfl ?_
    refine e_icmp 323 rfl rfl rfl (fun c10 => ?_) (fun c10 => ?_)
    · exact e_rV rfl rfl
    · refine e_L 2 (f' := (284, [(0, .ref 151), (1, .int v1)], [.int v1, .ref 151])) rfl ?_
      refine e_vV 276 rfl rfl ix_X12_takeExp rfl (q_recvOf lc_151 rfl) (Nat.le_of_ble_eq_true rfl) (fun s12 e13 => ?_)
      refine e_L 1 (f' := (323, [(0, .ref 151), (1, .int v1)], [])) rfl ?_
      exact e_rV rfl rfl
set_option maxRecDepth 100000 in
set_option maxHeartbeats 4000000 in
theorem le_X12_readRest_312 (en : pN) (d : Nat) (v1 : Int32) (v2 : Int32) (s : qS) : qle (if ¬ v2 = (14 : Int32) then some (none, s) else L_X12_readRest_318 en d v1 s) (L_X12_readRest_312 en d v1 v2 s) := by
  show qle _ (qE (qev en d) en none tb_X12_readRest (312, [(0, .ref 151), (1, .int v1), (2, .int v2)], []) s)
  refine e_L 2 (f' := (315, [(0, .ref 151), (1, .int v1), (2, .int v2)], [.int (14 : Int32), .int v2])) rfl ?_
  refine e_icmp 323 rfl rfl rfl (fun c1 => ?_) (fun c1 => ?_)
  · exact e_rV rfl rfl
  · exact qE_sub (qsubL [0, 1] rfl (ks := [0, 1, 2]) rfl (by decide))
set_option maxRecDepth 100000 in
set_option maxHeartbeats 4000000 in
theorem le_X12_readRest_318 (en : pN) (d : Nat) (v1 : Int32) (s : qS) : qle (bV (qev en d 280 [.ref 151, .int v1] s) (fun s2 => some (none, s2))) (L_X12_readRest_318 en d v1 s) := by
  show qle _ (qE (qev en d) en none tb_X12_readRest (318, [(0, .ref 151), (1, .int v1)], []) s)
  refine e_L 2 (f' := (320, [(0, .ref 151), (1, .int v1)], [.int v1, .ref 151])) rfl ?_
  refine e_vV 280 rfl rfl ix_X12_takeExpGood rfl (q_recvOf lc_151 rfl) (Nat.le_of_ble_eq_true rfl) (fun s2 e3 => ?_)
  exact e_rV rfl rfl
set_option maxRecDepth 100000 in
set_option maxHeartbeats 4000000 in
theorem le_X12_readRest (en : pN) (d : Nat) (a1 : Int32) (a2 : Int32) (s : qS) : qle (if a2 = (3 : Int32) then L_X12_readRest_10 en d a1 a2 s else if ¬ a2 = (4 : Int32) then if a2 < (5 : Int32) then L_X12_readRest_175 en d a1 a2 s else if (9 : Int32) < a2 then L_X12_readRest_175 en d a1 a2 s else bI (qev en d 243 [.ref 151] s) (fun w5 s6 => if w5 = (0 : Int32) then L_X12_readRest_127 en d a1 s6 else bI (qev en d 254 [.ref 151] s6) (fun w9 s10 => bV (qev en d 245 [.ref 151, .int w9, .int (2 : Int32)] s10) (fun s13 => L_X12_readRest_127 en d a1 s13))) else L_X12_readRest_10 en d a1 a2 s) (qev en (d + 1) 279 [.ref 151, .int a1, .int a2] s) := by
  refine e_enter ix_X12_readRest (Nat.le_of_ble_eq_true rfl) ?_
  show qle _ (qE (qev en d) en none tb_X12_readRest (0, [(0, .ref 151), (1, .int a1), (2, .int a2)], []) s)
  refine e_L 2 (f' := (2, [(0, .ref 151), (1, .int a1), (2, .int a2)], [.int (3 : Int32), .int a2])) rfl ?_
  refine e_icmp 10 rfl rfl rfl (fun c1 => ?_) (fun c1 => ?_)
  · exact qE_sub (qsubL [0, 1, 2] rfl (ks := [0, 1, 2]) rfl (by decide))
  · refine e_L 2 (f' := (7, [(0, .ref 151), (1, .int a1), (2, .int a2)], [.int (4 : Int32), .int a2])) rfl ?_
    refine e_icmp 100 rfl rfl rfl (fun c2 => ?_) (fun c2 => ?_)
    · refine e_L 2 (f' := (102, [(0, .ref 151), (1, .int a1), (2, .int a2)], [.int (5 : Int32), .int a2])) rfl ?_
      refine e_icmp 175 rfl rfl rfl (fun c3 => ?_) (fun c3 => ?_)
      · exact qE_sub (qsubL [0, 1, 2] rfl (ks := [0, 1, 2]) rfl (by decide))
      · refine e_L 2 (f' := (108, [(0, .ref 151), (1, .int a1), (2, .int a2)], [.int (9 : Int32), .int a2])) rfl ?_
        refine e_icmp 175 rfl rfl rfl (fun c4 => ?_) (fun c4 => ?_)
        · exact qE_sub (qsubL [0, 1, 2] rfl (ks := [0, 1, 2]) rfl (by decide))
        · refine e_L 1 (f' := (112, [(0, .ref 151), (1, .int a1), (2, .int a2)], [.ref 151])) rfl ?_
          refine e_vI 243 rfl rfl ix_X12_good rfl (q_recvOf lc_151 rfl) (Nat.le_of_ble_eq_true rfl) (fun w5 s6 e7 => ?_)
          refine e_ifz 127 rfl rfl rfl (fun c8 => ?_) (fun c8 => ?_)
          · exact qE_sub (qsubL [0, 1] rfl (ks := [0, 1, 2]) rfl (by decide))
          · refine e_L 2 (f' := (120, [(0, .ref 151), (1, .int a1), (2, .int a2)], [.ref 151, .ref 151])) rfl ?_
            refine e_vI 254 rfl rfl ix_X12_isName rfl (q_recvOf lc_151 rfl) (Nat.le_of_ble_eq_true rfl) (fun w9 s10 e11 => ?_)
            refine e_L 1 (f' := (124, [(0, .ref 151), (1, .int a1), (2, .int a2)], [.int (2 : Int32), .int w9, .ref 151])) rfl ?_
            refine e_vV 245 rfl rfl ix_X12_need rfl (q_recvOf lc_151 rfl) (Nat.le_of_ble_eq_true rfl) (fun s13 e14 => ?_)
            exact qE_sub (qsubL [0, 1] rfl (ks := [0, 1, 2]) rfl (by decide))
    · exact qE_sub (qsubL [0, 1, 2] rfl (ks := [0, 1, 2]) rfl (by decide))
set_option maxRecDepth 100000 in
set_option maxHeartbeats 4000000 in
theorem le_X12_takeExpGood (en : pN) (d : Nat) (a1 : Int32) (s : qS) : qle (bI (qev en d 243 [.ref 151] s) (fun w1 s2 => if w1 = (0 : Int32) then some (none, s2) else bV (qev en d 276 [.ref 151, .int a1] s2) (fun s6 => some (none, s6)))) (qev en (d + 1) 280 [.ref 151, .int a1] s) := by
  refine e_enter ix_X12_takeExpGood (Nat.le_of_ble_eq_true rfl) ?_
  show qle _ (qE (qev en d) en none tb_X12_takeExpGood (0, [(0, .ref 151), (1, .int a1)], []) s)
  refine e_L 1 (f' := (1, [(0, .ref 151), (1, .int a1)], [.ref 151])) rfl ?_
  refine e_vI 243 rfl rfl ix_X12_good rfl (q_recvOf lc_151 rfl) (Nat.le_of_ble_eq_true rfl) (fun w1 s2 e3 => ?_)
  refine e_ifz 12 rfl rfl rfl (fun c4 => ?_) (fun c4 => ?_)
  · exact e_rV rfl rfl
  · refine e_L 2 (f' := (9, [(0, .ref 151), (1, .int a1)], [.int a1, .ref 151])) rfl ?_
    refine e_vV 276 rfl rfl ix_X12_takeExp rfl (q_recvOf lc_151 rfl) (Nat.le_of_ble_eq_true rfl) (fun s6 e7 => ?_)
    exact e_rV rfl rfl
noncomputable def L_X12_takeCell_16 (en : pN) (d : Nat) (v1 : Int32) (s : qS) : Option qR := qE (qev en d) en none tb_X12_takeCell (16, [(0, .ref 151), (1, .int v1)], []) s
noncomputable def L_X12_takeCell_53 (en : pN) (d : Nat) (vs1 : Int32) (s : qS) : Option qR := qE (qev en d) en none tb_X12_takeCell (53, [(0, .ref 151)], [.int vs1, .ref 151]) s
noncomputable def L_X12_takeCell_57 (en : pN) (d : Nat) (s : qS) : Option qR := qE (qev en d) en none tb_X12_takeCell (57, [(0, .ref 151)], []) s
set_option maxRecDepth 100000 in
set_option maxHeartbeats 4000000 in
theorem le_X12_takeCell_16 (en : pN) (d : Nat) (v1 : Int32) (s : qS) : qle (bI (qev en d 243 [.ref 151] s) (fun w1 s2 => if w1 = (0 : Int32) then L_X12_takeCell_57 en d s2 else bI (qev en d 256 [.ref 151, .long (s2.2.1 151 5)] s2) (fun w5 s6 => gd (p_inB v1 400 = true) (nm (uI s6 166 (v1.toNatClampNeg) w5) (fun s9 => if (s9.1 166 v1.toNatClampNeg) = (-1 : Int32) then L_X12_takeCell_53 en d (0 : Int32) s9 else L_X12_takeCell_53 en d (1 : Int32) s9))))) (L_X12_takeCell_16 en d v1 s) := by
  show qle _ (qE (qev en d) en none tb_X12_takeCell (16, [(0, .ref 151), (1, .int v1)], []) s)
  refine e_L 1 (f' := (17, [(0, .ref 151), (1, .int v1)], [.ref 151])) rfl ?_
  refine e_vI 243 rfl rfl ix_X12_good rfl (q_recvOf lc_151 rfl) (Nat.le_of_ble_eq_true rfl) (fun w1 s2 e3 => ?_)
  refine e_ifz 57 rfl rfl rfl (fun c4 => ?_) (fun c4 => ?_)
  · exact qE_sub (qsubL [0] rfl (ks := [0, 1]) rfl (by decide))
  · refine e_L 1 (f' := (24, [(0, .ref 151), (1, .int v1)], [.ref 151])) rfl ?_
    refine e_gR (q := 166) 12 35 rfl rfl lc_151 lr_151_35 ?_
    refine e_L 3 (f' := (30, [(0, .ref 151), (1, .int v1)], [.ref 151, .ref 151, .int v1, .ref 166])) rfl ?_
    refine e_gJ 12 5 rfl rfl lc_151 ?_
    refine e_vI 256 rfl rfl ix_X12_cellOf rfl (q_recvOf lc_151 rfl) (Nat.le_of_ble_eq_true rfl) (fun w5 s6 e7 => ?_)
    refine qle_gd fun h8 => ?_
    refine e_ias (n := 400) (k := v1.toNatClampNeg) rfl lc_166 ln_166 h8 rfl ?_
    refine e_nS fun s9 => ?_
    refine e_L 2 (f' := (39, [(0, .ref 151), (1, .int v1)], [.ref 151, .ref 151])) rfl ?_
    refine e_gR (q := 166) 12 35 rfl rfl lc_151 lr_151_35 ?_
    refine e_L 1 (f' := (43, [(0, .ref 151), (1, .int v1)], [.int v1, .ref 166, .ref 151])) rfl ?_
    refine e_ial (n := 400) (k := v1.toNatClampNeg) rfl lc_166 ln_166 h8 rfl ?_
    refine e_L 1 (f' := (45, [(0, .ref 151), (1, .int v1)], [.int (-1 : Int32), .int (s9.1 166 v1.toNatClampNeg), .ref 151])) rfl ?_
    refine e_icmp 52 rfl rfl rfl (fun c10 => ?_) (fun c10 => ?_)
    · refine e_L 1 (f' := (53, [(0, .ref 151), (1, .int v1)], [.int (0 : Int32), .ref 151])) rfl ?_
      exact qE_sub (qsubL [0] rfl (ks := [0, 1]) rfl (by decide))
    · refine e_L 2 (f' := (53, [(0, .ref 151), (1, .int v1)], [.int (1 : Int32), .ref 151])) rfl ?_
      exact qE_sub (qsubL [0] rfl (ks := [0, 1]) rfl (by decide))
set_option maxRecDepth 100000 in
set_option maxHeartbeats 4000000 in
theorem le_X12_takeCell_53 (en : pN) (d : Nat) (vs1 : Int32) (s : qS) : qle (bV (qev en d 245 [.ref 151, .int vs1, .int (3 : Int32)] s) (fun s2 => L_X12_takeCell_57 en d s2)) (L_X12_takeCell_53 en d vs1 s) := by
  show qle _ (qE (qev en d) en none tb_X12_takeCell (53, [(0, .ref 151)], [.int vs1, .ref 151]) s)
  refine e_L 1 (f' := (54, [(0, .ref 151)], [.int (3 : Int32), .int vs1, .ref 151])) rfl ?_
  refine e_vV 245 rfl rfl ix_X12_need rfl (q_recvOf lc_151 rfl) (Nat.le_of_ble_eq_true rfl) (fun s2 e3 => ?_)
  exact qE_sub (qsubL [0] rfl (ks := [0]) rfl (by decide))
set_option maxRecDepth 100000 in
set_option maxHeartbeats 4000000 in
theorem le_X12_takeCell_57 (en : pN) (d : Nat) (s : qS) : qle (bV (qev en d 249 [.ref 151] s) (fun s2 => some (none, s2))) (L_X12_takeCell_57 en d s) := by
  show qle _ (qE (qev en d) en none tb_X12_takeCell (57, [(0, .ref 151)], []) s)
  refine e_L 1 (f' := (58, [(0, .ref 151)], [.ref 151])) rfl ?_
  refine e_vV 249 rfl rfl ix_X12_next rfl (q_recvOf lc_151 rfl) (Nat.le_of_ble_eq_true rfl) (fun s2 e3 => ?_)
  exact e_rV rfl rfl
set_option maxRecDepth 100000 in
set_option maxHeartbeats 4000000 in
theorem le_X12_takeCell (en : pN) (d : Nat) (a1 : Int32) (s : qS) : qle (bI (qev en d 243 [.ref 151] s) (fun w1 s2 => if w1 = (0 : Int32) then L_X12_takeCell_16 en d a1 s2 else bI (qev en d 254 [.ref 151] s2) (fun w5 s6 => bV (qev en d 245 [.ref 151, .int w5, .int (2 : Int32)] s6) (fun s9 => L_X12_takeCell_16 en d a1 s9)))) (qev en (d + 1) 281 [.ref 151, .int a1] s) := by
  refine e_enter ix_X12_takeCell (Nat.le_of_ble_eq_true rfl) ?_
  show qle _ (qE (qev en d) en none tb_X12_takeCell (0, [(0, .ref 151), (1, .int a1)], []) s)
  refine e_L 1 (f' := (1, [(0, .ref 151), (1, .int a1)], [.ref 151])) rfl ?_
  refine e_vI 243 rfl rfl ix_X12_good rfl (q_recvOf lc_151 rfl) (Nat.le_of_ble_eq_true rfl) (fun w1 s2 e3 => ?_)
  refine e_ifz 16 rfl rfl rfl (fun c4 => ?_) (fun c4 => ?_)
  · exact qE_sub (qsubL [0, 1] rfl (ks := [0, 1]) rfl (by decide))
  · refine e_L 2 (f' := (9, [(0, .ref 151), (1, .int a1)], [.ref 151, .ref 151])) rfl ?_
    refine e_vI 254 rfl rfl ix_X12_isName rfl (q_recvOf lc_151 rfl) (Nat.le_of_ble_eq_true rfl) (fun w5 s6 e7 => ?_)
    refine e_L 1 (f' := (13, [(0, .ref 151), (1, .int a1)], [.int (2 : Int32), .int w5, .ref 151])) rfl ?_
    refine e_vV 245 rfl rfl ix_X12_need rfl (q_recvOf lc_151 rfl) (Nat.le_of_ble_eq_true rfl) (fun s9 e10 => ?_)
    exact qE_sub (qsubL [0, 1] rfl (ks := [0, 1]) rfl (by decide))
noncomputable def L_X12_takeInto_16 (en : pN) (d : Nat) (v1 : Int32) (s : qS) : Option qR := qE (qev en d) en none tb_X12_takeInto (16, [(0, .ref 151), (1, .int v1)], []) s
noncomputable def L_X12_takeInto_40 (en : pN) (d : Nat) (v1 : Int32) (vs1 : Int32) (s : qS) : Option qR := qE (qev en d) en none tb_X12_takeInto (40, [(0, .ref 151), (1, .int v1)], [.int vs1, .ref 151]) s
noncomputable def L_X12_takeInto_44 (en : pN) (d : Nat) (v1 : Int32) (s : qS) : Option qR := qE (qev en d) en none tb_X12_takeInto (44, [(0, .ref 151), (1, .int v1)], []) s
noncomputable def L_X12_takeInto_61 (en : pN) (d : Nat) (s : qS) : Option qR := qE (qev en d) en none tb_X12_takeInto (61, [(0, .ref 151)], []) s
set_option maxRecDepth 100000 in
set_option maxHeartbeats 4000000 in
theorem le_X12_takeInto_16 (en : pN) (d : Nat) (v1 : Int32) (s : qS) : qle (bI (qev en d 243 [.ref 151] s) (fun w1 s2 => if w1 = (0 : Int32) then L_X12_takeInto_44 en d v1 s2 else bI (qev en d 260 [.ref 151, .long (s2.2.1 151 5)] s2) (fun w5 s6 => if ¬ w5 = (0 : Int32) then L_X12_takeInto_40 en d v1 (0 : Int32) s6 else L_X12_takeInto_40 en d v1 (1 : Int32) s6))) (L_X12_takeInto_16 en d v1 s) := by
  show qle _ (qE (qev en d) en none tb_X12_takeInto (16, [(0, .ref 151), (1, .int v1)], []) s)
  refine e_L 1 (f' := (17, [(0, .ref 151), (1, .int v1)], [.ref 151])) rfl ?_
  refine e_vI 243 rfl rfl ix_X12_good rfl (q_recvOf lc_151 rfl) (Nat.le_of_ble_eq_true rfl) (fun w1 s2 e3 => ?_)
  refine e_ifz 44 rfl rfl rfl (fun c4 => ?_) (fun c4 => ?_)
  · exact qE_sub (qsubL [0, 1] rfl (ks := [0, 1]) rfl (by decide))
  · refine e_L 3 (f' := (26, [(0, .ref 151), (1, .int v1)], [.ref 151, .ref 151, .ref 151])) rfl ?_
    refine e_gJ 12 5 rfl rfl lc_151 ?_
    refine e_vI 260 rfl rfl ix_X12_isTold rfl (q_recvOf lc_151 rfl) (Nat.le_of_ble_eq_true rfl) (fun w5 s6 e7 => ?_)
    refine e_ifz 39 rfl rfl rfl (fun c8 => ?_) (fun c8 => ?_)
    · refine e_L 1 (f' := (40, [(0, .ref 151), (1, .int v1)], [.int (0 : Int32), .ref 151])) rfl ?_
      exact qE_sub (qsubL [0, 1] rfl (ks := [0, 1]) rfl (by decide))
    · refine e_L 2 (f' := (40, [(0, .ref 151), (1, .int v1)], [.int (1 : Int32), .ref 151])) rfl ?_
      exact qE_sub (qsubL [0, 1] rfl (ks := [0, 1]) rfl (by decide))
set_option maxRecDepth 100000 in
set_option maxHeartbeats 4000000 in
theorem le_X12_takeInto_40 (en : pN) (d : Nat) (v1 : Int32) (vs1 : Int32) (s : qS) : qle (bV (qev en d 245 [.ref 151, .int vs1, .int (3 : Int32)] s) (fun s2 => L_X12_takeInto_44 en d v1 s2)) (L_X12_takeInto_40 en d v1 vs1 s) := by
  show qle _ (qE (qev en d) en none tb_X12_takeInto (40, [(0, .ref 151), (1, .int v1)], [.int vs1, .ref 151]) s)
  refine e_L 1 (f' := (41, [(0, .ref 151), (1, .int v1)], [.int (3 : Int32), .int vs1, .ref 151])) rfl ?_
  refine e_vV 245 rfl rfl ix_X12_need rfl (q_recvOf lc_151 rfl) (Nat.le_of_ble_eq_true rfl) (fun s2 e3 => ?_)
  exact qE_sub (qsubL [0, 1] rfl (ks := [0, 1]) rfl (by decide))
set_option maxRecDepth 100000 in
set_option maxHeartbeats 4000000 in
theorem le_X12_takeInto_44 (en : pN) (d : Nat) (v1 : Int32) (s : qS) : qle (bI (qev en d 243 [.ref 151] s) (fun w1 s2 => if w1 = (0 : Int32) then L_X12_takeInto_61 en d s2 else bI (qev en d 261 [.ref 151] s2) (fun w5 s6 => gd (p_inB v1 400 = true) (nm (uI s6 167 (v1.toNatClampNeg) w5) (fun s9 => L_X12_takeInto_61 en d s9))))) (L_X12_takeInto_44 en d v1 s) := by
  show qle _ (qE (qev en d) en none tb_X12_takeInto (44, [(0, .ref 151), (1, .int v1)], []) s)
  refine e_L 1 (f' := (45, [(0, .ref 151), (1, .int v1)], [.ref 151])) rfl ?_
  refine e_vI 243 rfl rfl ix_X12_good rfl (q_recvOf lc_151 rfl) (Nat.le_of_ble_eq_true rfl) (fun w1 s2 e3 => ?_)
  refine e_ifz 61 rfl rfl rfl (fun c4 => ?_) (fun c4 => ?_)
  · exact qE_sub (qsubL [0] rfl (ks := [0, 1]) rfl (by decide))
  · refine e_L 1 (f' := (52, [(0, .ref 151), (1, .int v1)], [.ref 151])) rfl ?_
    refine e_gR (q := 167) 12 36 rfl rfl lc_151 lr_151_36 ?_
    refine e_L 2 (f' := (57, [(0, .ref 151), (1, .int v1)], [.ref 151, .int v1, .ref 167])) rfl ?_
    refine e_vI 261 rfl rfl ix_X12_takeLocal rfl (q_recvOf lc_151 rfl) (Nat.le_of_ble_eq_true rfl) (fun w5 s6 e7 => ?_)
    refine qle_gd fun h8 => ?_
    refine e_ias (n := 400) (k := v1.toNatClampNeg) rfl lc_167 ln_167 h8 rfl ?_
    refine e_nS fun s9 => ?_
    exact qE_sub (qsubL [0] rfl (ks := [0, 1]) rfl (by decide))
set_option maxRecDepth 100000 in
set_option maxHeartbeats 4000000 in
theorem le_X12_takeInto_61 (en : pN) (d : Nat) (s : qS) : qle (bV (qev en d 249 [.ref 151] s) (fun s2 => some (none, s2))) (L_X12_takeInto_61 en d s) := by
  show qle _ (qE (qev en d) en none tb_X12_takeInto (61, [(0, .ref 151)], []) s)
  refine e_L 1 (f' := (62, [(0, .ref 151)], [.ref 151])) rfl ?_
  refine e_vV 249 rfl rfl ix_X12_next rfl (q_recvOf lc_151 rfl) (Nat.le_of_ble_eq_true rfl) (fun s2 e3 => ?_)
  exact e_rV rfl rfl
set_option maxRecDepth 100000 in
set_option maxHeartbeats 4000000 in
theorem le_X12_takeInto (en : pN) (d : Nat) (a1 : Int32) (s : qS) : qle (bI (qev en d 243 [.ref 151] s) (fun w1 s2 => if w1 = (0 : Int32) then L_X12_takeInto_16 en d a1 s2 else bI (qev en d 254 [.ref 151] s2) (fun w5 s6 => bV (qev en d 245 [.ref 151, .int w5, .int (2 : Int32)] s6) (fun s9 => L_X12_takeInto_16 en d a1 s9)))) (qev en (d + 1) 282 [.ref 151, .int a1] s) := by
  refine e_enter ix_X12_takeInto (Nat.le_of_ble_eq_true rfl) ?_
  show qle _ (qE (qev en d) en none tb_X12_takeInto (0, [(0, .ref 151), (1, .int a1)], []) s)
  refine e_L 1 (f' := (1, [(0, .ref 151), (1, .int a1)], [.ref 151])) rfl ?_
  refine e_vI 243 rfl rfl ix_X12_good rfl (q_recvOf lc_151 rfl) (Nat.le_of_ble_eq_true rfl) (fun w1 s2 e3 => ?_)
  refine e_ifz 16 rfl rfl rfl (fun c4 => ?_) (fun c4 => ?_)
  · exact qE_sub (qsubL [0, 1] rfl (ks := [0, 1]) rfl (by decide))
  · refine e_L 2 (f' := (9, [(0, .ref 151), (1, .int a1)], [.ref 151, .ref 151])) rfl ?_
    refine e_vI 254 rfl rfl ix_X12_isName rfl (q_recvOf lc_151 rfl) (Nat.le_of_ble_eq_true rfl) (fun w5 s6 e7 => ?_)
    refine e_L 1 (f' := (13, [(0, .ref 151), (1, .int a1)], [.int (2 : Int32), .int w5, .ref 151])) rfl ?_
    refine e_vV 245 rfl rfl ix_X12_need rfl (q_recvOf lc_151 rfl) (Nat.le_of_ble_eq_true rfl) (fun s9 e10 => ?_)
    exact qE_sub (qsubL [0, 1] rfl (ks := [0, 1]) rfl (by decide))
noncomputable def L_X12_readAssignment_23 (en : pN) (d : Nat) (v1 : Int32) (vs0 : Int32) (s : qS) : Option qR := qE (qev en d) en none tb_X12_readAssignment (23, [(0, .ref 151), (1, .int v1)], [.int vs0]) s
noncomputable def L_X12_readAssignment_43 (en : pN) (d : Nat) (v1 : Int32) (v2 : Int32) (vs1 : Int32) (s : qS) : Option qR := qE (qev en d) en none tb_X12_readAssignment (43, [(0, .ref 151), (1, .int v1), (2, .int v2)], [.int vs1, .ref 151]) s
noncomputable def L_X12_readAssignment_63 (en : pN) (d : Nat) (v1 : Int32) (v2 : Int32) (v3 : Int32) (vs1 : Int32) (vs2 : Int32) (s : qS) : Option qR := qE (qev en d) en none tb_X12_readAssignment (63, [(0, .ref 151), (1, .int v1), (2, .int v2), (3, .int v3)], [.int vs2, .int vs1, .ref 166]) s
noncomputable def L_X12_readAssignment_140 (en : pN) (d : Nat) (v3 : Int32) (s : qS) : Option qR := qE (qev en d) en none tb_X12_readAssignment (140, [(0, .ref 151), (3, .int v3)], []) s
noncomputable def L_X12_readAssignment_145 (en : pN) (d : Nat) (s : qS) : Option qR := qE (qev en d) en none tb_X12_readAssignment (145, [(0, .ref 151)], []) s
set_option maxRecDepth 100000 in
set_option maxHeartbeats 4000000 in
theorem le_X12_readAssignment_23 (en : pN) (d : Nat) (v1 : Int32) (vs0 : Int32) (s : qS) : qle (bI (qev en d 243 [.ref 151] s) (fun w1 s2 => if ¬ w1 = (0 : Int32) then if ¬ v1 = (-1 : Int32) then L_X12_readAssignment_43 en d v1 vs0 (2 : Int32) s2 else L_X12_readAssignment_43 en d v1 vs0 (0 : Int32) s2 else some (none, s2))) (L_X12_readAssignment_23 en d v1 vs0 s) := by
  show qle _ (qE (qev en d) en none tb_X12_readAssignment (23, [(0, .ref 151), (1, .int v1)], [.int vs0]) s)
  refine e_L 2 (f' := (25, [(2, .int vs0), (0, .ref 151), (1, .int v1)], [.ref 151])) rfl ?_
  refine e_vI 243 rfl rfl ix_X12_good rfl (q_recvOf lc_151 rfl) (Nat.le_of_ble_eq_true rfl) (fun w1 s2 e3 => ?_)
  refine e_ifz 32 rfl rfl rfl (fun c4 => ?_) (fun c4 => ?_)
  · refine e_L 3 (f' := (35, [(2, .int vs0), (0, .ref 151), (1, .int v1)], [.int (-1 : Int32), .int v1, .ref 151])) rfl ?_
    refine e_icmp 42 rfl rfl rfl (fun c5 => ?_) (fun c5 => ?_)
    · refine e_L 1 (f' := (43, [(2, .int vs0), (0, .ref 151), (1, .int v1)], [.int (2 : Int32), .ref 151])) rfl ?_
      exact qE_sub (qsubL [1, 2, 0] rfl (ks := [2, 0, 1]) rfl (by decide))
    · refine e_L 2 (f' := (43, [(2, .int vs0), (0, .ref 151), (1, .int v1)], [.int (0 : Int32), .ref 151])) rfl ?_
      exact qE_sub (qsubL [1, 2, 0] rfl (ks := [2, 0, 1]) rfl (by decide))
  · exact e_rV rfl rfl
set_option maxRecDepth 100000 in
set_option maxHeartbeats 4000000 in
theorem le_X12_readAssignment_43 (en : pN) (d : Nat) (v1 : Int32) (v2 : Int32) (vs1 : Int32) (s : qS) : qle (bI (qev en d 275 [.ref 151, .int vs1] s) (fun w1 s2 => if ¬ v1 = (-1 : Int32) then L_X12_readAssignment_63 en d v1 v2 w1 w1 v1 s2 else L_X12_readAssignment_63 en d v1 v2 w1 w1 (-2 : Int32) s2)) (L_X12_readAssignment_43 en d v1 v2 vs1 s) := by
  show qle _ (qE (qev en d) en none tb_X12_readAssignment (43, [(0, .ref 151), (1, .int v1), (2, .int v2)], [.int vs1, .ref 151]) s)
  refine e_vI 275 rfl rfl ix_X12_newLine rfl (q_recvOf lc_151 rfl) (Nat.le_of_ble_eq_true rfl) (fun w1 s2 e3 => ?_)
  refine e_L 2 (f' := (48, [(3, .int w1), (0, .ref 151), (1, .int v1), (2, .int v2)], [.ref 151])) rfl ?_
  refine e_gR (q := 166) 12 35 rfl rfl lc_151 lr_151_35 ?_
  refine e_L 3 (f' := (54, [(3, .int w1), (0, .ref 151), (1, .int v1), (2, .int v2)], [.int (-1 : Int32), .int v1, .int w1, .ref 166])) rfl ?_
  refine e_icmp 62 rfl rfl rfl (fun c4 => ?_) (fun c4 => ?_)
  · refine e_L 1 (f' := (63, [(3, .int w1), (0, .ref 151), (1, .int v1), (2, .int v2)], [.int v1, .int w1, .ref 166])) rfl ?_
    exact qE_sub (qsubL [1, 2, 3, 0] rfl (ks := [3, 0, 1, 2]) rfl (by decide))
  · refine e_L 2 (f' := (63, [(3, .int w1), (0, .ref 151), (1, .int v1), (2, .int v2)], [.int (-2 : Int32), .int w1, .ref 166])) rfl ?_
    exact qE_sub (qsubL [1, 2, 3, 0] rfl (ks := [3, 0, 1, 2]) rfl (by decide))
set_option maxRecDepth 100000 in
set_option maxHeartbeats 4000000 in
theorem le_X12_readAssignment_63 (en : pN) (d : Nat) (v1 : Int32) (v2 : Int32) (v3 : Int32) (vs1 : Int32) (vs2 : Int32) (s : qS) : qle (gd (p_inB vs1 400 = true) (nm (uI s 166 (vs1.toNatClampNeg) vs2) (fun s2 => gd (p_inB v3 400 = true) (nm (uI s2 167 (v3.toNatClampNeg) v2) (fun s4 => bV (qev en d 249 [.ref 151] s4) (fun s6 => bV (qev en d 252 [.ref 151, .int (61 : Int32)] s6) (fun s9 => bI (qev en d 243 [.ref 151] s9) (fun w11 s12 => if w11 = (0 : Int32) then L_X12_readAssignment_140 en d v3 s12 else if ¬ v1 = (-1 : Int32) then L_X12_readAssignment_140 en d v3 s12 else bI (qev en d 254 [.ref 151] s12) (fun w16 s17 => if w16 = (0 : Int32) then L_X12_readAssignment_140 en d v3 s17 else bI (qev en d 256 [.ref 151, .long (s17.2.1 151 5)] s17) (fun w20 s21 => if w20 = (-1 : Int32) then L_X12_readAssignment_140 en d v3 s21 else nm (uI s21 164 (v3.toNatClampNeg) (1 : Int32)) (fun s24 => bI (qev en d 256 [.ref 151, .long (s24.2.1 151 5)] s24) (fun w25 s26 => nm (uI s26 166 (v3.toNatClampNeg) w25) (fun s28 => bV (qev en d 249 [.ref 151] s28) (fun s30 => L_X12_readAssignment_145 en d s30)))))))))))))) (L_X12_readAssignment_63 en d v1 v2 v3 vs1 vs2 s) := by
  show qle _ (qE (qev en d) en none tb_X12_readAssignment (63, [(0, .ref 151), (1, .int v1), (2, .int v2), (3, .int v3)], [.int vs2, .int vs1, .ref 166]) s)
  refine qle_gd fun h1 => ?_
  refine e_ias (n := 400) (k := vs1.toNatClampNeg) rfl lc_166 ln_166 h1 rfl ?_
  refine e_nS fun s2 => ?_
  refine e_L 1 (f' := (65, [(0, .ref 151), (1, .int v1), (2, .int v2), (3, .int v3)], [.ref 151])) rfl ?_
  refine e_gR (q := 167) 12 36 rfl rfl lc_151 lr_151_36 ?_
  refine e_L 2 (f' := (70, [(0, .ref 151), (1, .int v1), (2, .int v2), (3, .int v3)], [.int v2, .int v3, .ref 167])) rfl ?_
  refine qle_gd fun h3 => ?_
  refine e_ias (n := 400) (k := v3.toNatClampNeg) rfl lc_167 ln_167 h3 rfl ?_
  refine e_nS fun s4 => ?_
  refine e_L 1 (f' := (72, [(0, .ref 151), (1, .int v1), (2, .int v2), (3, .int v3)], [.ref 151])) rfl ?_
  refine e_vV 249 rfl rfl ix_X12_next rfl (q_recvOf lc_151 rfl) (Nat.le_of_ble_eq_true rfl) (fun s6 e7 => ?_)
  refine e_L 2 (f' := (78, [(0, .ref 151), (1, .int v1), (2, .int v2), (3, .int v3)], [.int (61 : Int32), .ref 151])) rfl ?_
  refine e_vV 252 rfl rfl ix_X12_must rfl (q_recvOf lc_151 rfl) (Nat.le_of_ble_eq_true rfl) (fun s9 e10 => ?_)
  refine e_L 1 (f' := (82, [(0, .ref 151), (1, .int v1), (2, .int v2), (3, .int v3)], [.ref 151])) rfl ?_
  refine e_vI 243 rfl rfl ix_X12_good rfl (q_recvOf lc_151 rfl) (Nat.le_of_ble_eq_true rfl) (fun w11 s12 e13 => ?_)
  refine e_ifz 140 rfl rfl rfl (fun c14 => ?_) (fun c14 => ?_)
  · exact qE_sub (qsubL [0, 3] rfl (ks := [0, 1, 2, 3]) rfl (by decide))
  · refine e_L 2 (f' := (90, [(0, .ref 151), (1, .int v1), (2, .int v2), (3, .int v3)], [.int (-1 : Int32), .int v1])) rfl ?_
    refine e_icmp 140 rfl rfl rfl (fun c15 => ?_) (fun c15 => ?_)
    · exact qE_sub (qsubL [0, 3] rfl (ks := [0, 1, 2, 3]) rfl (by decide))
    · refine e_L 1 (f' := (94, [(0, .ref 151), (1, .int v1), (2, .int v2), (3, .int v3)], [.ref 151])) rfl ?_
      refine e_vI 254 rfl rfl ix_X12_isName rfl (q_recvOf lc_151 rfl) (Nat.le_of_ble_eq_true rfl) (fun w16 s17 e18 => ?_)
      refine e_ifz 140 rfl rfl rfl (fun c19 => ?_) (fun c19 => ?_)
      · exact qE_sub (qsubL [0, 3] rfl (ks := [0, 1, 2, 3]) rfl (by decide))
      · refine e_L 2 (f' := (102, [(0, .ref 151), (1, .int v1), (2, .int v2), (3, .int v3)], [.ref 151, .ref 151])) rfl ?_
        refine e_gJ 12 5 rfl rfl lc_151 ?_
        refine e_vI 256 rfl rfl ix_X12_cellOf rfl (q_recvOf lc_151 rfl) (Nat.le_of_ble_eq_true rfl) (fun w20 s21 e22 => ?_)
        refine e_L 1 (f' := (109, [(0, .ref 151), (1, .int v1), (2, .int v2), (3, .int v3)], [.int (-1 : Int32), .int w20])) rfl ?_
        refine e_icmp 140 rfl rfl rfl (fun c23 => ?_) (fun c23 => ?_)
        · exact qE_sub (qsubL [0, 3] rfl (ks := [0, 1, 2, 3]) rfl (by decide))
        · refine e_L 1 (f' := (113, [(0, .ref 151), (1, .int v1), (2, .int v2), (3, .int v3)], [.ref 151])) rfl ?_
          refine e_gR (q := 164) 12 33 rfl rfl lc_151 lr_151_33 ?_
          refine e_L 2 (f' := (118, [(0, .ref 151), (1, .int v1), (2, .int v2), (3, .int v3)], [.int (1 : Int32), .int v3, .ref 164])) rfl ?_
          refine e_ias (n := 400) (k := v3.toNatClampNeg) rfl lc_164 ln_164 h3 rfl ?_
          refine e_nS fun s24 => ?_
          refine e_L 1 (f' := (120, [(0, .ref 151), (1, .int v1), (2, .int v2), (3, .int v3)], [.ref 151])) rfl ?_
          refine e_gR (q := 166) 12 35 rfl rfl lc_151 lr_151_35 ?_
          refine e_L 3 (f' := (126, [(0, .ref 151), (1, .int v1), (2, .int v2), (3, .int v3)], [.ref 151, .ref 151, .int v3, .ref 166])) rfl ?_
          refine e_gJ 12 5 rfl rfl lc_151 ?_
          refine e_vI 256 rfl rfl ix_X12_cellOf rfl (q_recvOf lc_151 rfl) (Nat.le_of_ble_eq_true rfl) (fun w25 s26 e27 => ?_)
          refine e_ias (n := 400) (k := v3.toNatClampNeg) rfl lc_166 ln_166 h3 rfl ?_
          refine e_nS fun s28 => ?_
          refine e_L 1 (f' := (134, [(0, .ref 151), (1, .int v1), (2, .int v2), (3, .int v3)], [.ref 151])) rfl ?_
          refine e_vV 249 rfl rfl ix_X12_next rfl (q_recvOf lc_151 rfl) (Nat.le_of_ble_eq_true rfl) (fun s30 e31 => ?_)
          refine e_L 1 (f' := (145, [(0, .ref 151), (1, .int v1), (2, .int v2), (3, .int v3)], [])) rfl ?_
          exact qE_sub (qsubL [0] rfl (ks := [0, 1, 2, 3]) rfl (by decide))
set_option maxRecDepth 100000 in
set_option maxHeartbeats 4000000 in
theorem le_X12_readAssignment_140 (en : pN) (d : Nat) (v3 : Int32) (s : qS) : qle (bV (qev en d 280 [.ref 151, .int v3] s) (fun s2 => L_X12_readAssignment_145 en d s2)) (L_X12_readAssignment_140 en d v3 s) := by
  show qle _ (qE (qev en d) en none tb_X12_readAssignment (140, [(0, .ref 151), (3, .int v3)], []) s)
  refine e_L 2 (f' := (142, [(0, .ref 151), (3, .int v3)], [.int v3, .ref 151])) rfl ?_
  refine e_vV 280 rfl rfl ix_X12_takeExpGood rfl (q_recvOf lc_151 rfl) (Nat.le_of_ble_eq_true rfl) (fun s2 e3 => ?_)
  exact qE_sub (qsubL [0] rfl (ks := [0, 3]) rfl (by decide))
set_option maxRecDepth 100000 in
set_option maxHeartbeats 4000000 in
theorem le_X12_readAssignment_145 (en : pN) (d : Nat) (s : qS) : qle (bV (qev en d 252 [.ref 151, .int (59 : Int32)] s) (fun s2 => some (none, s2))) (L_X12_readAssignment_145 en d s) := by
  show qle _ (qE (qev en d) en none tb_X12_readAssignment (145, [(0, .ref 151)], []) s)
  refine e_L 2 (f' := (148, [(0, .ref 151)], [.int (59 : Int32), .ref 151])) rfl ?_
  refine e_vV 252 rfl rfl ix_X12_must rfl (q_recvOf lc_151 rfl) (Nat.le_of_ble_eq_true rfl) (fun s2 e3 => ?_)
  exact e_rV rfl rfl
set_option maxRecDepth 100000 in
set_option maxHeartbeats 4000000 in
theorem le_X12_readAssignment (en : pN) (d : Nat) (s : qS) : qle (bI (qev en d 256 [.ref 151, .long (s.2.1 151 5)] s) (fun w1 s2 => if ¬ w1 = (-1 : Int32) then L_X12_readAssignment_23 en d w1 (-2 : Int32) s2 else bI (qev en d 261 [.ref 151] s2) (fun w5 s6 => L_X12_readAssignment_23 en d w1 w5 s6))) (qev en (d + 1) 283 [.ref 151] s) := by
  refine e_enter ix_X12_readAssignment (Nat.le_of_ble_eq_true rfl) ?_
  show qle _ (qE (qev en d) en none tb_X12_readAssignment (0, [(0, .ref 151)], []) s)
  refine e_L 2 (f' := (2, [(0, .ref 151)], [.ref 151, .ref 151])) rfl ?_
  refine e_gJ 12 5 rfl rfl lc_151 ?_
  refine e_vI 256 rfl rfl ix_X12_cellOf rfl (q_recvOf lc_151 rfl) (Nat.le_of_ble_eq_true rfl) (fun w1 s2 e3 => ?_)
  refine e_L 3 (f' := (11, [(1, .int w1), (0, .ref 151)], [.int (-1 : Int32), .int w1])) rfl ?_
  refine e_icmp 21 rfl rfl rfl (fun c4 => ?_) (fun c4 => ?_)
  · refine e_L 1 (f' := (23, [(1, .int w1), (0, .ref 151)], [.int (-2 : Int32)])) rfl ?_
    exact qE_sub (qsubL [1, 0] rfl (ks := [1, 0]) rfl (by decide))
  · refine e_L 1 (f' := (15, [(1, .int w1), (0, .ref 151)], [.ref 151])) rfl ?_
    refine e_vI 261 rfl rfl ix_X12_takeLocal rfl (q_recvOf lc_151 rfl) (Nat.le_of_ble_eq_true rfl) (fun w5 s6 e7 => ?_)
    refine e_L 1 (f' := (23, [(1, .int w1), (0, .ref 151)], [.int w5])) rfl ?_
    exact qE_sub (qsubL [1, 0] rfl (ks := [1, 0]) rfl (by decide))
noncomputable def L_X12_readBlocks_0 (en : pN) (d : Nat) (s : qS) : Option qR := qE (qev en d) en none tb_X12_readBlocks (0, [(0, .ref 151)], []) s
set_option maxRecDepth 100000 in
set_option maxHeartbeats 4000000 in
theorem le_X12_readBlocks_0 (en : pN) (d : Nat) (s : qS) : qle (bI (qev en d 243 [.ref 151] s) (fun w1 s2 => if w1 = (0 : Int32) then some (none, s2) else if (s2.1 151 56) ≤ (0 : Int32) then some (none, s2) else if ¬ (s2.1 151 3) = (125 : Int32) then bV (qev en d 278 [.ref 151] s2) (fun s8 => L_X12_readBlocks_0 en d s8) else nm (uI s2 151 56 ((s2.1 151 56) - (1 : Int32))) (fun s10 => gd (p_inB (s10.1 151 56) 12 = true) (nm (s10.1 184 (s10.1 151 56).toNatClampNeg) (fun z12 => nm (s10.1 185 (s10.1 151 56).toNatClampNeg) (fun z13 => bV (qev en d 249 [.ref 151] s10) (fun s15 => bI (qev en d 243 [.ref 151] s15) (fun w17 s18 => if w17 = (0 : Int32) then L_X12_readBlocks_0 en d s18 else if z12 = (-2 : Int32) then L_X12_readBlocks_0 en d s18 else gd (p_inB z12 400 = true) (if ¬ (s18.1 164 z12.toNatClampNeg) = (17 : Int32) then L_X12_readBlocks_0 en d s18 else if ¬ z13 = (0 : Int32) then L_X12_readBlocks_0 en d s18 else bI (qev en d 255 [.ref 151, .long (1701606245 : Int64)] s18) (fun w25 s26 => if w25 = (0 : Int32) then L_X12_readBlocks_0 en d s26 else bV (qev en d 249 [.ref 151] s26) (fun s30 => bV (qev en d 274 [.ref 151, .int z12, .int (1 : Int32)] s30) (fun s33 => L_X12_readBlocks_0 en d s33)))))))))))) (L_X12_readBlocks_0 en d s) := by
  show qle _ (qE (qev en d) en none tb_X12_readBlocks (0, [(0, .ref 151)], []) s)
  refine e_L 1 (f' := (1, [(0, .ref 151)], [.ref 151])) rfl ?_
  refine e_vI 243 rfl rfl ix_X12_good rfl (q_recvOf lc_151 rfl) (Nat.le_of_ble_eq_true rfl) (fun w1 s2 e3 => ?_)
  refine e_ifz 115 rfl rfl rfl (fun c4 => ?_) (fun c4 => ?_)
  · exact e_rV rfl rfl
  · refine e_L 1 (f' := (8, [(0, .ref 151)], [.ref 151])) rfl ?_
    refine e_gI 12 56 rfl rfl lc_151 ?_
    refine e_ifz 115 rfl rfl rfl (fun c5 => ?_) (fun c5 => ?_)
    · exact e_rV rfl rfl
    · refine e_L 1 (f' := (15, [(0, .ref 151)], [.ref 151])) rfl ?_
      refine e_gI 12 3 rfl rfl lc_151 ?_
      refine e_L 1 (f' := (20, [(0, .ref 151)], [.int (125 : Int32), .int (s2.1 151 3)])) rfl ?_
      refine e_icmp 108 rfl rfl rfl (fun c6 => ?_) (fun c6 => ?_)
      · refine e_L 1 (f' := (109, [(0, .ref 151)], [.ref 151])) rfl ?_
        refine e_vV 278 rfl rfl ix_X12_readStatement rfl (q_recvOf lc_151 rfl) (Nat.le_of_ble_eq_true rfl) (fun s8 e9 => ?_)
        refine e_L 1 (f' := (0, [(0, .ref 151)], [])) rfl ?_
        exact qE_sub (qsubL [0] rfl (ks := [0]) rfl (by decide))
      · refine e_L 2 (f' := (25, [(0, .ref 151)], [.ref 151, .ref 151])) rfl ?_
        refine e_gI 12 56 rfl rfl lc_151 ?_
        refine e_L 2 (f' := (30, [(0, .ref 151)], [.int ((s2.1 151 56) - (1 : Int32)), .ref 151])) rfl ?_
        refine e_pI 12 56 rfl rfl lc_151 rfl ?_
        refine e_nS fun s10 => ?_
        refine e_L 1 (f' := (34, [(0, .ref 151)], [.ref 151])) rfl ?_
        refine e_gR (q := 184) 12 53 rfl rfl lc_151 lr_151_53 ?_
        refine e_L 1 (f' := (38, [(0, .ref 151)], [.ref 151, .ref 184])) rfl ?_
        refine e_gI 12 56 rfl rfl lc_151 ?_
        refine qle_gd fun h11 => ?_
        refine e_ial (n := 12) (k := (s10.1 151 56).toNatClampNeg) rfl lc_184 ln_184 h11 rfl ?_
        refine e_nI fun z12 => ?_
        refine e_L 2 (f' := (44, [(1, .int z12), (0, .ref 151)], [.ref 151])) rfl ?_
        refine e_gR (q := 185) 12 54 rfl rfl lc_151 lr_151_54 ?_
        refine e_L 1 (f' := (48, [(1, .int z12), (0, .ref 151)], [.ref 151, .ref 185])) rfl ?_
        refine e_gI 12 56 rfl rfl lc_151 ?_
        refine e_ial (n := 12) (k := (s10.1 151 56).toNatClampNeg) rfl lc_185 ln_185 h11 rfl ?_
        refine e_nI fun z13 => ?_
        refine e_L 2 (f' := (54, [(2, .int z13), (1, .int z12), (0, .ref 151)], [.ref 151])) rfl ?_
        refine e_vV 249 rfl rfl ix_X12_next rfl (q_recvOf lc_151 rfl) (Nat.le_of_ble_eq_true rfl) (fun s15 e16 => ?_)
        refine e_L 1 (f' := (58, [(2, .int z13), (1, .int z12), (0, .ref 151)], [.ref 151])) rfl ?_
        refine e_vI 243 rfl rfl ix_X12_good rfl (q_recvOf lc_151 rfl) (Nat.le_of_ble_eq_true rfl) (fun w17 s18 e19 => ?_)
        refine e_ifz 105 rfl rfl rfl (fun c20 => ?_) (fun c20 => ?_)
        · refine e_L 1 (f' := (0, [(2, .int z13), (1, .int z12), (0, .ref 151)], [])) rfl ?_
          exact qE_sub (qsubL [2] rfl (ks := [2, 1, 0]) rfl (by decide))
        · refine e_L 2 (f' := (67, [(2, .int z13), (1, .int z12), (0, .ref 151)], [.int (-2 : Int32), .int z12])) rfl ?_
          refine e_icmp 105 rfl rfl rfl (fun c21 => ?_) (fun c21 => ?_)
          · refine e_L 1 (f' := (0, [(2, .int z13), (1, .int z12), (0, .ref 151)], [])) rfl ?_
            exact qE_sub (qsubL [2] rfl (ks := [2, 1, 0]) rfl (by decide))
          · refine e_L 1 (f' := (71, [(2, .int z13), (1, .int z12), (0, .ref 151)], [.ref 151])) rfl ?_
            refine e_gR (q := 164) 12 33 rfl rfl lc_151 lr_151_33 ?_
            refine e_L 1 (f' := (75, [(2, .int z13), (1, .int z12), (0, .ref 151)], [.int z12, .ref 164])) rfl ?_
            refine qle_gd fun h22 => ?_
            refine e_ial (n := 400) (k := z12.toNatClampNeg) rfl lc_164 ln_164 h22 rfl ?_
            refine e_L 1 (f' := (78, [(2, .int z13), (1, .int z12), (0, .ref 151)], [.int (17 : Int32), .int (s18.1 164 z12.toNatClampNeg)])) rfl ?_
            refine e_icmp 105 rfl rfl rfl (fun c23 => ?_) (fun c23 => ?_)
            · refine e_L 1 (f' := (0, [(2, .int z13), (1, .int z12), (0, .ref 151)], [])) rfl ?_
              exact qE_sub (qsubL [2] rfl (ks := [2, 1, 0]) rfl (by decide))
            · refine e_L 1 (f' := (82, [(2, .int z13), (1, .int z12), (0, .ref 151)], [.int z13])) rfl ?_
              refine e_ifz 105 rfl rfl rfl (fun c24 => ?_) (fun c24 => ?_)
              · refine e_L 1 (f' := (0, [(2, .int z13), (1, .int z12), (0, .ref 151)], [])) rfl ?_
                exact qE_sub (qsubL [2] rfl (ks := [2, 1, 0]) rfl (by decide))
              · refine e_L 1 (f' := (86, [(2, .int z13), (1, .int z12), (0, .ref 151)], [.ref 151])) rfl ?_
                refine e_gs (w := .long (1701606245 : Int64)) rfl rfl ?_
                refine e_vI 255 rfl rfl ix_X12_isWord rfl (q_recvOf lc_151 rfl) (Nat.le_of_ble_eq_true rfl) (fun w25 s26 e27 => ?_)
                refine e_ifz 105 rfl rfl rfl (fun c28 => ?_) (fun c28 => ?_)
                · refine e_L 1 (f' := (0, [(2, .int z13), (1, .int z12), (0, .ref 151)], [])) rfl ?_
                  exact qE_sub (qsubL [2] rfl (ks := [2, 1, 0]) rfl (by decide))
                · refine e_L 1 (f' := (96, [(2, .int z13), (1, .int z12), (0, .ref 151)], [.ref 151])) rfl ?_
                  refine e_vV 249 rfl rfl ix_X12_next rfl (q_recvOf lc_151 rfl) (Nat.le_of_ble_eq_true rfl) (fun s30 e31 => ?_)
                  refine e_L 3 (f' := (102, [(2, .int z13), (1, .int z12), (0, .ref 151)], [.int (1 : Int32), .int z12, .ref 151])) rfl ?_
                  refine e_vV 274 rfl rfl ix_X12_openBlock rfl (q_recvOf lc_151 rfl) (Nat.le_of_ble_eq_true rfl) (fun s33 e34 => ?_)
                  refine e_L 1 (f' := (0, [(2, .int z13), (1, .int z12), (0, .ref 151)], [])) rfl ?_
                  exact qE_sub (qsubL [2] rfl (ks := [2, 1, 0]) rfl (by decide))
set_option maxRecDepth 100000 in
set_option maxHeartbeats 4000000 in
theorem le_X12_readBlocks (en : pN) (d : Nat) (s : qS) : qle (L_X12_readBlocks_0 en d s) (qev en (d + 1) 284 [.ref 151] s) := by
  refine e_enter ix_X12_readBlocks (Nat.le_of_ble_eq_true rfl) ?_
  show qle _ (qE (qev en d) en none tb_X12_readBlocks (0, [(0, .ref 151)], []) s)
  exact qE_sub (qsubL [0] rfl (ks := [0]) rfl (by decide))
noncomputable def L_X12_isLocalOfSome_4 (en : pN) (d : Nat) (v1 : Int32) (v2 : Int32) (s : qS) : Option qR := qE (qev en d) en (some .boolean) tb_X12_isLocalOfSome (4, [(0, .ref 151), (1, .int v1), (2, .int v2)], []) s
set_option maxRecDepth 100000 in
set_option maxHeartbeats 4000000 in
theorem le_X12_isLocalOfSome_4 (en : pN) (d : Nat) (v1 : Int32) (v2 : Int32) (s : qS) : qle (if (s.1 151 18) ≤ v2 then gd (v1 = 0 ∨ v1 = 1) (some (some (.int v1), s)) else if ¬ v1 = (0 : Int32) then L_X12_isLocalOfSome_4 en d (1 : Int32) (v2 + (1 : Int32)) s else bI (qev en d 259 [.ref 151, .int v2, .long (s.2.1 151 5)] s) (fun w4 s5 => if w4 = (-1 : Int32) then L_X12_isLocalOfSome_4 en d (0 : Int32) (v2 + (1 : Int32)) s5 else L_X12_isLocalOfSome_4 en d (1 : Int32) (v2 + (1 : Int32)) s5)) (L_X12_isLocalOfSome_4 en d v1 v2 s) := by
  show qle _ (qE (qev en d) en (some .boolean) tb_X12_isLocalOfSome (4, [(0, .ref 151), (1, .int v1), (2, .int v2)], []) s)
  refine e_L 2 (f' := (6, [(0, .ref 151), (1, .int v1), (2, .int v2)], [.ref 151, .int v2])) rfl ?_
  refine e_gI 12 18 rfl rfl lc_151 ?_
  refine e_icmp 41 rfl rfl rfl (fun c1 => ?_) (fun c1 => ?_)
  · refine e_L 1 (f' := (42, [(0, .ref 151), (1, .int v1), (2, .int v2)], [.int v1])) rfl ?_
    exact qle_gd fun h2 => e_rZ rfl rfl h2
  · refine e_L 1 (f' := (13, [(0, .ref 151), (1, .int v1), (2, .int v2)], [.int v1])) rfl ?_
    refine e_ifz 29 rfl rfl rfl (fun c3 => ?_) (fun c3 => ?_)
    · refine e_L 5 (f' := (4, [(2, .int (v2 + (1 : Int32))), (1, .int (1 : Int32)), (0, .ref 151)], [])) rfl ?_
      exact qE_sub (qsubL [2, 1, 0] rfl (ks := [2, 1, 0]) rfl (by decide))
    · refine e_L 3 (f' := (19, [(0, .ref 151), (1, .int v1), (2, .int v2)], [.ref 151, .int v2, .ref 151])) rfl ?_
      refine e_gJ 12 5 rfl rfl lc_151 ?_
      refine e_vI 259 rfl rfl ix_X12_localOf rfl (q_recvOf lc_151 rfl) (Nat.le_of_ble_eq_true rfl) (fun w4 s5 e6 => ?_)
      refine e_L 1 (f' := (26, [(0, .ref 151), (1, .int v1), (2, .int v2)], [.int (-1 : Int32), .int w4])) rfl ?_
      refine e_icmp 33 rfl rfl rfl (fun c7 => ?_) (fun c7 => ?_)
      · refine e_L 4 (f' := (4, [(2, .int (v2 + (1 : Int32))), (1, .int (0 : Int32)), (0, .ref 151)], [])) rfl ?_
        exact qE_sub (qsubL [2, 1, 0] rfl (ks := [2, 1, 0]) rfl (by decide))
      · refine e_L 5 (f' := (4, [(2, .int (v2 + (1 : Int32))), (1, .int (1 : Int32)), (0, .ref 151)], [])) rfl ?_
        exact qE_sub (qsubL [2, 1, 0] rfl (ks := [2, 1, 0]) rfl (by decide))
set_option maxRecDepth 100000 in
set_option maxHeartbeats 4000000 in
theorem le_X12_isLocalOfSome (en : pN) (d : Nat) (s : qS) : qle (L_X12_isLocalOfSome_4 en d (0 : Int32) (0 : Int32) s) (qev en (d + 1) 285 [.ref 151] s) := by
  refine e_enter ix_X12_isLocalOfSome (Nat.le_of_ble_eq_true rfl) ?_
  show qle _ (qE (qev en d) en (some .boolean) tb_X12_isLocalOfSome (0, [(0, .ref 151)], []) s)
  refine e_L 4 (f' := (4, [(2, .int (0 : Int32)), (1, .int (0 : Int32)), (0, .ref 151)], [])) rfl ?_
  exact qE_sub (qsubL [2, 1, 0] rfl (ks := [2, 1, 0]) rfl (by decide))
noncomputable def L_X12_checkName_16 (en : pN) (d : Nat) (v1 : Int32) (s : qS) : Option qR := qE (qev en d) en none tb_X12_checkName (16, [(0, .ref 151), (1, .int v1)], []) s
noncomputable def L_X12_checkName_47 (en : pN) (d : Nat) (v1 : Int32) (vs1 : Int32) (s : qS) : Option qR := qE (qev en d) en none tb_X12_checkName (47, [(0, .ref 151), (1, .int v1)], [.int vs1, .ref 151]) s
noncomputable def L_X12_checkName_51 (en : pN) (d : Nat) (v1 : Int32) (s : qS) : Option qR := qE (qev en d) en none tb_X12_checkName (51, [(0, .ref 151), (1, .int v1)], []) s
set_option maxRecDepth 100000 in
set_option maxHeartbeats 4000000 in
theorem le_X12_checkName_16 (en : pN) (d : Nat) (v1 : Int32) (s : qS) : qle (bI (qev en d 243 [.ref 151] s) (fun w1 s2 => if w1 = (0 : Int32) then L_X12_checkName_51 en d v1 s2 else bI (qev en d 260 [.ref 151, .long (s2.2.1 151 5)] s2) (fun w5 s6 => if ¬ w5 = (0 : Int32) then L_X12_checkName_47 en d v1 (0 : Int32) s6 else bI (qev en d 285 [.ref 151] s6) (fun w9 s10 => if ¬ w9 = (0 : Int32) then L_X12_checkName_47 en d v1 (0 : Int32) s10 else L_X12_checkName_47 en d v1 (1 : Int32) s10)))) (L_X12_checkName_16 en d v1 s) := by
  show qle _ (qE (qev en d) en none tb_X12_checkName (16, [(0, .ref 151), (1, .int v1)], []) s)
  refine e_L 1 (f' := (17, [(0, .ref 151), (1, .int v1)], [.ref 151])) rfl ?_
  refine e_vI 243 rfl rfl ix_X12_good rfl (q_recvOf lc_151 rfl) (Nat.le_of_ble_eq_true rfl) (fun w1 s2 e3 => ?_)
  refine e_ifz 51 rfl rfl rfl (fun c4 => ?_) (fun c4 => ?_)
  · exact qE_sub (qsubL [0, 1] rfl (ks := [0, 1]) rfl (by decide))
  · refine e_L 3 (f' := (26, [(0, .ref 151), (1, .int v1)], [.ref 151, .ref 151, .ref 151])) rfl ?_
    refine e_gJ 12 5 rfl rfl lc_151 ?_
    refine e_vI 260 rfl rfl ix_X12_isTold rfl (q_recvOf lc_151 rfl) (Nat.le_of_ble_eq_true rfl) (fun w5 s6 e7 => ?_)
    refine e_ifz 46 rfl rfl rfl (fun c8 => ?_) (fun c8 => ?_)
    · refine e_L 1 (f' := (47, [(0, .ref 151), (1, .int v1)], [.int (0 : Int32), .ref 151])) rfl ?_
      exact qE_sub (qsubL [0, 1] rfl (ks := [0, 1]) rfl (by decide))
    · refine e_L 1 (f' := (36, [(0, .ref 151), (1, .int v1)], [.ref 151, .ref 151])) rfl ?_
      refine e_vI 285 rfl rfl ix_X12_isLocalOfSome rfl (q_recvOf lc_151 rfl) (Nat.le_of_ble_eq_true rfl) (fun w9 s10 e11 => ?_)
      refine e_ifz 46 rfl rfl rfl (fun c12 => ?_) (fun c12 => ?_)
      · refine e_L 1 (f' := (47, [(0, .ref 151), (1, .int v1)], [.int (0 : Int32), .ref 151])) rfl ?_
        exact qE_sub (qsubL [0, 1] rfl (ks := [0, 1]) rfl (by decide))
      · refine e_L 2 (f' := (47, [(0, .ref 151), (1, .int v1)], [.int (1 : Int32), .ref 151])) rfl ?_
        exact qE_sub (qsubL [0, 1] rfl (ks := [0, 1]) rfl (by decide))
set_option maxRecDepth 100000 in
set_option maxHeartbeats 4000000 in
theorem le_X12_checkName_47 (en : pN) (d : Nat) (v1 : Int32) (vs1 : Int32) (s : qS) : qle (bV (qev en d 245 [.ref 151, .int vs1, .int (3 : Int32)] s) (fun s2 => L_X12_checkName_51 en d v1 s2)) (L_X12_checkName_47 en d v1 vs1 s) := by
  show qle _ (qE (qev en d) en none tb_X12_checkName (47, [(0, .ref 151), (1, .int v1)], [.int vs1, .ref 151]) s)
  refine e_L 1 (f' := (48, [(0, .ref 151), (1, .int v1)], [.int (3 : Int32), .int vs1, .ref 151])) rfl ?_
  refine e_vV 245 rfl rfl ix_X12_need rfl (q_recvOf lc_151 rfl) (Nat.le_of_ble_eq_true rfl) (fun s2 e3 => ?_)
  exact qE_sub (qsubL [0, 1] rfl (ks := [0, 1]) rfl (by decide))
set_option maxRecDepth 100000 in
set_option maxHeartbeats 4000000 in
theorem le_X12_checkName_51 (en : pN) (d : Nat) (v1 : Int32) (s : qS) : qle (bI (qev en d 243 [.ref 151] s) (fun w1 s2 => if w1 = (0 : Int32) then some (none, s2) else bV (qev en d 245 [.ref 151, .int v1, .int (4 : Int32)] s2) (fun s6 => some (none, s6)))) (L_X12_checkName_51 en d v1 s) := by
  show qle _ (qE (qev en d) en none tb_X12_checkName (51, [(0, .ref 151), (1, .int v1)], []) s)
  refine e_L 1 (f' := (52, [(0, .ref 151), (1, .int v1)], [.ref 151])) rfl ?_
  refine e_vI 243 rfl rfl ix_X12_good rfl (q_recvOf lc_151 rfl) (Nat.le_of_ble_eq_true rfl) (fun w1 s2 e3 => ?_)
  refine e_ifz 64 rfl rfl rfl (fun c4 => ?_) (fun c4 => ?_)
  · exact e_rV rfl rfl
  · refine e_L 3 (f' := (61, [(0, .ref 151), (1, .int v1)], [.int (4 : Int32), .int v1, .ref 151])) rfl ?_
    refine e_vV 245 rfl rfl ix_X12_need rfl (q_recvOf lc_151 rfl) (Nat.le_of_ble_eq_true rfl) (fun s6 e7 => ?_)
    exact e_rV rfl rfl
set_option maxRecDepth 100000 in
set_option maxHeartbeats 4000000 in
theorem le_X12_checkName (en : pN) (d : Nat) (a1 : Int32) (s : qS) : qle (bI (qev en d 243 [.ref 151] s) (fun w1 s2 => if w1 = (0 : Int32) then L_X12_checkName_16 en d a1 s2 else bI (qev en d 254 [.ref 151] s2) (fun w5 s6 => bV (qev en d 245 [.ref 151, .int w5, .int (2 : Int32)] s6) (fun s9 => L_X12_checkName_16 en d a1 s9)))) (qev en (d + 1) 286 [.ref 151, .int a1] s) := by
  refine e_enter ix_X12_checkName (Nat.le_of_ble_eq_true rfl) ?_
  show qle _ (qE (qev en d) en none tb_X12_checkName (0, [(0, .ref 151), (1, .int a1)], []) s)
  refine e_L 1 (f' := (1, [(0, .ref 151), (1, .int a1)], [.ref 151])) rfl ?_
  refine e_vI 243 rfl rfl ix_X12_good rfl (q_recvOf lc_151 rfl) (Nat.le_of_ble_eq_true rfl) (fun w1 s2 e3 => ?_)
  refine e_ifz 16 rfl rfl rfl (fun c4 => ?_) (fun c4 => ?_)
  · exact qE_sub (qsubL [0, 1] rfl (ks := [0, 1]) rfl (by decide))
  · refine e_L 2 (f' := (9, [(0, .ref 151), (1, .int a1)], [.ref 151, .ref 151])) rfl ?_
    refine e_vI 254 rfl rfl ix_X12_isName rfl (q_recvOf lc_151 rfl) (Nat.le_of_ble_eq_true rfl) (fun w5 s6 e7 => ?_)
    refine e_L 1 (f' := (13, [(0, .ref 151), (1, .int a1)], [.int (2 : Int32), .int w5, .ref 151])) rfl ?_
    refine e_vV 245 rfl rfl ix_X12_need rfl (q_recvOf lc_151 rfl) (Nat.le_of_ble_eq_true rfl) (fun s9 e10 => ?_)
    exact qE_sub (qsubL [0, 1] rfl (ks := [0, 1]) rfl (by decide))
noncomputable def L_X12_readCell_15 (en : pN) (d : Nat) (vs1 : Int32) (s : qS) : Option qR := qE (qev en d) en none tb_X12_readCell (15, [(0, .ref 151)], [.int vs1, .ref 151]) s
noncomputable def L_X12_readCell_106 (en : pN) (d : Nat) (s : qS) : Option qR := qE (qev en d) en none tb_X12_readCell (106, [(0, .ref 151)], []) s
noncomputable def L_X12_readCell_147 (en : pN) (d : Nat) (vs0 : Int32) (s : qS) : Option qR := qE (qev en d) en none tb_X12_readCell (147, [(0, .ref 151)], [.int vs0]) s
noncomputable def L_X12_readCell_156 (en : pN) (d : Nat) (v1 : Int32) (s : qS) : Option qR := qE (qev en d) en none tb_X12_readCell (156, [(0, .ref 151), (1, .int v1)], []) s
noncomputable def L_X12_readCell_177 (en : pN) (d : Nat) (v1 : Int32) (vs1 : Int32) (s : qS) : Option qR := qE (qev en d) en none tb_X12_readCell (177, [(0, .ref 151), (1, .int v1)], [.int vs1, .ref 151]) s
noncomputable def L_X12_readCell_181 (en : pN) (d : Nat) (v1 : Int32) (s : qS) : Option qR := qE (qev en d) en none tb_X12_readCell (181, [(0, .ref 151), (1, .int v1)], []) s
noncomputable def L_X12_readCell_207 (en : pN) (d : Nat) (vs1 : Int32) (vs2 : Int32) (s : qS) : Option qR := qE (qev en d) en none tb_X12_readCell (207, [(0, .ref 151)], [.int vs2, .int vs1, .ref 154]) s
noncomputable def L_X12_readCell_212 (en : pN) (d : Nat) (s : qS) : Option qR := qE (qev en d) en none tb_X12_readCell (212, [(0, .ref 151)], []) s
set_option maxRecDepth 100000 in
set_option maxHeartbeats 4000000 in
theorem le_X12_readCell_15 (en : pN) (d : Nat) (vs1 : Int32) (s : qS) : qle (bV (qev en d 286 [.ref 151, .int vs1] s) (fun s2 => bI (qev en d 243 [.ref 151] s2) (fun w4 s5 => if ¬ w4 = (0 : Int32) then gd (p_inB (s5.1 151 12) 8 = true) (nm (uJ s5 153 ((s5.1 151 12).toNatClampNeg) (s5.2.1 151 5)) (fun s9 => gd (p_inB (s9.1 151 12) 8 = true) (nm (uI s9 154 ((s9.1 151 12).toNatClampNeg) (0 : Int32)) (fun s11 => gd (p_inB (s11.1 151 12) 8 = true) (nm (uI s11 155 ((s11.1 151 12).toNatClampNeg) (vp_nar .boolean (0 : Int32))) (fun s13 => nm (uI s13 151 12 ((s13.1 151 12) + (1 : Int32))) (fun s14 => bV (qev en d 249 [.ref 151] s14) (fun s16 => bI (qev en d 243 [.ref 151] s16) (fun w18 s19 => if w18 = (0 : Int32) then L_X12_readCell_106 en d s19 else bI (qev en d 255 [.ref 151, .long (8534158984711072869 : Int64)] s19) (fun w22 s23 => if w22 = (0 : Int32) then L_X12_readCell_106 en d s23 else gd (p_inB ((s23.1 151 12) - (1 : Int32)) 8 = true) (nm (uI s23 155 (((s23.1 151 12) - (1 : Int32)).toNatClampNeg) (vp_nar .boolean (1 : Int32))) (fun s27 => bV (qev en d 249 [.ref 151] s27) (fun s29 => L_X12_readCell_106 en d s29))))))))))))) else some (none, s5)))) (L_X12_readCell_15 en d vs1 s) := by
  show qle _ (qE (qev en d) en none tb_X12_readCell (15, [(0, .ref 151)], [.int vs1, .ref 151]) s)
  refine e_vV 286 rfl rfl ix_X12_checkName rfl (q_recvOf lc_151 rfl) (Nat.le_of_ble_eq_true rfl) (fun s2 e3 => ?_)
  refine e_L 1 (f' := (19, [(0, .ref 151)], [.ref 151])) rfl ?_
  refine e_vI 243 rfl rfl ix_X12_good rfl (q_recvOf lc_151 rfl) (Nat.le_of_ble_eq_true rfl) (fun w4 s5 e6 => ?_)
  refine e_ifz 26 rfl rfl rfl (fun c7 => ?_) (fun c7 => ?_)
  · refine e_L 1 (f' := (27, [(0, .ref 151)], [.ref 151])) rfl ?_
    refine e_gR (q := 153) 12 13 rfl rfl lc_151 lr_151_13 ?_
    refine e_L 1 (f' := (31, [(0, .ref 151)], [.ref 151, .ref 153])) rfl ?_
    refine e_gI 12 12 rfl rfl lc_151 ?_
    refine e_L 1 (f' := (35, [(0, .ref 151)], [.ref 151, .int (s5.1 151 12), .ref 153])) rfl ?_
    refine e_gJ 12 5 rfl rfl lc_151 ?_
    refine qle_gd fun h8 => ?_
    refine e_las (n := 8) (k := (s5.1 151 12).toNatClampNeg) rfl lc_153 ln_153 h8 rfl ?_
    refine e_nS fun s9 => ?_
    refine e_L 1 (f' := (40, [(0, .ref 151)], [.ref 151])) rfl ?_
    refine e_gR (q := 154) 12 14 rfl rfl lc_151 lr_151_14 ?_
    refine e_L 1 (f' := (44, [(0, .ref 151)], [.ref 151, .ref 154])) rfl ?_
    refine e_gI 12 12 rfl rfl lc_151 ?_
    refine e_L 1 (f' := (48, [(0, .ref 151)], [.int (0 : Int32), .int (s9.1 151 12), .ref 154])) rfl ?_
    refine qle_gd fun h10 => ?_
    refine e_ias (n := 8) (k := (s9.1 151 12).toNatClampNeg) rfl lc_154 ln_154 h10 rfl ?_
    refine e_nS fun s11 => ?_
    refine e_L 1 (f' := (50, [(0, .ref 151)], [.ref 151])) rfl ?_
    refine e_gR (q := 155) 12 15 rfl rfl lc_151 lr_151_15 ?_
    refine e_L 1 (f' := (54, [(0, .ref 151)], [.ref 151, .ref 155])) rfl ?_
    refine e_gI 12 12 rfl rfl lc_151 ?_
    refine e_L 1 (f' := (58, [(0, .ref 151)], [.int (0 : Int32), .int (s11.1 151 12), .ref 155])) rfl ?_
    refine qle_gd fun h12 => ?_
    refine e_bas (n := 8) (k := (s11.1 151 12).toNatClampNeg) rfl lc_155 ln_155 h12 rfl ?_
    refine e_nS fun s13 => ?_
    refine e_L 2 (f' := (61, [(0, .ref 151)], [.ref 151, .ref 151])) rfl ?_
    refine e_gI 12 12 rfl rfl lc_151 ?_
    refine e_L 2 (f' := (66, [(0, .ref 151)], [.int ((s13.1 151 12) + (1 : Int32)), .ref 151])) rfl ?_
    refine e_pI 12 12 rfl rfl lc_151 rfl ?_
    refine e_nS fun s14 => ?_
    refine e_L 1 (f' := (70, [(0, .ref 151)], [.ref 151])) rfl ?_
    refine e_vV 249 rfl rfl ix_X12_next rfl (q_recvOf lc_151 rfl) (Nat.le_of_ble_eq_true rfl) (fun s16 e17 => ?_)
    refine e_L 1 (f' := (74, [(0, .ref 151)], [.ref 151])) rfl ?_
    refine e_vI 243 rfl rfl ix_X12_good rfl (q_recvOf lc_151 rfl) (Nat.le_of_ble_eq_true rfl) (fun w18 s19 e20 => ?_)
    refine e_ifz 106 rfl rfl rfl (fun c21 => ?_) (fun c21 => ?_)
    · exact qE_sub (qsubL [0] rfl (ks := [0]) rfl (by decide))
    · refine e_L 1 (f' := (81, [(0, .ref 151)], [.ref 151])) rfl ?_
      refine e_gs (w := .long (8534158984711072869 : Int64)) rfl rfl ?_
      refine e_vI 255 rfl rfl ix_X12_isWord rfl (q_recvOf lc_151 rfl) (Nat.le_of_ble_eq_true rfl) (fun w22 s23 e24 => ?_)
      refine e_ifz 106 rfl rfl rfl (fun c25 => ?_) (fun c25 => ?_)
      · exact qE_sub (qsubL [0] rfl (ks := [0]) rfl (by decide))
      · refine e_L 1 (f' := (91, [(0, .ref 151)], [.ref 151])) rfl ?_
        refine e_gR (q := 155) 12 15 rfl rfl lc_151 lr_151_15 ?_
        refine e_L 1 (f' := (95, [(0, .ref 151)], [.ref 151, .ref 155])) rfl ?_
        refine e_gI 12 12 rfl rfl lc_151 ?_
        refine e_L 3 (f' := (101, [(0, .ref 151)], [.int (1 : Int32), .int ((s23.1 151 12) - (1 : Int32)), .ref 155])) rfl ?_
        refine qle_gd fun h26 => ?_
        refine e_bas (n := 8) (k := ((s23.1 151 12) - (1 : Int32)).toNatClampNeg) rfl lc_155 ln_155 h26 rfl ?_
        refine e_nS fun s27 => ?_
        refine e_L 1 (f' := (103, [(0, .ref 151)], [.ref 151])) rfl ?_
        refine e_vV 249 rfl rfl ix_X12_next rfl (q_recvOf lc_151 rfl) (Nat.le_of_ble_eq_true rfl) (fun s29 e30 => ?_)
        exact qE_sub (qsubL [0] rfl (ks := [0]) rfl (by decide))
  · exact e_rV rfl rfl
set_option maxRecDepth 100000 in
set_option maxHeartbeats 4000000 in
theorem le_X12_readCell_106 (en : pN) (d : Nat) (s : qS) : qle (bI (qev en d 243 [.ref 151] s) (fun w1 s2 => if w1 = (0 : Int32) then L_X12_readCell_212 en d s2 else if ¬ (s2.1 151 3) = (61 : Int32) then L_X12_readCell_212 en d s2 else bV (qev en d 249 [.ref 151] s2) (fun s7 => bI (qev en d 243 [.ref 151] s7) (fun w9 s10 => if w9 = (0 : Int32) then L_X12_readCell_147 en d (0 : Int32) s10 else if ¬ (s10.1 151 3) = (45 : Int32) then L_X12_readCell_147 en d (0 : Int32) s10 else L_X12_readCell_147 en d (1 : Int32) s10)))) (L_X12_readCell_106 en d s) := by
  show qle _ (qE (qev en d) en none tb_X12_readCell (106, [(0, .ref 151)], []) s)
  refine e_L 1 (f' := (107, [(0, .ref 151)], [.ref 151])) rfl ?_
  refine e_vI 243 rfl rfl ix_X12_good rfl (q_recvOf lc_151 rfl) (Nat.le_of_ble_eq_true rfl) (fun w1 s2 e3 => ?_)
  refine e_ifz 212 rfl rfl rfl (fun c4 => ?_) (fun c4 => ?_)
  · exact qE_sub (qsubL [0] rfl (ks := [0]) rfl (by decide))
  · refine e_L 1 (f' := (114, [(0, .ref 151)], [.ref 151])) rfl ?_
    refine e_gI 12 3 rfl rfl lc_151 ?_
    refine e_L 1 (f' := (119, [(0, .ref 151)], [.int (61 : Int32), .int (s2.1 151 3)])) rfl ?_
    refine e_icmp 212 rfl rfl rfl (fun c5 => ?_) (fun c5 => ?_)
    · exact qE_sub (qsubL [0] rfl (ks := [0]) rfl (by decide))
    · refine e_L 1 (f' := (123, [(0, .ref 151)], [.ref 151])) rfl ?_
      refine e_vV 249 rfl rfl ix_X12_next rfl (q_recvOf lc_151 rfl) (Nat.le_of_ble_eq_true rfl) (fun s7 e8 => ?_)
      refine e_L 1 (f' := (127, [(0, .ref 151)], [.ref 151])) rfl ?_
      refine e_vI 243 rfl rfl ix_X12_good rfl (q_recvOf lc_151 rfl) (Nat.le_of_ble_eq_true rfl) (fun w9 s10 e11 => ?_)
      refine e_ifz 146 rfl rfl rfl (fun c12 => ?_) (fun c12 => ?_)
      · refine e_L 1 (f' := (147, [(0, .ref 151)], [.int (0 : Int32)])) rfl ?_
        exact qE_sub (qsubL [0] rfl (ks := [0]) rfl (by decide))
      · refine e_L 1 (f' := (134, [(0, .ref 151)], [.ref 151])) rfl ?_
        refine e_gI 12 3 rfl rfl lc_151 ?_
        refine e_L 1 (f' := (139, [(0, .ref 151)], [.int (45 : Int32), .int (s10.1 151 3)])) rfl ?_
        refine e_icmp 146 rfl rfl rfl (fun c13 => ?_) (fun c13 => ?_)
        · refine e_L 1 (f' := (147, [(0, .ref 151)], [.int (0 : Int32)])) rfl ?_
          exact qE_sub (qsubL [0] rfl (ks := [0]) rfl (by decide))
        · refine e_L 2 (f' := (147, [(0, .ref 151)], [.int (1 : Int32)])) rfl ?_
          exact qE_sub (qsubL [0] rfl (ks := [0]) rfl (by decide))
set_option maxRecDepth 100000 in
set_option maxHeartbeats 4000000 in
theorem le_X12_readCell_147 (en : pN) (d : Nat) (vs0 : Int32) (s : qS) : qle (if vs0 = (0 : Int32) then L_X12_readCell_156 en d vs0 s else bV (qev en d 249 [.ref 151] s) (fun s3 => L_X12_readCell_156 en d vs0 s3)) (L_X12_readCell_147 en d vs0 s) := by
  show qle _ (qE (qev en d) en none tb_X12_readCell (147, [(0, .ref 151)], [.int vs0]) s)
  refine e_L 2 (f' := (149, [(1, .int vs0), (0, .ref 151)], [.int vs0])) rfl ?_
  refine e_ifz 156 rfl rfl rfl (fun c1 => ?_) (fun c1 => ?_)
  · exact qE_sub (qsubL [1, 0] rfl (ks := [1, 0]) rfl (by decide))
  · refine e_L 1 (f' := (153, [(1, .int vs0), (0, .ref 151)], [.ref 151])) rfl ?_
    refine e_vV 249 rfl rfl ix_X12_next rfl (q_recvOf lc_151 rfl) (Nat.le_of_ble_eq_true rfl) (fun s3 e4 => ?_)
    exact qE_sub (qsubL [1, 0] rfl (ks := [1, 0]) rfl (by decide))
set_option maxRecDepth 100000 in
set_option maxHeartbeats 4000000 in
theorem le_X12_readCell_156 (en : pN) (d : Nat) (v1 : Int32) (s : qS) : qle (bI (qev en d 243 [.ref 151] s) (fun w1 s2 => if w1 = (0 : Int32) then L_X12_readCell_181 en d v1 s2 else if ¬ (s2.1 151 3) = (2 : Int32) then L_X12_readCell_177 en d v1 (0 : Int32) s2 else L_X12_readCell_177 en d v1 (1 : Int32) s2)) (L_X12_readCell_156 en d v1 s) := by
  show qle _ (qE (qev en d) en none tb_X12_readCell (156, [(0, .ref 151), (1, .int v1)], []) s)
  refine e_L 1 (f' := (157, [(0, .ref 151), (1, .int v1)], [.ref 151])) rfl ?_
  refine e_vI 243 rfl rfl ix_X12_good rfl (q_recvOf lc_151 rfl) (Nat.le_of_ble_eq_true rfl) (fun w1 s2 e3 => ?_)
  refine e_ifz 181 rfl rfl rfl (fun c4 => ?_) (fun c4 => ?_)
  · exact qE_sub (qsubL [0, 1] rfl (ks := [0, 1]) rfl (by decide))
  · refine e_L 2 (f' := (165, [(0, .ref 151), (1, .int v1)], [.ref 151, .ref 151])) rfl ?_
    refine e_gI 12 3 rfl rfl lc_151 ?_
    refine e_L 1 (f' := (169, [(0, .ref 151), (1, .int v1)], [.int (2 : Int32), .int (s2.1 151 3), .ref 151])) rfl ?_
    refine e_icmp 176 rfl rfl rfl (fun c5 => ?_) (fun c5 => ?_)
    · refine e_L 1 (f' := (177, [(0, .ref 151), (1, .int v1)], [.int (0 : Int32), .ref 151])) rfl ?_
      exact qE_sub (qsubL [0, 1] rfl (ks := [0, 1]) rfl (by decide))
    · refine e_L 2 (f' := (177, [(0, .ref 151), (1, .int v1)], [.int (1 : Int32), .ref 151])) rfl ?_
      exact qE_sub (qsubL [0, 1] rfl (ks := [0, 1]) rfl (by decide))
set_option maxRecDepth 100000 in
set_option maxHeartbeats 4000000 in
theorem le_X12_readCell_177 (en : pN) (d : Nat) (v1 : Int32) (vs1 : Int32) (s : qS) : qle (bV (qev en d 245 [.ref 151, .int vs1, .int (2 : Int32)] s) (fun s2 => L_X12_readCell_181 en d v1 s2)) (L_X12_readCell_177 en d v1 vs1 s) := by
  show qle _ (qE (qev en d) en none tb_X12_readCell (177, [(0, .ref 151), (1, .int v1)], [.int vs1, .ref 151]) s)
  refine e_L 1 (f' := (178, [(0, .ref 151), (1, .int v1)], [.int (2 : Int32), .int vs1, .ref 151])) rfl ?_
  refine e_vV 245 rfl rfl ix_X12_need rfl (q_recvOf lc_151 rfl) (Nat.le_of_ble_eq_true rfl) (fun s2 e3 => ?_)
  exact qE_sub (qsubL [0, 1] rfl (ks := [0, 1]) rfl (by decide))
set_option maxRecDepth 100000 in
set_option maxHeartbeats 4000000 in
theorem le_X12_readCell_181 (en : pN) (d : Nat) (v1 : Int32) (s : qS) : qle (if v1 = (0 : Int32) then L_X12_readCell_207 en d ((s.1 151 12) - (1 : Int32)) (s.1 151 6) s else L_X12_readCell_207 en d ((s.1 151 12) - (1 : Int32)) (-(s.1 151 6)) s) (L_X12_readCell_181 en d v1 s) := by
  show qle _ (qE (qev en d) en none tb_X12_readCell (181, [(0, .ref 151), (1, .int v1)], []) s)
  refine e_L 1 (f' := (182, [(0, .ref 151), (1, .int v1)], [.ref 151])) rfl ?_
  refine e_gR (q := 154) 12 14 rfl rfl lc_151 lr_151_14 ?_
  refine e_L 1 (f' := (186, [(0, .ref 151), (1, .int v1)], [.ref 151, .ref 154])) rfl ?_
  refine e_gI 12 12 rfl rfl lc_151 ?_
  refine e_L 3 (f' := (192, [(0, .ref 151), (1, .int v1)], [.int v1, .int ((s.1 151 12) - (1 : Int32)), .ref 154])) rfl ?_
  refine e_ifz 203 rfl rfl rfl (fun c1 => ?_) (fun c1 => ?_)
  · refine e_L 1 (f' := (204, [(0, .ref 151), (1, .int v1)], [.ref 151, .int ((s.1 151 12) - (1 : Int32)), .ref 154])) rfl ?_
    refine e_gI 12 6 rfl rfl lc_151 ?_
    exact qE_sub (qsubL [0] rfl (ks := [0, 1]) rfl (by decide))
  · refine e_L 1 (f' := (196, [(0, .ref 151), (1, .int v1)], [.ref 151, .int ((s.1 151 12) - (1 : Int32)), .ref 154])) rfl ?_
    refine e_gI 12 6 rfl rfl lc_151 ?_
    refine e_L 2 (f' := (207, [(0, .ref 151), (1, .int v1)], [.int (-(s.1 151 6)), .int ((s.1 151 12) - (1 : Int32)), .ref 154])) rfl ?_
    exact qE_sub (qsubL [0] rfl (ks := [0, 1]) rfl (by decide))
set_option maxRecDepth 100000 in
set_option maxHeartbeats 4000000 in
theorem le_X12_readCell_207 (en : pN) (d : Nat) (vs1 : Int32) (vs2 : Int32) (s : qS) : qle (gd (p_inB vs1 8 = true) (nm (uI s 154 (vs1.toNatClampNeg) vs2) (fun s2 => bV (qev en d 249 [.ref 151] s2) (fun s4 => L_X12_readCell_212 en d s4)))) (L_X12_readCell_207 en d vs1 vs2 s) := by
  show qle _ (qE (qev en d) en none tb_X12_readCell (207, [(0, .ref 151)], [.int vs2, .int vs1, .ref 154]) s)
  refine qle_gd fun h1 => ?_
  refine e_ias (n := 8) (k := vs1.toNatClampNeg) rfl lc_154 ln_154 h1 rfl ?_
  refine e_nS fun s2 => ?_
  refine e_L 1 (f' := (209, [(0, .ref 151)], [.ref 151])) rfl ?_
  refine e_vV 249 rfl rfl ix_X12_next rfl (q_recvOf lc_151 rfl) (Nat.le_of_ble_eq_true rfl) (fun s4 e5 => ?_)
  exact qE_sub (qsubL [0] rfl (ks := [0]) rfl (by decide))
set_option maxRecDepth 100000 in
set_option maxHeartbeats 4000000 in
theorem le_X12_readCell_212 (en : pN) (d : Nat) (s : qS) : qle (bV (qev en d 252 [.ref 151, .int (59 : Int32)] s) (fun s2 => some (none, s2))) (L_X12_readCell_212 en d s) := by
  show qle _ (qE (qev en d) en none tb_X12_readCell (212, [(0, .ref 151)], []) s)
  refine e_L 2 (f' := (215, [(0, .ref 151)], [.int (59 : Int32), .ref 151])) rfl ?_
  refine e_vV 252 rfl rfl ix_X12_must rfl (q_recvOf lc_151 rfl) (Nat.le_of_ble_eq_true rfl) (fun s2 e3 => ?_)
  exact e_rV rfl rfl
set_option maxRecDepth 100000 in
set_option maxHeartbeats 4000000 in
theorem le_X12_readCell (en : pN) (d : Nat) (s : qS) : qle (if (8 : Int32) ≤ (s.1 151 12) then L_X12_readCell_15 en d (0 : Int32) s else L_X12_readCell_15 en d (1 : Int32) s) (qev en (d + 1) 287 [.ref 151] s) := by
  refine e_enter ix_X12_readCell (Nat.le_of_ble_eq_true rfl) ?_
  show qle _ (qE (qev en d) en none tb_X12_readCell (0, [(0, .ref 151)], []) s)
  refine e_L 2 (f' := (2, [(0, .ref 151)], [.ref 151, .ref 151])) rfl ?_
  refine e_gI 12 12 rfl rfl lc_151 ?_
  refine e_L 1 (f' := (7, [(0, .ref 151)], [.int (8 : Int32), .int (s.1 151 12), .ref 151])) rfl ?_
  refine e_icmp 14 rfl rfl rfl (fun c1 => ?_) (fun c1 => ?_)
  · refine e_L 1 (f' := (15, [(0, .ref 151)], [.int (0 : Int32), .ref 151])) rfl ?_
    exact qE_sub (qsubL [0] rfl (ks := [0]) rfl (by decide))
  · refine e_L 2 (f' := (15, [(0, .ref 151)], [.int (1 : Int32), .ref 151])) rfl ?_
    exact qE_sub (qsubL [0] rfl (ks := [0]) rfl (by decide))
