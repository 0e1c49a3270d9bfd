/-! what methods do, printed by program out of their tables: X12_wouldWrite .. -/
set_option maxRecDepth 100000 in
set_option maxHeartbeats 4000000 in
theorem le_X12_wouldWrite (en : pN) (d : Nat) (a1 : Int32) (a2 : Int32) (s : qS) : qle (gd (p_inB a2 400 = true) (bI (qev en d 296 [.ref 151, .int (s.1 176 a2.toNatClampNeg), .int (s.1 177 a2.toNatClampNeg), .int a1] s) (fun w2 s3 => bI (qev en d 296 [.ref 151, .int (s3.1 178 a2.toNatClampNeg), .int (s3.1 179 a2.toNatClampNeg), .int a1] s3) (fun w5 s6 => if ¬ (s3.1 151 62) = (0 : Int32) then some (some (.int (0 : Int32)), s6) else if ¬ (s6.1 151 62) = (0 : Int32) then some (some (.int (0 : Int32)), s6) else gd (p_inB ((44 : Int32) + (s6.1 166 a2.toNatClampNeg)) 216 = true) (if ¬ w2 = (s6.1 187 ((44 : Int32) + (s6.1 166 a2.toNatClampNeg)).toNatClampNeg) then some (some (.int (0 : Int32)), s6) else some (some (.int (1 : Int32)), s6)))))) (qev en (d + 1) 313 [.ref 151, .int a1, .int a2] s) := by
  refine e_enter ix_X12_wouldWrite (Nat.le_of_ble_eq_true rfl) ?_
  show qle _ (qE (qev en d) en (some .boolean) tb_X12_wouldWrite (0, [(0, .ref 151), (1, .int a1), (2, .int a2)], []) s)
  refine e_L 2 (f' := (2, [(0, .ref 151), (1, .int a1), (2, .int a2)], [.ref 151, .ref 151])) rfl ?_
  refine e_gR (q := 176) 12 45 rfl rfl lc_151 lr_151_45 ?_
  refine e_L 1 (f' := (6, [(0, .ref 151), (1, .int a1), (2, .int a2)], [.int a2, .ref 176, .ref 151])) rfl ?_
  refine qle_gd fun h1 => ?_
  refine e_ial (n := 400) (k := a2.toNatClampNeg) rfl lc_176 ln_176 h1 rfl ?_
  refine e_L 1 (f' := (8, [(0, .ref 151), (1, .int a1), (2, .int a2)], [.ref 151, .int (s.1 176 a2.toNatClampNeg), .ref 151])) rfl ?_
  refine e_gR (q := 177) 12 46 rfl rfl lc_151 lr_151_46 ?_
  refine e_L 1 (f' := (12, [(0, .ref 151), (1, .int a1), (2, .int a2)], [.int a2, .ref 177, .int (s.1 176 a2.toNatClampNeg), .ref 151])) rfl ?_
  refine e_ial (n := 400) (k := a2.toNatClampNeg) rfl lc_177 ln_177 h1 rfl ?_
  refine e_L 1 (f' := (14, [(0, .ref 151), (1, .int a1), (2, .int a2)], [.int a1, .int (s.1 177 a2.toNatClampNeg), .int (s.1 176 a2.toNatClampNeg), .ref 151])) rfl ?_
  refine e_vI 296 rfl rfl ix_X12_worked rfl (q_recvOf lc_151 rfl) (Nat.le_of_ble_eq_true rfl) (fun w2 s3 e4 => ?_)
  refine e_L 2 (f' := (19, [(3, .int w2), (0, .ref 151), (1, .int a1), (2, .int a2)], [.ref 151])) rfl ?_
  refine e_gI 12 62 rfl rfl lc_151 ?_
  refine e_L 3 (f' := (26, [(4, .int (s3.1 151 62)), (3, .int w2), (0, .ref 151), (1, .int a1), (2, .int a2)], [.ref 151, .ref 151])) rfl ?_
  refine e_gR (q := 178) 12 47 rfl rfl lc_151 lr_151_47 ?_
  refine e_L 1 (f' := (30, [(4, .int (s3.1 151 62)), (3, .int w2), (0, .ref 151), (1, .int a1), (2, .int a2)], [.int a2, .ref 178, .ref 151])) rfl ?_
  refine e_ial (n := 400) (k := a2.toNatClampNeg) rfl lc_178 ln_178 h1 rfl ?_
  refine e_L 1 (f' := (32, [(4, .int (s3.1 151 62)), (3, .int w2), (0, .ref 151), (1, .int a1), (2, .int a2)], [.ref 151, .int (s3.1 178 a2.toNatClampNeg), .ref 151])) rfl ?_
  refine e_gR (q := 179) 12 48 rfl rfl lc_151 lr_151_48 ?_
  refine e_L 1 (f' := (36, [(4, .int (s3.1 151 62)), (3, .int w2), (0, .ref 151), (1, .int a1), (2, .int a2)], [.int a2, .ref 179, .int (s3.1 178 a2.toNatClampNeg), .ref 151])) rfl ?_
  refine e_ial (n := 400) (k := a2.toNatClampNeg) rfl lc_179 ln_179 h1 rfl ?_
  refine e_L 1 (f' := (38, [(4, .int (s3.1 151 62)), (3, .int w2), (0, .ref 151), (1, .int a1), (2, .int a2)], [.int a1, .int (s3.1 179 a2.toNatClampNeg), .int (s3.1 178 a2.toNatClampNeg), .ref 151])) rfl ?_
  refine e_vI 296 rfl rfl ix_X12_worked rfl (q_recvOf lc_151 rfl) (Nat.le_of_ble_eq_true rfl) (fun w5 s6 e7 => ?_)
  refine e_L 2 (f' := (45, [(5, .int w5), (4, .int (s3.1 151 62)), (3, .int w2), (0, .ref 151), (1, .int a1), (2, .int a2)], [.int (s3.1 151 62)])) rfl ?_
  refine e_ifz 77 rfl rfl rfl (fun c8 => ?_) (fun c8 => ?_)
  · refine e_L 1 (f' := (78, [(5, .int w5), (4, .int (s3.1 151 62)), (3, .int w2), (0, .ref 151), (1, .int a1), (2, .int a2)], [.int (0 : Int32)])) rfl ?_
    exact e_rZ rfl rfl (by decide)
  · refine e_L 1 (f' := (49, [(5, .int w5), (4, .int (s3.1 151 62)), (3, .int w2), (0, .ref 151), (1, .int a1), (2, .int a2)], [.ref 151])) rfl ?_
    refine e_gI 12 62 rfl rfl lc_151 ?_
    refine e_ifz 77 rfl rfl rfl (fun c9 => ?_) (fun c9 => ?_)
    · refine e_L 1 (f' := (78, [(5, .int w5), (4, .int (s3.1 151 62)), (3, .int w2), (0, .ref 151), (1, .int a1), (2, .int a2)], [.int (0 : Int32)])) rfl ?_
      exact e_rZ rfl rfl (by decide)
    · refine e_L 2 (f' := (57, [(5, .int w5), (4, .int (s3.1 151 62)), (3, .int w2), (0, .ref 151), (1, .int a1), (2, .int a2)], [.ref 151, .int w2])) rfl ?_
      refine e_gR (q := 187) 12 57 rfl rfl lc_151 lr_151_57 ?_
      refine e_L 2 (f' := (63, [(5, .int w5), (4, .int (s3.1 151 62)), (3, .int w2), (0, .ref 151), (1, .int a1), (2, .int a2)], [.ref 151, .int (44 : Int32), .ref 187, .int w2])) rfl ?_
      refine e_gR (q := 166) 12 35 rfl rfl lc_151 lr_151_35 ?_
      refine e_L 1 (f' := (67, [(5, .int w5), (4, .int (s3.1 151 62)), (3, .int w2), (0, .ref 151), (1, .int a1), (2, .int a2)], [.int a2, .ref 166, .int (44 : Int32), .ref 187, .int w2])) rfl ?_
      refine e_ial (n := 400) (k := a2.toNatClampNeg) rfl lc_166 ln_166 h1 rfl ?_
      refine e_L 1 (f' := (69, [(5, .int w5), (4, .int (s3.1 151 62)), (3, .int w2), (0, .ref 151), (1, .int a1), (2, .int a2)], [.int ((44 : Int32) + (s6.1 166 a2.toNatClampNeg)), .ref 187, .int w2])) rfl ?_
      refine qle_gd fun h10 => ?_
      refine e_ial (n := 216) (k := ((44 : Int32) + (s6.1 166 a2.toNatClampNeg)).toNatClampNeg) rfl lc_187 ln_187 h10 rfl ?_
      refine e_icmp 77 rfl rfl rfl (fun c11 => ?_) (fun c11 => ?_)
      · refine e_L 1 (f' := (78, [(5, .int w5), (4, .int (s3.1 151 62)), (3, .int w2), (0, .ref 151), (1, .int a1), (2, .int a2)], [.int (0 : Int32)])) rfl ?_
        exact e_rZ rfl rfl (by decide)
      · refine e_L 2 (f' := (78, [(5, .int w5), (4, .int (s3.1 151 62)), (3, .int w2), (0, .ref 151), (1, .int a1), (2, .int a2)], [.int (1 : Int32)])) rfl ?_
        exact e_rZ rfl rfl (by decide)
set_option maxRecDepth 100000 in
set_option maxHeartbeats 4000000 in
theorem le_X12_hasFlush (en : pN) (d : Nat) (a1 : Int32) (s : qS) : qle (if ¬ (s.1 151 58) = (1 : Int32) then some (some (.int (0 : Int32)), s) else gd (p_inB ((52 : Int32) + a1) 216 = true) (if (s.1 187 ((52 : Int32) + a1).toNatClampNeg) ≤ (0 : Int32) then some (some (.int (0 : Int32)), s) else some (some (.int (1 : Int32)), s))) (qev en (d + 1) 314 [.ref 151, .int a1] s) := by
  refine e_enter ix_X12_hasFlush (Nat.le_of_ble_eq_true rfl) ?_
  show qle _ (qE (qev en d) en (some .boolean) tb_X12_hasFlush (0, [(0, .ref 151), (1, .int a1)], []) s)
  refine e_L 1 (f' := (1, [(0, .ref 151), (1, .int a1)], [.ref 151])) rfl ?_
  refine e_gI 12 58 rfl rfl lc_151 ?_
  refine e_L 1 (f' := (5, [(0, .ref 151), (1, .int a1)], [.int (1 : Int32), .int (s.1 151 58)])) rfl ?_
  refine e_icmp 24 rfl rfl rfl (fun c1 => ?_) (fun c1 => ?_)
  · refine e_L 1 (f' := (25, [(0, .ref 151), (1, .int a1)], [.int (0 : Int32)])) rfl ?_
    exact e_rZ rfl rfl (by decide)
  · refine e_L 1 (f' := (9, [(0, .ref 151), (1, .int a1)], [.ref 151])) rfl ?_
    refine e_gR (q := 187) 12 57 rfl rfl lc_151 lr_151_57 ?_
    refine e_L 3 (f' := (16, [(0, .ref 151), (1, .int a1)], [.int ((52 : Int32) + a1), .ref 187])) rfl ?_
    refine qle_gd fun h2 => ?_
    refine e_ial (n := 216) (k := ((52 : Int32) + a1).toNatClampNeg) rfl lc_187 ln_187 h2 rfl ?_
    refine e_ifz 24 rfl rfl rfl (fun c3 => ?_) (fun c3 => ?_)
    · refine e_L 1 (f' := (25, [(0, .ref 151), (1, .int a1)], [.int (0 : Int32)])) rfl ?_
      exact e_rZ rfl rfl (by decide)
    · refine e_L 2 (f' := (25, [(0, .ref 151), (1, .int a1)], [.int (1 : Int32)])) rfl ?_
      exact e_rZ rfl rfl (by decide)
noncomputable def L_X12_lookReady_12 (en : pN) (d : Nat) (v1 : Int32) (s : qS) : Option qR := qE (qev en d) en none tb_X12_lookReady (12, [(0, .ref 151), (1, .int v1)], []) s
noncomputable def L_X12_lookReady_28 (en : pN) (d : Nat) (v1 : Int32) (v2 : Int32) (v3 : Int32) (s : qS) : Option qR := qE (qev en d) en none tb_X12_lookReady (28, [(0, .ref 151), (1, .int v1), (2, .int v2), (3, .int v3)], []) s
noncomputable def L_X12_lookReady_98 (en : pN) (d : Nat) (v1 : Int32) (v2 : Int32) (s : qS) : Option qR := qE (qev en d) en none tb_X12_lookReady (98, [(0, .ref 151), (1, .int v1), (2, .int v2)], []) s
noncomputable def L_X12_lookReady_122 (en : pN) (d : Nat) (v1 : Int32) (vs1 : Int32) (vs2 : Int32) (s : qS) : Option qR := qE (qev en d) en none tb_X12_lookReady (122, [(0, .ref 151), (1, .int v1)], [.int vs2, .int vs1, .ref 151]) s
set_option maxRecDepth 100000 in
set_option maxHeartbeats 4000000 in
theorem le_X12_lookReady_12 (en : pN) (d : Nat) (v1 : Int32) (s : qS) : qle (if (s.1 151 18) ≤ v1 then some (none, s) else bI (qev en d 312 [.ref 151, .int v1] s) (fun w2 s3 => L_X12_lookReady_28 en d v1 w2 (0 : Int32) s3)) (L_X12_lookReady_12 en d v1 s) := by
  show qle _ (qE (qev en d) en none tb_X12_lookReady (12, [(0, .ref 151), (1, .int v1)], []) s)
  refine e_L 2 (f' := (14, [(0, .ref 151), (1, .int v1)], [.ref 151, .int v1])) rfl ?_
  refine e_gI 12 18 rfl rfl lc_151 ?_
  refine e_icmp 132 rfl rfl rfl (fun c1 => ?_) (fun c1 => ?_)
  · exact e_rV rfl rfl
  · refine e_L 2 (f' := (22, [(0, .ref 151), (1, .int v1)], [.int v1, .ref 151])) rfl ?_
    refine e_vI 312 rfl rfl ix_X12_choices rfl (q_recvOf lc_151 rfl) (Nat.le_of_ble_eq_true rfl) (fun w2 s3 e4 => ?_)
    refine e_L 3 (f' := (28, [(3, .int (0 : Int32)), (2, .int w2), (0, .ref 151), (1, .int v1)], [])) rfl ?_
    exact qE_sub (qsubL [2, 3, 1, 0] rfl (ks := [3, 2, 0, 1]) rfl (by decide))
set_option maxRecDepth 100000 in
set_option maxHeartbeats 4000000 in
theorem le_X12_lookReady_28 (en : pN) (d : Nat) (v1 : Int32) (v2 : Int32) (v3 : Int32) (s : qS) : qle (if v2 ≤ v3 then bI (qev en d 314 [.ref 151, .int v1] s) (fun w2 s3 => if w2 = (0 : Int32) then L_X12_lookReady_98 en d v1 v2 s3 else gd (p_inB (s3.1 151 66) 48 = true) (nm (uI s3 190 ((s3.1 151 66).toNatClampNeg) (((10 : Int32) * v1) + (9 : Int32))) (fun s7 => nm (uI s7 151 66 ((s7.1 151 66) + (1 : Int32))) (fun s8 => L_X12_lookReady_98 en d v1 v2 s8)))) else gd (p_inB (s.1 151 66) 48 = true) (nm (uI s 190 ((s.1 151 66).toNatClampNeg) (((10 : Int32) * v1) + v3)) (fun s10 => nm (uI s10 151 66 ((s10.1 151 66) + (1 : Int32))) (fun s11 => L_X12_lookReady_28 en d v1 v2 (v3 + (1 : Int32)) s11)))) (L_X12_lookReady_28 en d v1 v2 v3 s) := by
  show qle _ (qE (qev en d) en none tb_X12_lookReady (28, [(0, .ref 151), (1, .int v1), (2, .int v2), (3, .int v3)], []) s)
  refine e_L 2 (f' := (30, [(0, .ref 151), (1, .int v1), (2, .int v2), (3, .int v3)], [.int v2, .int v3])) rfl ?_
  refine e_icmp 64 rfl rfl rfl (fun c1 => ?_) (fun c1 => ?_)
  · refine e_L 2 (f' := (66, [(0, .ref 151), (1, .int v1), (2, .int v2), (3, .int v3)], [.int v1, .ref 151])) rfl ?_
    refine e_vI 314 rfl rfl ix_X12_hasFlush rfl (q_recvOf lc_151 rfl) (Nat.le_of_ble_eq_true rfl) (fun w2 s3 e4 => ?_)
    refine e_ifz 98 rfl rfl rfl (fun c5 => ?_) (fun c5 => ?_)
    · exact qE_sub (qsubL [0, 1, 2] rfl (ks := [0, 1, 2, 3]) rfl (by decide))
    · refine e_L 1 (f' := (73, [(0, .ref 151), (1, .int v1), (2, .int v2), (3, .int v3)], [.ref 151])) rfl ?_
      refine e_gR (q := 190) 12 65 rfl rfl lc_151 lr_151_65 ?_
      refine e_L 1 (f' := (77, [(0, .ref 151), (1, .int v1), (2, .int v2), (3, .int v3)], [.ref 151, .ref 190])) rfl ?_
      refine e_gI 12 66 rfl rfl lc_151 ?_
      refine e_L 5 (f' := (87, [(0, .ref 151), (1, .int v1), (2, .int v2), (3, .int v3)], [.int (((10 : Int32) * v1) + (9 : Int32)), .int (s3.1 151 66), .ref 190])) rfl ?_
      refine qle_gd fun h6 => ?_
      refine e_ias (n := 48) (k := (s3.1 151 66).toNatClampNeg) rfl lc_190 ln_190 h6 rfl ?_
      refine e_nS fun s7 => ?_
      refine e_L 2 (f' := (90, [(0, .ref 151), (1, .int v1), (2, .int v2), (3, .int v3)], [.ref 151, .ref 151])) rfl ?_
      refine e_gI 12 66 rfl rfl lc_151 ?_
      refine e_L 2 (f' := (95, [(0, .ref 151), (1, .int v1), (2, .int v2), (3, .int v3)], [.int ((s7.1 151 66) + (1 : Int32)), .ref 151])) rfl ?_
      refine e_pI 12 66 rfl rfl lc_151 rfl ?_
      refine e_nS fun s8 => ?_
      exact qE_sub (qsubL [0, 1, 2] rfl (ks := [0, 1, 2, 3]) rfl (by decide))
  · refine e_L 1 (f' := (34, [(0, .ref 151), (1, .int v1), (2, .int v2), (3, .int v3)], [.ref 151])) rfl ?_
    refine e_gR (q := 190) 12 65 rfl rfl lc_151 lr_151_65 ?_
    refine e_L 1 (f' := (38, [(0, .ref 151), (1, .int v1), (2, .int v2), (3, .int v3)], [.ref 151, .ref 190])) rfl ?_
    refine e_gI 12 66 rfl rfl lc_151 ?_
    refine e_L 5 (f' := (47, [(0, .ref 151), (1, .int v1), (2, .int v2), (3, .int v3)], [.int (((10 : Int32) * v1) + v3), .int (s.1 151 66), .ref 190])) rfl ?_
    refine qle_gd fun h9 => ?_
    refine e_ias (n := 48) (k := (s.1 151 66).toNatClampNeg) rfl lc_190 ln_190 h9 rfl ?_
    refine e_nS fun s10 => ?_
    refine e_L 2 (f' := (50, [(0, .ref 151), (1, .int v1), (2, .int v2), (3, .int v3)], [.ref 151, .ref 151])) rfl ?_
    refine e_gI 12 66 rfl rfl lc_151 ?_
    refine e_L 2 (f' := (55, [(0, .ref 151), (1, .int v1), (2, .int v2), (3, .int v3)], [.int ((s10.1 151 66) + (1 : Int32)), .ref 151])) rfl ?_
    refine e_pI 12 66 rfl rfl lc_151 rfl ?_
    refine e_nS fun s11 => ?_
    refine e_L 2 (f' := (28, [(3, .int (v3 + (1 : Int32))), (0, .ref 151), (1, .int v1), (2, .int v2)], [])) rfl ?_
    exact qE_sub (qsubL [1, 2, 3, 0] rfl (ks := [3, 0, 1, 2]) rfl (by decide))
set_option maxRecDepth 100000 in
set_option maxHeartbeats 4000000 in
theorem le_X12_lookReady_98 (en : pN) (d : Nat) (v1 : Int32) (v2 : Int32) (s : qS) : qle (if (0 : Int32) < v2 then L_X12_lookReady_122 en d v1 (s.1 151 67) ((1 : Int32) <<< (v1 &&& 31)) s else bI (qev en d 314 [.ref 151, .int v1] s) (fun w2 s3 => if w2 = (0 : Int32) then L_X12_lookReady_122 en d v1 (s.1 151 67) (0 : Int32) s3 else L_X12_lookReady_122 en d v1 (s.1 151 67) ((1 : Int32) <<< (v1 &&& 31)) s3)) (L_X12_lookReady_98 en d v1 v2 s) := by
  show qle _ (qE (qev en d) en none tb_X12_lookReady (98, [(0, .ref 151), (1, .int v1), (2, .int v2)], []) s)
  refine e_L 2 (f' := (100, [(0, .ref 151), (1, .int v1), (2, .int v2)], [.ref 151, .ref 151])) rfl ?_
  refine e_gI 12 67 rfl rfl lc_151 ?_
  refine e_L 1 (f' := (104, [(0, .ref 151), (1, .int v1), (2, .int v2)], [.int v2, .int (s.1 151 67), .ref 151])) rfl ?_
  refine e_ifz 115 rfl rfl rfl (fun c1 => ?_) (fun c1 => ?_)
  · refine e_L 4 (f' := (122, [(0, .ref 151), (1, .int v1), (2, .int v2)], [.int ((1 : Int32) <<< (v1 &&& 31)), .int (s.1 151 67), .ref 151])) rfl ?_
    exact qE_sub (qsubL [0, 1] rfl (ks := [0, 1, 2]) rfl (by decide))
  · refine e_L 2 (f' := (109, [(0, .ref 151), (1, .int v1), (2, .int v2)], [.int v1, .ref 151, .int (s.1 151 67), .ref 151])) rfl ?_
    refine e_vI 314 rfl rfl ix_X12_hasFlush rfl (q_recvOf lc_151 rfl) (Nat.le_of_ble_eq_true rfl) (fun w2 s3 e4 => ?_)
    refine e_ifz 121 rfl rfl rfl (fun c5 => ?_) (fun c5 => ?_)
    · refine e_L 1 (f' := (122, [(0, .ref 151), (1, .int v1), (2, .int v2)], [.int (0 : Int32), .int (s.1 151 67), .ref 151])) rfl ?_
      exact qE_sub (qsubL [0, 1] rfl (ks := [0, 1, 2]) rfl (by decide))
    · refine e_L 4 (f' := (122, [(0, .ref 151), (1, .int v1), (2, .int v2)], [.int ((1 : Int32) <<< (v1 &&& 31)), .int (s.1 151 67), .ref 151])) rfl ?_
      exact qE_sub (qsubL [0, 1] rfl (ks := [0, 1, 2]) rfl (by decide))
set_option maxRecDepth 100000 in
set_option maxHeartbeats 4000000 in
theorem le_X12_lookReady_122 (en : pN) (d : Nat) (v1 : Int32) (vs1 : Int32) (vs2 : Int32) (s : qS) : qle (nm (uI s 151 67 (vs1 ||| vs2)) (fun s1 => L_X12_lookReady_12 en d (v1 + (1 : Int32)) s1)) (L_X12_lookReady_122 en d v1 vs1 vs2 s) := by
  show qle _ (qE (qev en d) en none tb_X12_lookReady (122, [(0, .ref 151), (1, .int v1)], [.int vs2, .int vs1, .ref 151]) s)
  refine e_L 1 (f' := (123, [(0, .ref 151), (1, .int v1)], [.int (vs1 ||| vs2), .ref 151])) rfl ?_
  refine e_pI 12 67 rfl rfl lc_151 rfl ?_
  refine e_nS fun s1 => ?_
  refine e_L 2 (f' := (12, [(1, .int (v1 + (1 : Int32))), (0, .ref 151)], [])) rfl ?_
  exact qE_sub (qsubL [1, 0] rfl (ks := [1, 0]) rfl (by decide))
set_option maxRecDepth 100000 in
set_option maxHeartbeats 4000000 in
theorem le_X12_lookReady (en : pN) (d : Nat) (s : qS) : qle (nm (uI s 151 66 (0 : Int32)) (fun s1 => nm (uI s1 151 67 (0 : Int32)) (fun s2 => L_X12_lookReady_12 en d (0 : Int32) s2))) (qev en (d + 1) 315 [.ref 151] s) := by
  refine e_enter ix_X12_lookReady (Nat.le_of_ble_eq_true rfl) ?_
  show qle _ (qE (qev en d) en none tb_X12_lookReady (0, [(0, .ref 151)], []) s)
  refine e_L 2 (f' := (2, [(0, .ref 151)], [.int (0 : Int32), .ref 151])) rfl ?_
  refine e_pI 12 66 rfl rfl lc_151 rfl ?_
  refine e_nS fun s1 => ?_
  refine e_L 2 (f' := (7, [(0, .ref 151)], [.int (0 : Int32), .ref 151])) rfl ?_
  refine e_pI 12 67 rfl rfl lc_151 rfl ?_
  refine e_nS fun s2 => ?_
  refine e_L 2 (f' := (12, [(1, .int (0 : Int32)), (0, .ref 151)], [])) rfl ?_
  exact qE_sub (qsubL [1, 0] rfl (ks := [1, 0]) rfl (by decide))
noncomputable def L_X12_isReadyStep_5 (en : pN) (d : Nat) (v1 : Int32) (v2 : Int32) (v3 : Int32) (v4 : Int32) (s : qS) : Option qR := qE (qev en d) en (some .boolean) tb_X12_isReadyStep (5, [(0, .ref 151), (1, .int v1), (2, .int v2), (3, .int v3), (4, .int v4)], []) s
set_option maxRecDepth 100000 in
set_option maxHeartbeats 4000000 in
theorem le_X12_isReadyStep_5 (en : pN) (d : Nat) (v1 : Int32) (v2 : Int32) (v3 : Int32) (v4 : Int32) (s : qS) : qle (if (s.1 151 66) ≤ v4 then gd (v3 = 0 ∨ v3 = 1) (some (some (.int v3), s)) else if ¬ v3 = (0 : Int32) then L_X12_isReadyStep_5 en d v1 v2 (1 : Int32) (v4 + (1 : Int32)) s else if v1 < (0 : Int32) then L_X12_isReadyStep_5 en d v1 v2 (0 : Int32) (v4 + (1 : Int32)) s else if (s.1 151 18) ≤ v1 then L_X12_isReadyStep_5 en d v1 v2 (0 : Int32) (v4 + (1 : Int32)) s else if v2 < (0 : Int32) then L_X12_isReadyStep_5 en d v1 v2 (0 : Int32) (v4 + (1 : Int32)) s else if (9 : Int32) < v2 then L_X12_isReadyStep_5 en d v1 v2 (0 : Int32) (v4 + (1 : Int32)) s else gd (p_inB v4 48 = true) (if ¬ (s.1 190 v4.toNatClampNeg) = (((10 : Int32) * v1) + v2) then L_X12_isReadyStep_5 en d v1 v2 (0 : Int32) (v4 + (1 : Int32)) s else L_X12_isReadyStep_5 en d v1 v2 (1 : Int32) (v4 + (1 : Int32)) s)) (L_X12_isReadyStep_5 en d v1 v2 v3 v4 s) := by
  show qle _ (qE (qev en d) en (some .boolean) tb_X12_isReadyStep (5, [(0, .ref 151), (1, .int v1), (2, .int v2), (3, .int v3), (4, .int v4)], []) s)
  refine e_L 2 (f' := (8, [(0, .ref 151), (1, .int v1), (2, .int v2), (3, .int v3), (4, .int v4)], [.ref 151, .int v4])) rfl ?_
  refine e_gI 12 66 rfl rfl lc_151 ?_
  refine e_icmp 68 rfl rfl rfl (fun c1 => ?_) (fun c1 => ?_)
  · refine e_L 1 (f' := (69, [(0, .ref 151), (1, .int v1), (2, .int v2), (3, .int v3), (4, .int v4)], [.int v3])) rfl ?_
    exact qle_gd fun h2 => e_rZ rfl rfl h2
  · refine e_L 1 (f' := (15, [(0, .ref 151), (1, .int v1), (2, .int v2), (3, .int v3), (4, .int v4)], [.int v3])) rfl ?_
    refine e_ifz 56 rfl rfl rfl (fun c3 => ?_) (fun c3 => ?_)
    · refine e_L 5 (f' := (5, [(4, .int (v4 + (1 : Int32))), (3, .int (1 : Int32)), (0, .ref 151), (1, .int v1), (2, .int v2)], [])) rfl ?_
      exact qE_sub (qsubL [2, 3, 4, 1, 0] rfl (ks := [4, 3, 0, 1, 2]) rfl (by decide))
    · refine e_L 1 (f' := (19, [(0, .ref 151), (1, .int v1), (2, .int v2), (3, .int v3), (4, .int v4)], [.int v1])) rfl ?_
      refine e_ifz 60 rfl rfl rfl (fun c4 => ?_) (fun c4 => ?_)
      · refine e_L 4 (f' := (5, [(4, .int (v4 + (1 : Int32))), (3, .int (0 : Int32)), (0, .ref 151), (1, .int v1), (2, .int v2)], [])) rfl ?_
        exact qE_sub (qsubL [2, 3, 4, 1, 0] rfl (ks := [4, 3, 0, 1, 2]) rfl (by decide))
      · refine e_L 2 (f' := (24, [(0, .ref 151), (1, .int v1), (2, .int v2), (3, .int v3), (4, .int v4)], [.ref 151, .int v1])) rfl ?_
        refine e_gI 12 18 rfl rfl lc_151 ?_
        refine e_icmp 60 rfl rfl rfl (fun c5 => ?_) (fun c5 => ?_)
        · refine e_L 4 (f' := (5, [(4, .int (v4 + (1 : Int32))), (3, .int (0 : Int32)), (0, .ref 151), (1, .int v1), (2, .int v2)], [])) rfl ?_
          exact qE_sub (qsubL [2, 3, 4, 1, 0] rfl (ks := [4, 3, 0, 1, 2]) rfl (by decide))
        · refine e_L 1 (f' := (31, [(0, .ref 151), (1, .int v1), (2, .int v2), (3, .int v3), (4, .int v4)], [.int v2])) rfl ?_
          refine e_ifz 60 rfl rfl rfl (fun c6 => ?_) (fun c6 => ?_)
          · refine e_L 4 (f' := (5, [(4, .int (v4 + (1 : Int32))), (3, .int (0 : Int32)), (0, .ref 151), (1, .int v1), (2, .int v2)], [])) rfl ?_
            exact qE_sub (qsubL [2, 3, 4, 1, 0] rfl (ks := [4, 3, 0, 1, 2]) rfl (by decide))
          · refine e_L 2 (f' := (37, [(0, .ref 151), (1, .int v1), (2, .int v2), (3, .int v3), (4, .int v4)], [.int (9 : Int32), .int v2])) rfl ?_
            refine e_icmp 60 rfl rfl rfl (fun c7 => ?_) (fun c7 => ?_)
            · refine e_L 4 (f' := (5, [(4, .int (v4 + (1 : Int32))), (3, .int (0 : Int32)), (0, .ref 151), (1, .int v1), (2, .int v2)], [])) rfl ?_
              exact qE_sub (qsubL [2, 3, 4, 1, 0] rfl (ks := [4, 3, 0, 1, 2]) rfl (by decide))
            · refine e_L 1 (f' := (41, [(0, .ref 151), (1, .int v1), (2, .int v2), (3, .int v3), (4, .int v4)], [.ref 151])) rfl ?_
              refine e_gR (q := 190) 12 65 rfl rfl lc_151 lr_151_65 ?_
              refine e_L 1 (f' := (46, [(0, .ref 151), (1, .int v1), (2, .int v2), (3, .int v3), (4, .int v4)], [.int v4, .ref 190])) rfl ?_
              refine qle_gd fun h8 => ?_
              refine e_ial (n := 48) (k := v4.toNatClampNeg) rfl lc_190 ln_190 h8 rfl ?_
              refine e_L 5 (f' := (53, [(0, .ref 151), (1, .int v1), (2, .int v2), (3, .int v3), (4, .int v4)], [.int (((10 : Int32) * v1) + v2), .int (s.1 190 v4.toNatClampNeg)])) rfl ?_
              refine e_icmp 60 rfl rfl rfl (fun c9 => ?_) (fun c9 => ?_)
              · refine e_L 4 (f' := (5, [(4, .int (v4 + (1 : Int32))), (3, .int (0 : Int32)), (0, .ref 151), (1, .int v1), (2, .int v2)], [])) rfl ?_
                exact qE_sub (qsubL [2, 3, 4, 1, 0] rfl (ks := [4, 3, 0, 1, 2]) rfl (by decide))
              · refine e_L 5 (f' := (5, [(4, .int (v4 + (1 : Int32))), (3, .int (1 : Int32)), (0, .ref 151), (1, .int v1), (2, .int v2)], [])) rfl ?_
                exact qE_sub (qsubL [2, 3, 4, 1, 0] rfl (ks := [4, 3, 0, 1, 2]) rfl (by decide))
set_option maxRecDepth 100000 in
set_option maxHeartbeats 4000000 in
theorem le_X12_isReadyStep (en : pN) (d : Nat) (a1 : Int32) (a2 : Int32) (s : qS) : qle (L_X12_isReadyStep_5 en d a1 a2 (0 : Int32) (0 : Int32) s) (qev en (d + 1) 316 [.ref 151, .int a1, .int a2] s) := by
  refine e_enter ix_X12_isReadyStep (Nat.le_of_ble_eq_true rfl) ?_
  show qle _ (qE (qev en d) en (some .boolean) tb_X12_isReadyStep (0, [(0, .ref 151), (1, .int a1), (2, .int a2)], []) s)
  refine e_L 4 (f' := (5, [(4, .int (0 : Int32)), (3, .int (0 : Int32)), (0, .ref 151), (1, .int a1), (2, .int a2)], [])) rfl ?_
  exact qE_sub (qsubL [2, 3, 4, 1, 0] rfl (ks := [4, 3, 0, 1, 2]) rfl (by decide))
set_option maxRecDepth 100000 in
set_option maxHeartbeats 4000000 in
theorem le_X12_goWrong (en : pN) (d : Nat) (a1 : Int32) (a2 : Int32) (s : qS) : qle (gd (p_inB ((0 : Int32) + a1) 216 = true) (nm (uI s 187 (((0 : Int32) + a1).toNatClampNeg) (5 : Int32)) (fun s2 => gd (p_inB ((4 : Int32) + a1) 216 = true) (nm (uI s2 187 (((4 : Int32) + a1).toNatClampNeg) (0 : Int32)) (fun s4 => gd (p_inB ((8 : Int32) + a1) 216 = true) (nm (uI s4 187 (((8 : Int32) + a1).toNatClampNeg) a2) (fun s6 => gd (p_inB a1 4 = true) (nm (uI s6 188 (a1.toNatClampNeg) a2) (fun s8 => nm (uI s8 151 69 (21 : Int32)) (fun s9 => some (none, s9))))))))))) (qev en (d + 1) 317 [.ref 151, .int a1, .int a2] s) := by
  refine e_enter ix_X12_goWrong (Nat.le_of_ble_eq_true rfl) ?_
  show qle _ (qE (qev en d) en none tb_X12_goWrong (0, [(0, .ref 151), (1, .int a1), (2, .int a2)], []) s)
  refine e_L 1 (f' := (1, [(0, .ref 151), (1, .int a1), (2, .int a2)], [.ref 151])) rfl ?_
  refine e_gR (q := 187) 12 57 rfl rfl lc_151 lr_151_57 ?_
  refine e_L 4 (f' := (8, [(0, .ref 151), (1, .int a1), (2, .int a2)], [.int (5 : Int32), .int ((0 : Int32) + a1), .ref 187])) rfl ?_
  refine qle_gd fun h1 => ?_
  refine e_ias (n := 216) (k := ((0 : Int32) + a1).toNatClampNeg) rfl lc_187 ln_187 h1 rfl ?_
  refine e_nS fun s2 => ?_
  refine e_L 1 (f' := (10, [(0, .ref 151), (1, .int a1), (2, .int a2)], [.ref 151])) rfl ?_
  refine e_gR (q := 187) 12 57 rfl rfl lc_151 lr_151_57 ?_
  refine e_L 4 (f' := (17, [(0, .ref 151), (1, .int a1), (2, .int a2)], [.int (0 : Int32), .int ((4 : Int32) + a1), .ref 187])) rfl ?_
  refine qle_gd fun h3 => ?_
  refine e_ias (n := 216) (k := ((4 : Int32) + a1).toNatClampNeg) rfl lc_187 ln_187 h3 rfl ?_
  refine e_nS fun s4 => ?_
  refine e_L 1 (f' := (19, [(0, .ref 151), (1, .int a1), (2, .int a2)], [.ref 151])) rfl ?_
  refine e_gR (q := 187) 12 57 rfl rfl lc_151 lr_151_57 ?_
  refine e_L 4 (f' := (27, [(0, .ref 151), (1, .int a1), (2, .int a2)], [.int a2, .int ((8 : Int32) + a1), .ref 187])) rfl ?_
  refine qle_gd fun h5 => ?_
  refine e_ias (n := 216) (k := ((8 : Int32) + a1).toNatClampNeg) rfl lc_187 ln_187 h5 rfl ?_
  refine e_nS fun s6 => ?_
  refine e_L 1 (f' := (29, [(0, .ref 151), (1, .int a1), (2, .int a2)], [.ref 151])) rfl ?_
  refine e_gR (q := 188) 12 61 rfl rfl lc_151 lr_151_61 ?_
  refine e_L 2 (f' := (34, [(0, .ref 151), (1, .int a1), (2, .int a2)], [.int a2, .int a1, .ref 188])) rfl ?_
  refine qle_gd fun h7 => ?_
  refine e_ias (n := 4) (k := a1.toNatClampNeg) rfl lc_188 ln_188 h7 rfl ?_
  refine e_nS fun s8 => ?_
  refine e_L 2 (f' := (38, [(0, .ref 151), (1, .int a1), (2, .int a2)], [.int (21 : Int32), .ref 151])) rfl ?_
  refine e_pI 12 69 rfl rfl lc_151 rfl ?_
  refine e_nS fun s9 => ?_
  exact e_rV rfl rfl
noncomputable def L_X12_takeLock_3 (en : pN) (d : Nat) (v1 : Int32) (v2 : Int32) (v3 : Int32) (v4 : Int32) (s : qS) : Option qR := qE (qev en d) en none tb_X12_takeLock (3, [(0, .ref 151), (1, .int v1), (2, .int v2), (3, .int v3), (4, .int v4)], []) s
noncomputable def L_X12_takeLock_51 (en : pN) (d : Nat) (v1 : Int32) (v2 : Int32) (v3 : Int32) (v4 : Int32) (vs1 : Int32) (vs2 : Int32) (s : qS) : Option qR := qE (qev en d) en none tb_X12_takeLock (51, [(0, .ref 151), (1, .int v1), (2, .int v2), (3, .int v3), (4, .int v4)], [.int vs2, .int vs1, .ref 151]) s
set_option maxRecDepth 100000 in
set_option maxHeartbeats 4000000 in
theorem le_X12_takeLock_3 (en : pN) (d : Nat) (v1 : Int32) (v2 : Int32) (v3 : Int32) (v4 : Int32) (s : qS) : qle (if (s.1 151 16) ≤ v4 then gd (p_inB ((36 : Int32) + v2) 216 = true) (nm (uI s 187 (((36 : Int32) + v2).toNatClampNeg) (v1 + (1 : Int32))) (fun s3 => gd (p_inB ((40 : Int32) + v2) 216 = true) (nm (uI s3 187 (((40 : Int32) + v2).toNatClampNeg) v3) (fun s5 => some (none, s5))))) else if v4 = v2 then L_X12_takeLock_51 en d v1 v2 v3 v4 (s.1 151 73) (0 : Int32) s else gd (p_inB ((36 : Int32) + v4) 216 = true) (if ¬ (s.1 187 ((36 : Int32) + v4).toNatClampNeg) = (v1 + (1 : Int32)) then L_X12_takeLock_51 en d v1 v2 v3 v4 (s.1 151 73) (0 : Int32) s else L_X12_takeLock_51 en d v1 v2 v3 v4 (s.1 151 73) ((1 : Int32) <<< ((((4 : Int32) * v4) + v2) &&& 31)) s)) (L_X12_takeLock_3 en d v1 v2 v3 v4 s) := by
  show qle _ (qE (qev en d) en none tb_X12_takeLock (3, [(0, .ref 151), (1, .int v1), (2, .int v2), (3, .int v3), (4, .int v4)], []) s)
  refine e_L 2 (f' := (6, [(0, .ref 151), (1, .int v1), (2, .int v2), (3, .int v3), (4, .int v4)], [.ref 151, .int v4])) rfl ?_
  refine e_gI 12 16 rfl rfl lc_151 ?_
  refine e_icmp 61 rfl rfl rfl (fun c1 => ?_) (fun c1 => ?_)
  · refine e_L 1 (f' := (62, [(0, .ref 151), (1, .int v1), (2, .int v2), (3, .int v3), (4, .int v4)], [.ref 151])) rfl ?_
    refine e_gR (q := 187) 12 57 rfl rfl lc_151 lr_151_57 ?_
    refine e_L 6 (f' := (72, [(0, .ref 151), (1, .int v1), (2, .int v2), (3, .int v3), (4, .int v4)], [.int (v1 + (1 : Int32)), .int ((36 : Int32) + v2), .ref 187])) rfl ?_
    refine qle_gd fun h2 => ?_
    refine e_ias (n := 216) (k := ((36 : Int32) + v2).toNatClampNeg) rfl lc_187 ln_187 h2 rfl ?_
    refine e_nS fun s3 => ?_
    refine e_L 1 (f' := (74, [(0, .ref 151), (1, .int v1), (2, .int v2), (3, .int v3), (4, .int v4)], [.ref 151])) rfl ?_
    refine e_gR (q := 187) 12 57 rfl rfl lc_151 lr_151_57 ?_
    refine e_L 4 (f' := (82, [(0, .ref 151), (1, .int v1), (2, .int v2), (3, .int v3), (4, .int v4)], [.int v3, .int ((40 : Int32) + v2), .ref 187])) rfl ?_
    refine qle_gd fun h4 => ?_
    refine e_ias (n := 216) (k := ((40 : Int32) + v2).toNatClampNeg) rfl lc_187 ln_187 h4 rfl ?_
    refine e_nS fun s5 => ?_
    exact e_rV rfl rfl
  · refine e_L 2 (f' := (14, [(0, .ref 151), (1, .int v1), (2, .int v2), (3, .int v3), (4, .int v4)], [.ref 151, .ref 151])) rfl ?_
    refine e_gI 12 73 rfl rfl lc_151 ?_
    refine e_L 2 (f' := (20, [(0, .ref 151), (1, .int v1), (2, .int v2), (3, .int v3), (4, .int v4)], [.int v2, .int v4, .int (s.1 151 73), .ref 151])) rfl ?_
    refine e_icmp 50 rfl rfl rfl (fun c6 => ?_) (fun c6 => ?_)
    · refine e_L 1 (f' := (51, [(0, .ref 151), (1, .int v1), (2, .int v2), (3, .int v3), (4, .int v4)], [.int (0 : Int32), .int (s.1 151 73), .ref 151])) rfl ?_
      exact qE_sub (qsubL [0, 1, 2, 3, 4] rfl (ks := [0, 1, 2, 3, 4]) rfl (by decide))
    · refine e_L 1 (f' := (24, [(0, .ref 151), (1, .int v1), (2, .int v2), (3, .int v3), (4, .int v4)], [.ref 151, .int (s.1 151 73), .ref 151])) rfl ?_
      refine e_gR (q := 187) 12 57 rfl rfl lc_151 lr_151_57 ?_
      refine e_L 3 (f' := (32, [(0, .ref 151), (1, .int v1), (2, .int v2), (3, .int v3), (4, .int v4)], [.int ((36 : Int32) + v4), .ref 187, .int (s.1 151 73), .ref 151])) rfl ?_
      refine qle_gd fun h7 => ?_
      refine e_ial (n := 216) (k := ((36 : Int32) + v4).toNatClampNeg) rfl lc_187 ln_187 h7 rfl ?_
      refine e_L 3 (f' := (36, [(0, .ref 151), (1, .int v1), (2, .int v2), (3, .int v3), (4, .int v4)], [.int (v1 + (1 : Int32)), .int (s.1 187 ((36 : Int32) + v4).toNatClampNeg), .int (s.1 151 73), .ref 151])) rfl ?_
      refine e_icmp 50 rfl rfl rfl (fun c8 => ?_) (fun c8 => ?_)
      · refine e_L 1 (f' := (51, [(0, .ref 151), (1, .int v1), (2, .int v2), (3, .int v3), (4, .int v4)], [.int (0 : Int32), .int (s.1 151 73), .ref 151])) rfl ?_
        exact qE_sub (qsubL [0, 1, 2, 3, 4] rfl (ks := [0, 1, 2, 3, 4]) rfl (by decide))
      · refine e_L 8 (f' := (51, [(0, .ref 151), (1, .int v1), (2, .int v2), (3, .int v3), (4, .int v4)], [.int ((1 : Int32) <<< ((((4 : Int32) * v4) + v2) &&& 31)), .int (s.1 151 73), .ref 151])) rfl ?_
        exact qE_sub (qsubL [0, 1, 2, 3, 4] rfl (ks := [0, 1, 2, 3, 4]) rfl (by decide))
set_option maxRecDepth 100000 in
set_option maxHeartbeats 4000000 in
theorem le_X12_takeLock_51 (en : pN) (d : Nat) (v1 : Int32) (v2 : Int32) (v3 : Int32) (v4 : Int32) (vs1 : Int32) (vs2 : Int32) (s : qS) : qle (nm (uI s 151 73 (vs1 ||| vs2)) (fun s1 => L_X12_takeLock_3 en d v1 v2 v3 (v4 + (1 : Int32)) s1)) (L_X12_takeLock_51 en d v1 v2 v3 v4 vs1 vs2 s) := by
  show qle _ (qE (qev en d) en none tb_X12_takeLock (51, [(0, .ref 151), (1, .int v1), (2, .int v2), (3, .int v3), (4, .int v4)], [.int vs2, .int vs1, .ref 151]) s)
  refine e_L 1 (f' := (52, [(0, .ref 151), (1, .int v1), (2, .int v2), (3, .int v3), (4, .int v4)], [.int (vs1 ||| vs2), .ref 151])) rfl ?_
  refine e_pI 12 73 rfl rfl lc_151 rfl ?_
  refine e_nS fun s1 => ?_
  refine e_L 2 (f' := (3, [(4, .int (v4 + (1 : Int32))), (0, .ref 151), (1, .int v1), (2, .int v2), (3, .int v3)], [])) rfl ?_
  exact qE_sub (qsubL [1, 2, 3, 4, 0] rfl (ks := [4, 0, 1, 2, 3]) rfl (by decide))
set_option maxRecDepth 100000 in
set_option maxHeartbeats 4000000 in
theorem le_X12_takeLock (en : pN) (d : Nat) (a1 : Int32) (a2 : Int32) (a3 : Int32) (s : qS) : qle (L_X12_takeLock_3 en d a1 a2 a3 (0 : Int32) s) (qev en (d + 1) 318 [.ref 151, .int a1, .int a2, .int a3] s) := by
  refine e_enter ix_X12_takeLock (Nat.le_of_ble_eq_true rfl) ?_
  show qle _ (qE (qev en d) en none tb_X12_takeLock (0, [(0, .ref 151), (1, .int a1), (2, .int a2), (3, .int a3)], []) s)
  refine e_L 2 (f' := (3, [(4, .int (0 : Int32)), (0, .ref 151), (1, .int a1), (2, .int a2), (3, .int a3)], [])) rfl ?_
  exact qE_sub (qsubL [1, 2, 3, 4, 0] rfl (ks := [4, 0, 1, 2, 3]) rfl (by decide))
set_option maxRecDepth 100000 in
set_option maxHeartbeats 4000000 in
theorem le_X12_joinView (en : pN) (d : Nat) (a1 : Int32) (a2 : Int32) (s : qS) : qle (if ¬ (s.1 151 58) = (2 : Int32) then some (none, s) else gd (p_inB ((204 : Int32) + a1) 216 = true) (gd (p_inB a2 216 = true) (bI (qev en d 306 [.int (s.1 187 ((204 : Int32) + a1).toNatClampNeg), .int (s.1 187 a2.toNatClampNeg)] s) (fun w4 s5 => nm (uI s5 187 (((204 : Int32) + a1).toNatClampNeg) w4) (fun s7 => some (none, s7)))))) (qev en (d + 1) 319 [.ref 151, .int a1, .int a2] s) := by
  refine e_enter ix_X12_joinView (Nat.le_of_ble_eq_true rfl) ?_
  show qle _ (qE (qev en d) en none tb_X12_joinView (0, [(0, .ref 151), (1, .int a1), (2, .int a2)], []) s)
  refine e_L 1 (f' := (1, [(0, .ref 151), (1, .int a1), (2, .int a2)], [.ref 151])) rfl ?_
  refine e_gI 12 58 rfl rfl lc_151 ?_
  refine e_L 1 (f' := (5, [(0, .ref 151), (1, .int a1), (2, .int a2)], [.int (2 : Int32), .int (s.1 151 58)])) rfl ?_
  refine e_icmp 37 rfl rfl rfl (fun c1 => ?_) (fun c1 => ?_)
  · exact e_rV rfl rfl
  · refine e_L 1 (f' := (9, [(0, .ref 151), (1, .int a1), (2, .int a2)], [.ref 151])) rfl ?_
    refine e_gR (q := 187) 12 57 rfl rfl lc_151 lr_151_57 ?_
    refine e_L 4 (f' := (18, [(0, .ref 151), (1, .int a1), (2, .int a2)], [.ref 151, .int ((204 : Int32) + a1), .ref 187])) rfl ?_
    refine e_gR (q := 187) 12 57 rfl rfl lc_151 lr_151_57 ?_
    refine e_L 3 (f' := (26, [(0, .ref 151), (1, .int a1), (2, .int a2)], [.int ((204 : Int32) + a1), .ref 187, .int ((204 : Int32) + a1), .ref 187])) rfl ?_
    refine qle_gd fun h2 => ?_
    refine e_ial (n := 216) (k := ((204 : Int32) + a1).toNatClampNeg) rfl lc_187 ln_187 h2 rfl ?_
    refine e_L 1 (f' := (28, [(0, .ref 151), (1, .int a1), (2, .int a2)], [.ref 151, .int (s.1 187 ((204 : Int32) + a1).toNatClampNeg), .int ((204 : Int32) + a1), .ref 187])) rfl ?_
    refine e_gR (q := 187) 12 57 rfl rfl lc_151 lr_151_57 ?_
    refine e_L 1 (f' := (32, [(0, .ref 151), (1, .int a1), (2, .int a2)], [.int a2, .ref 187, .int (s.1 187 ((204 : Int32) + a1).toNatClampNeg), .int ((204 : Int32) + a1), .ref 187])) rfl ?_
    refine qle_gd fun h3 => ?_
    refine e_ial (n := 216) (k := a2.toNatClampNeg) rfl lc_187 ln_187 h3 rfl ?_
    refine e_sI 306 rfl rfl rfl ix_X12_joinOf rfl (Nat.le_of_ble_eq_true rfl) (fun w4 s5 e6 => ?_)
    refine e_ias (n := 216) (k := ((204 : Int32) + a1).toNatClampNeg) rfl lc_187 ln_187 h2 rfl ?_
    refine e_nS fun s7 => ?_
    exact e_rV rfl rfl
noncomputable def L_X12_flush_34 (en : pN) (d : Nat) (v1 : Int32) (v3 : Int32) (s : qS) : Option qR := qE (qev en d) en none tb_X12_flush (34, [(0, .ref 151), (1, .int v1), (3, .int v3)], []) s
noncomputable def L_X12_flush_75 (en : pN) (d : Nat) (v1 : Int32) (v3 : Int32) (vs1 : Int32) (vs2 : Int32) (s : qS) : Option qR := qE (qev en d) en none tb_X12_flush (75, [(0, .ref 151), (1, .int v1), (3, .int v3)], [.int vs2, .int vs1, .ref 187]) s
noncomputable def L_X12_flush_112 (en : pN) (d : Nat) (v1 : Int32) (v3 : Int32) (vs1 : Int32) (vs2 : Int32) (s : qS) : Option qR := qE (qev en d) en none tb_X12_flush (112, [(0, .ref 151), (1, .int v1), (3, .int v3)], [.int vs2, .int vs1, .ref 187]) s
set_option maxRecDepth 100000 in
set_option maxHeartbeats 4000000 in
theorem le_X12_flush_34 (en : pN) (d : Nat) (v1 : Int32) (v3 : Int32) (s : qS) : qle (if (3 : Int32) ≤ v3 then gd (p_inB ((52 : Int32) + v1) 216 = true) (nm (uI s 187 (((52 : Int32) + v1).toNatClampNeg) ((s.1 187 ((52 : Int32) + v1).toNatClampNeg) - (1 : Int32))) (fun s3 => some (none, s3))) else if (2 : Int32) ≤ v3 then L_X12_flush_75 en d v1 v3 (((56 : Int32) + ((3 : Int32) * v1)) + v3) (0 : Int32) s else gd (p_inB ((((56 : Int32) + ((3 : Int32) * v1)) + v3) + (1 : Int32)) 216 = true) (L_X12_flush_75 en d v1 v3 (((56 : Int32) + ((3 : Int32) * v1)) + v3) (s.1 187 ((((56 : Int32) + ((3 : Int32) * v1)) + v3) + (1 : Int32)).toNatClampNeg) s)) (L_X12_flush_34 en d v1 v3 s) := by
  show qle _ (qE (qev en d) en none tb_X12_flush (34, [(0, .ref 151), (1, .int v1), (3, .int v3)], []) s)
  refine e_L 2 (f' := (36, [(0, .ref 151), (1, .int v1), (3, .int v3)], [.int (3 : Int32), .int v3])) rfl ?_
  refine e_icmp 119 rfl rfl rfl (fun c1 => ?_) (fun c1 => ?_)
  · refine e_L 1 (f' := (120, [(0, .ref 151), (1, .int v1), (3, .int v3)], [.ref 151])) rfl ?_
    refine e_gR (q := 187) 12 57 rfl rfl lc_151 lr_151_57 ?_
    refine e_L 4 (f' := (128, [(0, .ref 151), (1, .int v1), (3, .int v3)], [.int ((52 : Int32) + v1), .ref 187, .int ((52 : Int32) + v1), .ref 187])) rfl ?_
    refine qle_gd fun h2 => ?_
    refine e_ial (n := 216) (k := ((52 : Int32) + v1).toNatClampNeg) rfl lc_187 ln_187 h2 rfl ?_
    refine e_L 2 (f' := (131, [(0, .ref 151), (1, .int v1), (3, .int v3)], [.int ((s.1 187 ((52 : Int32) + v1).toNatClampNeg) - (1 : Int32)), .int ((52 : Int32) + v1), .ref 187])) rfl ?_
    refine e_ias (n := 216) (k := ((52 : Int32) + v1).toNatClampNeg) rfl lc_187 ln_187 h2 rfl ?_
    refine e_nS fun s3 => ?_
    exact e_rV rfl rfl
  · refine e_L 1 (f' := (40, [(0, .ref 151), (1, .int v1), (3, .int v3)], [.ref 151])) rfl ?_
    refine e_gR (q := 187) 12 57 rfl rfl lc_151 lr_151_57 ?_
    refine e_L 9 (f' := (53, [(0, .ref 151), (1, .int v1), (3, .int v3)], [.int (2 : Int32), .int v3, .int (((56 : Int32) + ((3 : Int32) * v1)) + v3), .ref 187])) rfl ?_
    refine e_icmp 74 rfl rfl rfl (fun c4 => ?_) (fun c4 => ?_)
    · refine e_L 1 (f' := (75, [(0, .ref 151), (1, .int v1), (3, .int v3)], [.int (0 : Int32), .int (((56 : Int32) + ((3 : Int32) * v1)) + v3), .ref 187])) rfl ?_
      exact qE_sub (qsubL [0, 1, 2] rfl (ks := [0, 1, 3]) rfl (by decide))
    · refine e_L 1 (f' := (57, [(0, .ref 151), (1, .int v1), (3, .int v3)], [.ref 151, .int (((56 : Int32) + ((3 : Int32) * v1)) + v3), .ref 187])) rfl ?_
      refine e_gR (q := 187) 12 57 rfl rfl lc_151 lr_151_57 ?_
      refine e_L 9 (f' := (70, [(0, .ref 151), (1, .int v1), (3, .int v3)], [.int ((((56 : Int32) + ((3 : Int32) * v1)) + v3) + (1 : Int32)), .ref 187, .int (((56 : Int32) + ((3 : Int32) * v1)) + v3), .ref 187])) rfl ?_
      refine qle_gd fun h5 => ?_
      refine e_ial (n := 216) (k := ((((56 : Int32) + ((3 : Int32) * v1)) + v3) + (1 : Int32)).toNatClampNeg) rfl lc_187 ln_187 h5 rfl ?_
      refine e_L 1 (f' := (75, [(0, .ref 151), (1, .int v1), (3, .int v3)], [.int (s.1 187 ((((56 : Int32) + ((3 : Int32) * v1)) + v3) + (1 : Int32)).toNatClampNeg), .int (((56 : Int32) + ((3 : Int32) * v1)) + v3), .ref 187])) rfl ?_
      exact qE_sub (qsubL [0, 1, 2] rfl (ks := [0, 1, 3]) rfl (by decide))
set_option maxRecDepth 100000 in
set_option maxHeartbeats 4000000 in
theorem le_X12_flush_75 (en : pN) (d : Nat) (v1 : Int32) (v3 : Int32) (vs1 : Int32) (vs2 : Int32) (s : qS) : qle (gd (p_inB vs1 216 = true) (nm (uI s 187 (vs1.toNatClampNeg) vs2) (fun s2 => if (2 : Int32) ≤ v3 then L_X12_flush_112 en d v1 v3 (((68 : Int32) + ((3 : Int32) * v1)) + v3) (0 : Int32) s2 else gd (p_inB ((((68 : Int32) + ((3 : Int32) * v1)) + v3) + (1 : Int32)) 216 = true) (L_X12_flush_112 en d v1 v3 (((68 : Int32) + ((3 : Int32) * v1)) + v3) (s2.1 187 ((((68 : Int32) + ((3 : Int32) * v1)) + v3) + (1 : Int32)).toNatClampNeg) s2)))) (L_X12_flush_75 en d v1 v3 vs1 vs2 s) := by
  show qle _ (qE (qev en d) en none tb_X12_flush (75, [(0, .ref 151), (1, .int v1), (3, .int v3)], [.int vs2, .int vs1, .ref 187]) s)
  refine qle_gd fun h1 => ?_
  refine e_ias (n := 216) (k := vs1.toNatClampNeg) rfl lc_187 ln_187 h1 rfl ?_
  refine e_nS fun s2 => ?_
  refine e_L 1 (f' := (77, [(0, .ref 151), (1, .int v1), (3, .int v3)], [.ref 151])) rfl ?_
  refine e_gR (q := 187) 12 57 rfl rfl lc_151 lr_151_57 ?_
  refine e_L 9 (f' := (90, [(0, .ref 151), (1, .int v1), (3, .int v3)], [.int (2 : Int32), .int v3, .int (((68 : Int32) + ((3 : Int32) * v1)) + v3), .ref 187])) rfl ?_
  refine e_icmp 111 rfl rfl rfl (fun c3 => ?_) (fun c3 => ?_)
  · refine e_L 1 (f' := (112, [(0, .ref 151), (1, .int v1), (3, .int v3)], [.int (0 : Int32), .int (((68 : Int32) + ((3 : Int32) * v1)) + v3), .ref 187])) rfl ?_
    exact qE_sub (qsubL [0, 1, 2] rfl (ks := [0, 1, 3]) rfl (by decide))
  · refine e_L 1 (f' := (94, [(0, .ref 151), (1, .int v1), (3, .int v3)], [.ref 151, .int (((68 : Int32) + ((3 : Int32) * v1)) + v3), .ref 187])) rfl ?_
    refine e_gR (q := 187) 12 57 rfl rfl lc_151 lr_151_57 ?_
    refine e_L 9 (f' := (107, [(0, .ref 151), (1, .int v1), (3, .int v3)], [.int ((((68 : Int32) + ((3 : Int32) * v1)) + v3) + (1 : Int32)), .ref 187, .int (((68 : Int32) + ((3 : Int32) * v1)) + v3), .ref 187])) rfl ?_
    refine qle_gd fun h4 => ?_
    refine e_ial (n := 216) (k := ((((68 : Int32) + ((3 : Int32) * v1)) + v3) + (1 : Int32)).toNatClampNeg) rfl lc_187 ln_187 h4 rfl ?_
    refine e_L 1 (f' := (112, [(0, .ref 151), (1, .int v1), (3, .int v3)], [.int (s2.1 187 ((((68 : Int32) + ((3 : Int32) * v1)) + v3) + (1 : Int32)).toNatClampNeg), .int (((68 : Int32) + ((3 : Int32) * v1)) + v3), .ref 187])) rfl ?_
    exact qE_sub (qsubL [0, 1, 2] rfl (ks := [0, 1, 3]) rfl (by decide))
set_option maxRecDepth 100000 in
set_option maxHeartbeats 4000000 in
theorem le_X12_flush_112 (en : pN) (d : Nat) (v1 : Int32) (v3 : Int32) (vs1 : Int32) (vs2 : Int32) (s : qS) : qle (gd (p_inB vs1 216 = true) (nm (uI s 187 (vs1.toNatClampNeg) vs2) (fun s2 => L_X12_flush_34 en d v1 (v3 + (1 : Int32)) s2))) (L_X12_flush_112 en d v1 v3 vs1 vs2 s) := by
  show qle _ (qE (qev en d) en none tb_X12_flush (112, [(0, .ref 151), (1, .int v1), (3, .int v3)], [.int vs2, .int vs1, .ref 187]) s)
  refine qle_gd fun h1 => ?_
  refine e_ias (n := 216) (k := vs1.toNatClampNeg) rfl lc_187 ln_187 h1 rfl ?_
  refine e_nS fun s2 => ?_
  refine e_L 2 (f' := (34, [(3, .int (v3 + (1 : Int32))), (0, .ref 151), (1, .int v1)], [])) rfl ?_
  exact qE_sub (qsubL [1, 2, 0] rfl (ks := [3, 0, 1]) rfl (by decide))
set_option maxRecDepth 100000 in
set_option maxHeartbeats 4000000 in
theorem le_X12_flush (en : pN) (d : Nat) (a1 : Int32) (s : qS) : qle (gd (p_inB ((56 : Int32) + ((3 : Int32) * a1)) 216 = true) (nm (s.1 187 ((56 : Int32) + ((3 : Int32) * a1)).toNatClampNeg) (fun z2 => gd (p_inB ((68 : Int32) + ((3 : Int32) * a1)) 216 = true) (gd (p_inB ((44 : Int32) + z2) 216 = true) (nm (uI s 187 (((44 : Int32) + z2).toNatClampNeg) (s.1 187 ((68 : Int32) + ((3 : Int32) * a1)).toNatClampNeg)) (fun s5 => L_X12_flush_34 en d a1 (0 : Int32) s5)))))) (qev en (d + 1) 320 [.ref 151, .int a1] s) := by
  refine e_enter ix_X12_flush (Nat.le_of_ble_eq_true rfl) ?_
  show qle _ (qE (qev en d) en none tb_X12_flush (0, [(0, .ref 151), (1, .int a1)], []) s)
  refine e_L 1 (f' := (1, [(0, .ref 151), (1, .int a1)], [.ref 151])) rfl ?_
  refine e_gR (q := 187) 12 57 rfl rfl lc_151 lr_151_57 ?_
  refine e_L 5 (f' := (10, [(0, .ref 151), (1, .int a1)], [.int ((56 : Int32) + ((3 : Int32) * a1)), .ref 187])) rfl ?_
  refine qle_gd fun h1 => ?_
  refine e_ial (n := 216) (k := ((56 : Int32) + ((3 : Int32) * a1)).toNatClampNeg) rfl lc_187 ln_187 h1 rfl ?_
  refine e_nI fun z2 => ?_
  refine e_L 2 (f' := (13, [(2, .int z2), (0, .ref 151), (1, .int a1)], [.ref 151])) rfl ?_
  refine e_gR (q := 187) 12 57 rfl rfl lc_151 lr_151_57 ?_
  refine e_L 4 (f' := (21, [(2, .int z2), (0, .ref 151), (1, .int a1)], [.ref 151, .int ((44 : Int32) + z2), .ref 187])) rfl ?_
  refine e_gR (q := 187) 12 57 rfl rfl lc_151 lr_151_57 ?_
  refine e_L 5 (f' := (30, [(2, .int z2), (0, .ref 151), (1, .int a1)], [.int ((68 : Int32) + ((3 : Int32) * a1)), .ref 187, .int ((44 : Int32) + z2), .ref 187])) rfl ?_
  refine qle_gd fun h3 => ?_
  refine e_ial (n := 216) (k := ((68 : Int32) + ((3 : Int32) * a1)).toNatClampNeg) rfl lc_187 ln_187 h3 rfl ?_
  refine qle_gd fun h4 => ?_
  refine e_ias (n := 216) (k := ((44 : Int32) + z2).toNatClampNeg) rfl lc_187 ln_187 h4 rfl ?_
  refine e_nS fun s5 => ?_
  refine e_L 2 (f' := (34, [(3, .int (0 : Int32)), (2, .int z2), (0, .ref 151), (1, .int a1)], [])) rfl ?_
  exact qE_sub (qsubL [2, 3, 0] rfl (ks := [3, 2, 0, 1]) rfl (by decide))
noncomputable def L_X12_loaded_62 (en : pN) (d : Nat) (v1 : Int32) (v2 : Int32) (v4 : Int32) (v5 : Int32) (s : qS) : Option qR := qE (qev en d) en (some .int) tb_X12_loaded (62, [(0, .ref 151), (1, .int v1), (2, .int v2), (4, .int v4), (5, .int v5)], []) s
set_option maxRecDepth 100000 in
set_option maxHeartbeats 4000000 in
theorem le_X12_loaded_62 (en : pN) (d : Nat) (v1 : Int32) (v2 : Int32) (v4 : Int32) (v5 : Int32) (s : qS) : qle (if (3 : Int32) ≤ v5 then some (some (.int v4), s) else if ¬ (s.1 151 58) = (1 : Int32) then some (some (.int v4), s) else gd (p_inB ((52 : Int32) + v1) 216 = true) (if (s.1 187 ((52 : Int32) + v1).toNatClampNeg) ≤ v5 then L_X12_loaded_62 en d v1 v2 v4 (v5 + (1 : Int32)) s else gd (p_inB (((56 : Int32) + ((3 : Int32) * v1)) + v5) 216 = true) (if ¬ (s.1 187 (((56 : Int32) + ((3 : Int32) * v1)) + v5).toNatClampNeg) = v2 then L_X12_loaded_62 en d v1 v2 v4 (v5 + (1 : Int32)) s else gd (p_inB (((68 : Int32) + ((3 : Int32) * v1)) + v5) 216 = true) (nm (s.1 187 (((68 : Int32) + ((3 : Int32) * v1)) + v5).toNatClampNeg) (fun z8 => L_X12_loaded_62 en d v1 v2 z8 (v5 + (1 : Int32)) s))))) (L_X12_loaded_62 en d v1 v2 v4 v5 s) := by
  show qle _ (qE (qev en d) en (some .int) tb_X12_loaded (62, [(0, .ref 151), (1, .int v1), (2, .int v2), (4, .int v4), (5, .int v5)], []) s)
  refine e_L 2 (f' := (65, [(0, .ref 151), (1, .int v1), (2, .int v2), (4, .int v4), (5, .int v5)], [.int (3 : Int32), .int v5])) rfl ?_
  refine e_icmp 135 rfl rfl rfl (fun c1 => ?_) (fun c1 => ?_)
  · refine e_L 1 (f' := (137, [(0, .ref 151), (1, .int v1), (2, .int v2), (4, .int v4), (5, .int v5)], [.int v4])) rfl ?_
    exact e_rI rfl rfl
  · refine e_L 1 (f' := (69, [(0, .ref 151), (1, .int v1), (2, .int v2), (4, .int v4), (5, .int v5)], [.ref 151])) rfl ?_
    refine e_gI 12 58 rfl rfl lc_151 ?_
    refine e_L 1 (f' := (73, [(0, .ref 151), (1, .int v1), (2, .int v2), (4, .int v4), (5, .int v5)], [.int (1 : Int32), .int (s.1 151 58)])) rfl ?_
    refine e_icmp 135 rfl rfl rfl (fun c2 => ?_) (fun c2 => ?_)
    · refine e_L 1 (f' := (137, [(0, .ref 151), (1, .int v1), (2, .int v2), (4, .int v4), (5, .int v5)], [.int v4])) rfl ?_
      exact e_rI rfl rfl
    · refine e_L 2 (f' := (79, [(0, .ref 151), (1, .int v1), (2, .int v2), (4, .int v4), (5, .int v5)], [.ref 151, .int v5])) rfl ?_
      refine e_gR (q := 187) 12 57 rfl rfl lc_151 lr_151_57 ?_
      refine e_L 3 (f' := (86, [(0, .ref 151), (1, .int v1), (2, .int v2), (4, .int v4), (5, .int v5)], [.int ((52 : Int32) + v1), .ref 187, .int v5])) rfl ?_
      refine qle_gd fun h3 => ?_
      refine e_ial (n := 216) (k := ((52 : Int32) + v1).toNatClampNeg) rfl lc_187 ln_187 h3 rfl ?_
      refine e_icmp 125 rfl rfl rfl (fun c4 => ?_) (fun c4 => ?_)
      · refine e_L 4 (f' := (62, [(5, .int (v5 + (1 : Int32))), (4, .int v4), (0, .ref 151), (1, .int v1), (2, .int v2)], [])) rfl ?_
        exact qE_sub (qsubL [2, 3, 4, 1, 0] rfl (ks := [5, 4, 0, 1, 2]) rfl (by decide))
      · refine e_L 1 (f' := (91, [(0, .ref 151), (1, .int v1), (2, .int v2), (4, .int v4), (5, .int v5)], [.ref 151])) rfl ?_
        refine e_gR (q := 187) 12 57 rfl rfl lc_151 lr_151_57 ?_
        refine e_L 7 (f' := (103, [(0, .ref 151), (1, .int v1), (2, .int v2), (4, .int v4), (5, .int v5)], [.int (((56 : Int32) + ((3 : Int32) * v1)) + v5), .ref 187])) rfl ?_
        refine qle_gd fun h5 => ?_
        refine e_ial (n := 216) (k := (((56 : Int32) + ((3 : Int32) * v1)) + v5).toNatClampNeg) rfl lc_187 ln_187 h5 rfl ?_
        refine e_L 1 (f' := (105, [(0, .ref 151), (1, .int v1), (2, .int v2), (4, .int v4), (5, .int v5)], [.int v2, .int (s.1 187 (((56 : Int32) + ((3 : Int32) * v1)) + v5).toNatClampNeg)])) rfl ?_
        refine e_icmp 125 rfl rfl rfl (fun c6 => ?_) (fun c6 => ?_)
        · refine e_L 4 (f' := (62, [(5, .int (v5 + (1 : Int32))), (4, .int v4), (0, .ref 151), (1, .int v1), (2, .int v2)], [])) rfl ?_
          exact qE_sub (qsubL [2, 3, 4, 1, 0] rfl (ks := [5, 4, 0, 1, 2]) rfl (by decide))
        · refine e_L 1 (f' := (109, [(0, .ref 151), (1, .int v1), (2, .int v2), (4, .int v4), (5, .int v5)], [.ref 151])) rfl ?_
          refine e_gR (q := 187) 12 57 rfl rfl lc_151 lr_151_57 ?_
          refine e_L 7 (f' := (121, [(0, .ref 151), (1, .int v1), (2, .int v2), (4, .int v4), (5, .int v5)], [.int (((68 : Int32) + ((3 : Int32) * v1)) + v5), .ref 187])) rfl ?_
          refine qle_gd fun h7 => ?_
          refine e_ial (n := 216) (k := (((68 : Int32) + ((3 : Int32) * v1)) + v5).toNatClampNeg) rfl lc_187 ln_187 h7 rfl ?_
          refine e_L 1 (f' := (127, [(0, .ref 151), (1, .int v1), (2, .int v2), (4, .int v4), (5, .int v5)], [.int (s.1 187 (((68 : Int32) + ((3 : Int32) * v1)) + v5).toNatClampNeg)])) rfl ?_
          refine e_nI fun z8 => ?_
          refine e_L 3 (f' := (62, [(5, .int (v5 + (1 : Int32))), (4, .int z8), (0, .ref 151), (1, .int v1), (2, .int v2)], [])) rfl ?_
          exact qE_sub (qsubL [2, 3, 4, 1, 0] rfl (ks := [5, 4, 0, 1, 2]) rfl (by decide))
set_option maxRecDepth 100000 in
set_option maxHeartbeats 4000000 in
theorem le_X12_loaded (en : pN) (d : Nat) (a1 : Int32) (a2 : Int32) (a3 : Int32) (s : qS) : qle (gd (p_inB ((44 : Int32) + a2) 216 = true) (nm (s.1 187 ((44 : Int32) + a2).toNatClampNeg) (fun z2 => if ¬ (s.1 151 58) = (2 : Int32) then L_X12_loaded_62 en d a1 a2 z2 (0 : Int32) s else gd (p_inB a2 8 = true) (if ¬ (s.1 155 a2.toNatClampNeg) = (0 : Int32) then L_X12_loaded_62 en d a1 a2 z2 (0 : Int32) s else gd (p_inB ((204 : Int32) + a1) 216 = true) (bI (qev en d 304 [.int (s.1 187 ((204 : Int32) + a1).toNatClampNeg), .int a2] s) (fun w7 s8 => gd (p_inB ((((60 : Int32) + ((9 : Int32) * a2)) + w7) + a3) 216 = true) (nm (s8.1 187 ((((60 : Int32) + ((9 : Int32) * a2)) + w7) + a3).toNatClampNeg) (fun z11 => L_X12_loaded_62 en d a1 a2 z11 (0 : Int32) s8)))))))) (qev en (d + 1) 321 [.ref 151, .int a1, .int a2, .int a3] s) := by
  refine e_enter ix_X12_loaded (Nat.le_of_ble_eq_true rfl) ?_
  show qle _ (qE (qev en d) en (some .int) tb_X12_loaded (0, [(0, .ref 151), (1, .int a1), (2, .int a2), (3, .int a3)], []) s)
  refine e_L 1 (f' := (1, [(0, .ref 151), (1, .int a1), (2, .int a2), (3, .int a3)], [.ref 151])) rfl ?_
  refine e_gR (q := 187) 12 57 rfl rfl lc_151 lr_151_57 ?_
  refine e_L 3 (f' := (8, [(0, .ref 151), (1, .int a1), (2, .int a2), (3, .int a3)], [.int ((44 : Int32) + a2), .ref 187])) rfl ?_
  refine qle_gd fun h1 => ?_
  refine e_ial (n := 216) (k := ((44 : Int32) + a2).toNatClampNeg) rfl lc_187 ln_187 h1 rfl ?_
  refine e_nI fun z2 => ?_
  refine e_L 2 (f' := (12, [(4, .int z2), (0, .ref 151), (1, .int a1), (2, .int a2), (3, .int a3)], [.ref 151])) rfl ?_
  refine e_gI 12 58 rfl rfl lc_151 ?_
  refine e_L 1 (f' := (16, [(4, .int z2), (0, .ref 151), (1, .int a1), (2, .int a2), (3, .int a3)], [.int (2 : Int32), .int (s.1 151 58)])) rfl ?_
  refine e_icmp 59 rfl rfl rfl (fun c3 => ?_) (fun c3 => ?_)
  · refine e_L 2 (f' := (62, [(5, .int (0 : Int32)), (4, .int z2), (0, .ref 151), (1, .int a1), (2, .int a2), (3, .int a3)], [])) rfl ?_
    exact qE_sub (qsubL [2, 3, 4, 1, 0] rfl (ks := [5, 4, 0, 1, 2, 3]) rfl (by decide))
  · refine e_L 1 (f' := (20, [(4, .int z2), (0, .ref 151), (1, .int a1), (2, .int a2), (3, .int a3)], [.ref 151])) rfl ?_
    refine e_gR (q := 155) 12 15 rfl rfl lc_151 lr_151_15 ?_
    refine e_L 1 (f' := (24, [(4, .int z2), (0, .ref 151), (1, .int a1), (2, .int a2), (3, .int a3)], [.int a2, .ref 155])) rfl ?_
    refine qle_gd fun h4 => ?_
    refine e_bal (n := 8) (k := a2.toNatClampNeg) rfl (Or.inl lc_155) ln_155 h4 rfl ?_
    refine e_ifz 59 rfl rfl rfl (fun c5 => ?_) (fun c5 => ?_)
    · refine e_L 2 (f' := (62, [(5, .int (0 : Int32)), (4, .int z2), (0, .ref 151), (1, .int a1), (2, .int a2), (3, .int a3)], [])) rfl ?_
      exact qE_sub (qsubL [2, 3, 4, 1, 0] rfl (ks := [5, 4, 0, 1, 2, 3]) rfl (by decide))
    · refine e_L 1 (f' := (29, [(4, .int z2), (0, .ref 151), (1, .int a1), (2, .int a2), (3, .int a3)], [.ref 151])) rfl ?_
      refine e_gR (q := 187) 12 57 rfl rfl lc_151 lr_151_57 ?_
      refine e_L 6 (f' := (40, [(4, .int z2), (0, .ref 151), (1, .int a1), (2, .int a2), (3, .int a3)], [.ref 151, .int ((60 : Int32) + ((9 : Int32) * a2)), .ref 187])) rfl ?_
      refine e_gR (q := 187) 12 57 rfl rfl lc_151 lr_151_57 ?_
      refine e_L 3 (f' := (48, [(4, .int z2), (0, .ref 151), (1, .int a1), (2, .int a2), (3, .int a3)], [.int ((204 : Int32) + a1), .ref 187, .int ((60 : Int32) + ((9 : Int32) * a2)), .ref 187])) rfl ?_
      refine qle_gd fun h6 => ?_
      refine e_ial (n := 216) (k := ((204 : Int32) + a1).toNatClampNeg) rfl lc_187 ln_187 h6 rfl ?_
      refine e_L 1 (f' := (50, [(4, .int z2), (0, .ref 151), (1, .int a1), (2, .int a2), (3, .int a3)], [.int a2, .int (s.1 187 ((204 : Int32) + a1).toNatClampNeg), .int ((60 : Int32) + ((9 : Int32) * a2)), .ref 187])) rfl ?_
      refine e_sI 304 rfl rfl rfl ix_X12_viewOf rfl (Nat.le_of_ble_eq_true rfl) (fun w7 s8 e9 => ?_)
      refine e_L 3 (f' := (56, [(4, .int z2), (0, .ref 151), (1, .int a1), (2, .int a2), (3, .int a3)], [.int ((((60 : Int32) + ((9 : Int32) * a2)) + w7) + a3), .ref 187])) rfl ?_
      refine qle_gd fun h10 => ?_
      refine e_ial (n := 216) (k := ((((60 : Int32) + ((9 : Int32) * a2)) + w7) + a3).toNatClampNeg) rfl lc_187 ln_187 h10 rfl ?_
      refine e_nI fun z11 => ?_
      refine e_L 3 (f' := (62, [(5, .int (0 : Int32)), (4, .int z11), (0, .ref 151), (1, .int a1), (2, .int a2), (3, .int a3)], [])) rfl ?_
      exact qE_sub (qsubL [2, 3, 4, 1, 0] rfl (ks := [5, 4, 0, 1, 2, 3]) rfl (by decide))
noncomputable def L_X12_storeNow_98 (en : pN) (d : Nat) (v2 : Int32) (v3 : Int32) (s : qS) : Option qR := qE (qev en d) en none tb_X12_storeNow (98, [(0, .ref 151), (2, .int v2), (3, .int v3)], []) s
set_option maxRecDepth 100000 in
set_option maxHeartbeats 4000000 in
theorem le_X12_storeNow_98 (en : pN) (d : Nat) (v2 : Int32) (v3 : Int32) (s : qS) : qle (gd (p_inB ((44 : Int32) + v2) 216 = true) (nm (uI s 187 (((44 : Int32) + v2).toNatClampNeg) v3) (fun s2 => some (none, s2)))) (L_X12_storeNow_98 en d v2 v3 s) := by
  show qle _ (qE (qev en d) en none tb_X12_storeNow (98, [(0, .ref 151), (2, .int v2), (3, .int v3)], []) s)
  refine e_L 1 (f' := (99, [(0, .ref 151), (2, .int v2), (3, .int v3)], [.ref 151])) rfl ?_
  refine e_gR (q := 187) 12 57 rfl rfl lc_151 lr_151_57 ?_
  refine e_L 4 (f' := (107, [(0, .ref 151), (2, .int v2), (3, .int v3)], [.int v3, .int ((44 : Int32) + v2), .ref 187])) rfl ?_
  refine qle_gd fun h1 => ?_
  refine e_ias (n := 216) (k := ((44 : Int32) + v2).toNatClampNeg) rfl lc_187 ln_187 h1 rfl ?_
  refine e_nS fun s2 => ?_
  exact e_rV rfl rfl
set_option maxRecDepth 100000 in
set_option maxHeartbeats 4000000 in
theorem le_X12_storeNow (en : pN) (d : Nat) (a1 : Int32) (a2 : Int32) (a3 : Int32) (s : qS) : qle (if ¬ (s.1 151 58) = (2 : Int32) then if ¬ (s.1 151 58) = (1 : Int32) then L_X12_storeNow_98 en d a2 a3 s else gd (p_inB a2 8 = true) (if ¬ (s.1 155 a2.toNatClampNeg) = (0 : Int32) then L_X12_storeNow_98 en d a2 a3 s else gd (p_inB ((52 : Int32) + a1) 216 = true) (nm (s.1 187 ((52 : Int32) + a1).toNatClampNeg) (fun z6 => gd (p_inB (((56 : Int32) + ((3 : Int32) * a1)) + z6) 216 = true) (nm (uI s 187 ((((56 : Int32) + ((3 : Int32) * a1)) + z6).toNatClampNeg) a2) (fun s8 => gd (p_inB (((68 : Int32) + ((3 : Int32) * a1)) + z6) 216 = true) (nm (uI s8 187 ((((68 : Int32) + ((3 : Int32) * a1)) + z6).toNatClampNeg) a3) (fun s10 => nm (uI s10 187 (((52 : Int32) + a1).toNatClampNeg) ((s10.1 187 ((52 : Int32) + a1).toNatClampNeg) + (1 : Int32))) (fun s11 => some (none, s11))))))))) else gd (p_inB a2 8 = true) (bV (qev en d 308 [.ref 151, .int a1, .int a2, .int a3, .int (s.1 155 a2.toNatClampNeg)] s) (fun s14 => some (none, s14)))) (qev en (d + 1) 322 [.ref 151, .int a1, .int a2, .int a3] s) := by
  refine e_enter ix_X12_storeNow (Nat.le_of_ble_eq_true rfl) ?_
  show qle _ (qE (qev en d) en none tb_X12_storeNow (0, [(0, .ref 151), (1, .int a1), (2, .int a2), (3, .int a3)], []) s)
  refine e_L 1 (f' := (1, [(0, .ref 151), (1, .int a1), (2, .int a2), (3, .int a3)], [.ref 151])) rfl ?_
  refine e_gI 12 58 rfl rfl lc_151 ?_
  refine e_L 1 (f' := (5, [(0, .ref 151), (1, .int a1), (2, .int a2), (3, .int a3)], [.int (2 : Int32), .int (s.1 151 58)])) rfl ?_
  refine e_icmp 24 rfl rfl rfl (fun c1 => ?_) (fun c1 => ?_)
  · refine e_L 1 (f' := (25, [(0, .ref 151), (1, .int a1), (2, .int a2), (3, .int a3)], [.ref 151])) rfl ?_
    refine e_gI 12 58 rfl rfl lc_151 ?_
    refine e_L 1 (f' := (29, [(0, .ref 151), (1, .int a1), (2, .int a2), (3, .int a3)], [.int (1 : Int32), .int (s.1 151 58)])) rfl ?_
    refine e_icmp 98 rfl rfl rfl (fun c2 => ?_) (fun c2 => ?_)
    · exact qE_sub (qsubL [0, 2, 3] rfl (ks := [0, 1, 2, 3]) rfl (by decide))
    · refine e_L 1 (f' := (33, [(0, .ref 151), (1, .int a1), (2, .int a2), (3, .int a3)], [.ref 151])) rfl ?_
      refine e_gR (q := 155) 12 15 rfl rfl lc_151 lr_151_15 ?_
      refine e_L 1 (f' := (37, [(0, .ref 151), (1, .int a1), (2, .int a2), (3, .int a3)], [.int a2, .ref 155])) rfl ?_
      refine qle_gd fun h3 => ?_
      refine e_bal (n := 8) (k := a2.toNatClampNeg) rfl (Or.inl lc_155) ln_155 h3 rfl ?_
      refine e_ifz 98 rfl rfl rfl (fun c4 => ?_) (fun c4 => ?_)
      · exact qE_sub (qsubL [0, 2, 3] rfl (ks := [0, 1, 2, 3]) rfl (by decide))
      · refine e_L 1 (f' := (42, [(0, .ref 151), (1, .int a1), (2, .int a2), (3, .int a3)], [.ref 151])) rfl ?_
        refine e_gR (q := 187) 12 57 rfl rfl lc_151 lr_151_57 ?_
        refine e_L 3 (f' := (49, [(0, .ref 151), (1, .int a1), (2, .int a2), (3, .int a3)], [.int ((52 : Int32) + a1), .ref 187])) rfl ?_
        refine qle_gd fun h5 => ?_
        refine e_ial (n := 216) (k := ((52 : Int32) + a1).toNatClampNeg) rfl lc_187 ln_187 h5 rfl ?_
        refine e_nI fun z6 => ?_
        refine e_L 2 (f' := (53, [(4, .int z6), (0, .ref 151), (1, .int a1), (2, .int a2), (3, .int a3)], [.ref 151])) rfl ?_
        refine e_gR (q := 187) 12 57 rfl rfl lc_151 lr_151_57 ?_
        refine e_L 8 (f' := (66, [(4, .int z6), (0, .ref 151), (1, .int a1), (2, .int a2), (3, .int a3)], [.int a2, .int (((56 : Int32) + ((3 : Int32) * a1)) + z6), .ref 187])) rfl ?_
        refine qle_gd fun h7 => ?_
        refine e_ias (n := 216) (k := (((56 : Int32) + ((3 : Int32) * a1)) + z6).toNatClampNeg) rfl lc_187 ln_187 h7 rfl ?_
        refine e_nS fun s8 => ?_
        refine e_L 1 (f' := (68, [(4, .int z6), (0, .ref 151), (1, .int a1), (2, .int a2), (3, .int a3)], [.ref 151])) rfl ?_
        refine e_gR (q := 187) 12 57 rfl rfl lc_151 lr_151_57 ?_
        refine e_L 8 (f' := (81, [(4, .int z6), (0, .ref 151), (1, .int a1), (2, .int a2), (3, .int a3)], [.int a3, .int (((68 : Int32) + ((3 : Int32) * a1)) + z6), .ref 187])) rfl ?_
        refine qle_gd fun h9 => ?_
        refine e_ias (n := 216) (k := (((68 : Int32) + ((3 : Int32) * a1)) + z6).toNatClampNeg) rfl lc_187 ln_187 h9 rfl ?_
        refine e_nS fun s10 => ?_
        refine e_L 1 (f' := (83, [(4, .int z6), (0, .ref 151), (1, .int a1), (2, .int a2), (3, .int a3)], [.ref 151])) rfl ?_
        refine e_gR (q := 187) 12 57 rfl rfl lc_151 lr_151_57 ?_
        refine e_L 4 (f' := (91, [(4, .int z6), (0, .ref 151), (1, .int a1), (2, .int a2), (3, .int a3)], [.int ((52 : Int32) + a1), .ref 187, .int ((52 : Int32) + a1), .ref 187])) rfl ?_
        refine e_ial (n := 216) (k := ((52 : Int32) + a1).toNatClampNeg) rfl lc_187 ln_187 h5 rfl ?_
        refine e_L 2 (f' := (94, [(4, .int z6), (0, .ref 151), (1, .int a1), (2, .int a2), (3, .int a3)], [.int ((s10.1 187 ((52 : Int32) + a1).toNatClampNeg) + (1 : Int32)), .int ((52 : Int32) + a1), .ref 187])) rfl ?_
        refine e_ias (n := 216) (k := ((52 : Int32) + a1).toNatClampNeg) rfl lc_187 ln_187 h5 rfl ?_
        refine e_nS fun s11 => ?_
        refine e_L 1 (f' := (108, [(4, .int z6), (0, .ref 151), (1, .int a1), (2, .int a2), (3, .int a3)], [])) rfl ?_
        exact e_rV rfl rfl
  · refine e_L 5 (f' := (13, [(0, .ref 151), (1, .int a1), (2, .int a2), (3, .int a3)], [.ref 151, .int a3, .int a2, .int a1, .ref 151])) rfl ?_
    refine e_gR (q := 155) 12 15 rfl rfl lc_151 lr_151_15 ?_
    refine e_L 1 (f' := (17, [(0, .ref 151), (1, .int a1), (2, .int a2), (3, .int a3)], [.int a2, .ref 155, .int a3, .int a2, .int a1, .ref 151])) rfl ?_
    refine qle_gd fun h12 => ?_
    refine e_bal (n := 8) (k := a2.toNatClampNeg) rfl (Or.inl lc_155) ln_155 h12 rfl ?_
    refine e_vV 308 rfl rfl ix_X12_write rfl (q_recvOf lc_151 rfl) (Nat.le_of_ble_eq_true rfl) (fun s14 e15 => ?_)
    refine e_L 1 (f' := (108, [(0, .ref 151), (1, .int a1), (2, .int a2), (3, .int a3)], [])) rfl ?_
    exact e_rV rfl rfl
set_option maxRecDepth 100000 in
set_option maxHeartbeats 4000000 in
theorem le_X12_setLocal (en : pN) (d : Nat) (a1 : Int32) (a2 : Int32) (a3 : Int32) (s : qS) : qle (gd (p_inB a2 400 = true) (if (s.1 167 a2.toNatClampNeg) < (0 : Int32) then some (none, s) else gd (p_inB (((12 : Int32) + ((6 : Int32) * a1)) + (s.1 167 a2.toNatClampNeg)) 216 = true) (nm (uI s 187 ((((12 : Int32) + ((6 : Int32) * a1)) + (s.1 167 a2.toNatClampNeg)).toNatClampNeg) a3) (fun s4 => some (none, s4))))) (qev en (d + 1) 323 [.ref 151, .int a1, .int a2, .int a3] s) := by
  refine e_enter ix_X12_setLocal (Nat.le_of_ble_eq_true rfl) ?_
  show qle _ (qE (qev en d) en none tb_X12_setLocal (0, [(0, .ref 151), (1, .int a1), (2, .int a2), (3, .int a3)], []) s)
  refine e_L 1 (f' := (1, [(0, .ref 151), (1, .int a1), (2, .int a2), (3, .int a3)], [.ref 151])) rfl ?_
  refine e_gR (q := 167) 12 36 rfl rfl lc_151 lr_151_36 ?_
  refine e_L 1 (f' := (5, [(0, .ref 151), (1, .int a1), (2, .int a2), (3, .int a3)], [.int a2, .ref 167])) rfl ?_
  refine qle_gd fun h1 => ?_
  refine e_ial (n := 400) (k := a2.toNatClampNeg) rfl lc_167 ln_167 h1 rfl ?_
  refine e_ifz 29 rfl rfl rfl (fun c2 => ?_) (fun c2 => ?_)
  · exact e_rV rfl rfl
  · refine e_L 1 (f' := (10, [(0, .ref 151), (1, .int a1), (2, .int a2), (3, .int a3)], [.ref 151])) rfl ?_
    refine e_gR (q := 187) 12 57 rfl rfl lc_151 lr_151_57 ?_
    refine e_L 6 (f' := (21, [(0, .ref 151), (1, .int a1), (2, .int a2), (3, .int a3)], [.ref 151, .int ((12 : Int32) + ((6 : Int32) * a1)), .ref 187])) rfl ?_
    refine e_gR (q := 167) 12 36 rfl rfl lc_151 lr_151_36 ?_
    refine e_L 1 (f' := (25, [(0, .ref 151), (1, .int a1), (2, .int a2), (3, .int a3)], [.int a2, .ref 167, .int ((12 : Int32) + ((6 : Int32) * a1)), .ref 187])) rfl ?_
    refine e_ial (n := 400) (k := a2.toNatClampNeg) rfl lc_167 ln_167 h1 rfl ?_
    refine e_L 2 (f' := (28, [(0, .ref 151), (1, .int a1), (2, .int a2), (3, .int a3)], [.int a3, .int (((12 : Int32) + ((6 : Int32) * a1)) + (s.1 167 a2.toNatClampNeg)), .ref 187])) rfl ?_
    refine qle_gd fun h3 => ?_
    refine e_ias (n := 216) (k := (((12 : Int32) + ((6 : Int32) * a1)) + (s.1 167 a2.toNatClampNeg)).toNatClampNeg) rfl lc_187 ln_187 h3 rfl ?_
    refine e_nS fun s4 => ?_
    exact e_rV rfl rfl
noncomputable def L_X12_doStep_229 (en : pN) (d : Nat) (v1 : Int32) (s : qS) : Option qR := qE (qev en d) en none tb_X12_doStep (229, [(0, .ref 151), (1, .int v1)], []) s
noncomputable def L_X12_doStep_426 (en : pN) (d : Nat) (v1 : Int32) (v3 : Int32) (v5 : Int32) (v8 : Int32) (s : qS) : Option qR := qE (qev en d) en none tb_X12_doStep (426, [(0, .ref 151), (1, .int v1), (3, .int v3), (5, .int v5), (8, .int v8)], []) s
noncomputable def L_X12_doStep_449 (en : pN) (d : Nat) (v1 : Int32) (v3 : Int32) (v5 : Int32) (v7 : Int32) (s : qS) : Option qR := qE (qev en d) en none tb_X12_doStep (449, [(0, .ref 151), (1, .int v1), (3, .int v3), (5, .int v5), (7, .int v7)], []) s
noncomputable def L_X12_doStep_558 (en : pN) (d : Nat) (v1 : Int32) (v3 : Int32) (v5 : Int32) (s : qS) : Option qR := qE (qev en d) en none tb_X12_doStep (558, [(0, .ref 151), (1, .int v1), (3, .int v3), (5, .int v5)], []) s
noncomputable def L_X12_doStep_570 (en : pN) (d : Nat) (v1 : Int32) (v2 : Int32) (v3 : Int32) (v5 : Int32) (s : qS) : Option qR := qE (qev en d) en none tb_X12_doStep (570, [(0, .ref 151), (1, .int v1), (2, .int v2), (3, .int v3), (5, .int v5)], []) s
noncomputable def L_X12_doStep_577 (en : pN) (d : Nat) (v1 : Int32) (v3 : Int32) (v5 : Int32) (s : qS) : Option qR := qE (qev en d) en none tb_X12_doStep (577, [(0, .ref 151), (1, .int v1), (3, .int v3), (5, .int v5)], []) s
noncomputable def L_X12_doStep_642 (en : pN) (d : Nat) (v1 : Int32) (v3 : Int32) (vs0 : Int32) (s : qS) : Option qR := qE (qev en d) en none tb_X12_doStep (642, [(0, .ref 151), (1, .int v1), (3, .int v3)], [.int vs0]) s
noncomputable def L_X12_doStep_664 (en : pN) (d : Nat) (vs1 : Int32) (vs2 : Int32) (s : qS) : Option qR := qE (qev en d) en none tb_X12_doStep (664, [], [.int vs2, .int vs1, .ref 151]) s
noncomputable def L_X12_doStep_721 (en : pN) (d : Nat) (vs1 : Int32) (vs2 : Int32) (s : qS) : Option qR := qE (qev en d) en none tb_X12_doStep (721, [], [.int vs2, .int vs1, .ref 151]) s
set_option maxRecDepth 100000 in
set_option maxHeartbeats 4000000 in
theorem le_X12_doStep_229 (en : pN) (d : Nat) (v1 : Int32) (s : qS) : qle (bV (qev en d 317 [.ref 151, .int v1, .int (1 : Int32)] s) (fun s2 => some (none, s2))) (L_X12_doStep_229 en d v1 s) := by
  show qle _ (qE (qev en d) en none tb_X12_doStep (229, [(0, .ref 151), (1, .int v1)], []) s)
  refine e_L 3 (f' := (232, [(0, .ref 151), (1, .int v1)], [.int (1 : Int32), .int v1, .ref 151])) rfl ?_
  refine e_vV 317 rfl rfl ix_X12_goWrong rfl (q_recvOf lc_151 rfl) (Nat.le_of_ble_eq_true rfl) (fun s2 e3 => ?_)
  exact e_rV rfl rfl
set_option maxRecDepth 100000 in
set_option maxHeartbeats 4000000 in
theorem le_X12_doStep_426 (en : pN) (d : Nat) (v1 : Int32) (v3 : Int32) (v5 : Int32) (v8 : Int32) (s : qS) : qle (bV (qev en d 323 [.ref 151, .int v1, .int v3, .int v8] s) (fun s2 => L_X12_doStep_577 en d v1 v3 v5 s2)) (L_X12_doStep_426 en d v1 v3 v5 v8 s) := by
  show qle _ (qE (qev en d) en none tb_X12_doStep (426, [(0, .ref 151), (1, .int v1), (3, .int v3), (5, .int v5), (8, .int v8)], []) s)
  refine e_L 4 (f' := (431, [(0, .ref 151), (1, .int v1), (3, .int v3), (5, .int v5), (8, .int v8)], [.int v8, .int v3, .int v1, .ref 151])) rfl ?_
  refine e_vV 323 rfl rfl ix_X12_setLocal rfl (q_recvOf lc_151 rfl) (Nat.le_of_ble_eq_true rfl) (fun s2 e3 => ?_)
  refine e_L 1 (f' := (577, [(0, .ref 151), (1, .int v1), (3, .int v3), (5, .int v5), (8, .int v8)], [])) rfl ?_
  exact qE_sub (qsubL [0, 1, 2, 3] rfl (ks := [0, 1, 3, 5, 8]) rfl (by decide))
set_option maxRecDepth 100000 in
set_option maxHeartbeats 4000000 in
theorem le_X12_doStep_449 (en : pN) (d : Nat) (v1 : Int32) (v3 : Int32) (v5 : Int32) (v7 : Int32) (s : qS) : qle (bV (qev en d 325 [.ref 151, .int v1, .int v3, .int v5, .int v7] s) (fun s2 => L_X12_doStep_577 en d v1 v3 v5 s2)) (L_X12_doStep_449 en d v1 v3 v5 v7 s) := by
  show qle _ (qE (qev en d) en none tb_X12_doStep (449, [(0, .ref 151), (1, .int v1), (3, .int v3), (5, .int v5), (7, .int v7)], []) s)
  refine e_L 5 (f' := (456, [(0, .ref 151), (1, .int v1), (3, .int v3), (5, .int v5), (7, .int v7)], [.int v7, .int v5, .int v3, .int v1, .ref 151])) rfl ?_
  refine e_vV 325 rfl rfl ix_X12_atOnce rfl (q_recvOf lc_151 rfl) (Nat.le_of_ble_eq_true rfl) (fun s2 e3 => ?_)
  refine e_L 1 (f' := (577, [(0, .ref 151), (1, .int v1), (3, .int v3), (5, .int v5), (7, .int v7)], [])) rfl ?_
  exact qE_sub (qsubL [0, 1, 2, 3] rfl (ks := [0, 1, 3, 5, 7]) rfl (by decide))
set_option maxRecDepth 100000 in
set_option maxHeartbeats 4000000 in
theorem le_X12_doStep_558 (en : pN) (d : Nat) (v1 : Int32) (v3 : Int32) (v5 : Int32) (s : qS) : qle (nm (uI s 151 71 v5) (fun s1 => L_X12_doStep_577 en d v1 v3 v5 s1)) (L_X12_doStep_558 en d v1 v3 v5 s) := by
  show qle _ (qE (qev en d) en none tb_X12_doStep (558, [(0, .ref 151), (1, .int v1), (3, .int v3), (5, .int v5)], []) s)
  refine e_L 2 (f' := (561, [(0, .ref 151), (1, .int v1), (3, .int v3), (5, .int v5)], [.int v5, .ref 151])) rfl ?_
  refine e_pI 12 71 rfl rfl lc_151 rfl ?_
  refine e_nS fun s1 => ?_
  refine e_L 1 (f' := (577, [(0, .ref 151), (1, .int v1), (3, .int v3), (5, .int v5)], [])) rfl ?_
  exact qE_sub (qsubL [0, 1, 2, 3] rfl (ks := [0, 1, 3, 5]) rfl (by decide))
set_option maxRecDepth 100000 in
set_option maxHeartbeats 4000000 in
theorem le_X12_doStep_570 (en : pN) (d : Nat) (v1 : Int32) (v2 : Int32) (v3 : Int32) (v5 : Int32) (s : qS) : qle (bV (qev en d 327 [.ref 151, .int v1, .int v3, .int v2] s) (fun s2 => L_X12_doStep_577 en d v1 v3 v5 s2)) (L_X12_doStep_570 en d v1 v2 v3 v5 s) := by
  show qle _ (qE (qev en d) en none tb_X12_doStep (570, [(0, .ref 151), (1, .int v1), (2, .int v2), (3, .int v3), (5, .int v5)], []) s)
  refine e_L 4 (f' := (574, [(0, .ref 151), (1, .int v1), (2, .int v2), (3, .int v3), (5, .int v5)], [.int v2, .int v3, .int v1, .ref 151])) rfl ?_
  refine e_vV 327 rfl rfl ix_X12_doLock rfl (q_recvOf lc_151 rfl) (Nat.le_of_ble_eq_true rfl) (fun s2 e3 => ?_)
  exact qE_sub (qsubL [0, 1, 3, 4] rfl (ks := [0, 1, 2, 3, 5]) rfl (by decide))
set_option maxRecDepth 100000 in
set_option maxHeartbeats 4000000 in
theorem le_X12_doStep_577 (en : pN) (d : Nat) (v1 : Int32) (v3 : Int32) (v5 : Int32) (s : qS) : qle (gd (p_inB ((0 : Int32) + v1) 216 = true) (if (s.1 187 ((0 : Int32) + v1).toNatClampNeg) = (1 : Int32) then gd (p_inB v3 400 = true) (if ¬ (s.1 164 v3.toNatClampNeg) = (13 : Int32) then if ¬ (s.1 164 v3.toNatClampNeg) = (17 : Int32) then if ¬ (s.1 164 v3.toNatClampNeg) = (18 : Int32) then bV (qev en d 302 [.ref 151, .int v1, .int (s.1 174 v3.toNatClampNeg)] s) (fun s8 => some (none, s8)) else if ¬ v5 = (0 : Int32) then if ¬ (s.1 172 v3.toNatClampNeg) = (-2 : Int32) then L_X12_doStep_721 en d v1 (s.1 172 v3.toNatClampNeg) s else L_X12_doStep_721 en d v1 (s.1 151 68) s else L_X12_doStep_721 en d v1 (s.1 174 v3.toNatClampNeg) s else if v5 = (0 : Int32) then L_X12_doStep_642 en d v1 v3 (s.1 173 v3.toNatClampNeg) s else L_X12_doStep_642 en d v1 v3 (s.1 172 v3.toNatClampNeg) s else bV (qev en d 302 [.ref 151, .int v1, .int (-2 : Int32)] s) (fun s14 => some (none, s14))) else some (none, s))) (L_X12_doStep_577 en d v1 v3 v5 s) := by
  show qle _ (qE (qev en d) en none tb_X12_doStep (577, [(0, .ref 151), (1, .int v1), (3, .int v3), (5, .int v5)], []) s)
  refine e_L 1 (f' := (578, [(0, .ref 151), (1, .int v1), (3, .int v3), (5, .int v5)], [.ref 151])) rfl ?_
  refine e_gR (q := 187) 12 57 rfl rfl lc_151 lr_151_57 ?_
  refine e_L 3 (f' := (584, [(0, .ref 151), (1, .int v1), (3, .int v3), (5, .int v5)], [.int ((0 : Int32) + v1), .ref 187])) rfl ?_
  refine qle_gd fun h1 => ?_
  refine e_ial (n := 216) (k := ((0 : Int32) + v1).toNatClampNeg) rfl lc_187 ln_187 h1 rfl ?_
  refine e_L 1 (f' := (586, [(0, .ref 151), (1, .int v1), (3, .int v3), (5, .int v5)], [.int (1 : Int32), .int (s.1 187 ((0 : Int32) + v1).toNatClampNeg)])) rfl ?_
  refine e_icmp 590 rfl rfl rfl (fun c2 => ?_) (fun c2 => ?_)
  · refine e_L 1 (f' := (591, [(0, .ref 151), (1, .int v1), (3, .int v3), (5, .int v5)], [.ref 151])) rfl ?_
    refine e_gR (q := 164) 12 33 rfl rfl lc_151 lr_151_33 ?_
    refine e_L 1 (f' := (595, [(0, .ref 151), (1, .int v1), (3, .int v3), (5, .int v5)], [.int v3, .ref 164])) rfl ?_
    refine qle_gd fun h3 => ?_
    refine e_ial (n := 400) (k := v3.toNatClampNeg) rfl lc_164 ln_164 h3 rfl ?_
    refine e_L 1 (f' := (598, [(0, .ref 151), (1, .int v1), (3, .int v3), (5, .int v5)], [.int (13 : Int32), .int (s.1 164 v3.toNatClampNeg)])) rfl ?_
    refine e_icmp 611 rfl rfl rfl (fun c4 => ?_) (fun c4 => ?_)
    · refine e_L 1 (f' := (612, [(0, .ref 151), (1, .int v1), (3, .int v3), (5, .int v5)], [.ref 151])) rfl ?_
      refine e_gR (q := 164) 12 33 rfl rfl lc_151 lr_151_33 ?_
      refine e_L 1 (f' := (616, [(0, .ref 151), (1, .int v1), (3, .int v3), (5, .int v5)], [.int v3, .ref 164])) rfl ?_
      refine e_ial (n := 400) (k := v3.toNatClampNeg) rfl lc_164 ln_164 h3 rfl ?_
      refine e_L 1 (f' := (619, [(0, .ref 151), (1, .int v1), (3, .int v3), (5, .int v5)], [.int (17 : Int32), .int (s.1 164 v3.toNatClampNeg)])) rfl ?_
      refine e_icmp 670 rfl rfl rfl (fun c5 => ?_) (fun c5 => ?_)
      · refine e_L 1 (f' := (671, [(0, .ref 151), (1, .int v1), (3, .int v3), (5, .int v5)], [.ref 151])) rfl ?_
        refine e_gR (q := 164) 12 33 rfl rfl lc_151 lr_151_33 ?_
        refine e_L 1 (f' := (675, [(0, .ref 151), (1, .int v1), (3, .int v3), (5, .int v5)], [.int v3, .ref 164])) rfl ?_
        refine e_ial (n := 400) (k := v3.toNatClampNeg) rfl lc_164 ln_164 h3 rfl ?_
        refine e_L 1 (f' := (678, [(0, .ref 151), (1, .int v1), (3, .int v3), (5, .int v5)], [.int (18 : Int32), .int (s.1 164 v3.toNatClampNeg)])) rfl ?_
        refine e_icmp 727 rfl rfl rfl (fun c6 => ?_) (fun c6 => ?_)
        · refine e_L 3 (f' := (730, [(0, .ref 151), (1, .int v1), (3, .int v3), (5, .int v5)], [.ref 151, .int v1, .ref 151])) rfl ?_
          refine e_gR (q := 174) 12 43 rfl rfl lc_151 lr_151_43 ?_
          refine e_L 1 (f' := (734, [(0, .ref 151), (1, .int v1), (3, .int v3), (5, .int v5)], [.int v3, .ref 174, .int v1, .ref 151])) rfl ?_
          refine e_ial (n := 400) (k := v3.toNatClampNeg) rfl lc_174 ln_174 h3 rfl ?_
          refine e_vV 302 rfl rfl ix_X12_goTo rfl (q_recvOf lc_151 rfl) (Nat.le_of_ble_eq_true rfl) (fun s8 e9 => ?_)
          exact e_rV rfl rfl
        · refine e_L 3 (f' := (685, [(0, .ref 151), (1, .int v1), (3, .int v3), (5, .int v5)], [.int v5, .int v1, .ref 151])) rfl ?_
          refine e_ifz 697 rfl rfl rfl (fun c10 => ?_) (fun c10 => ?_)
          · refine e_L 1 (f' := (698, [(0, .ref 151), (1, .int v1), (3, .int v3), (5, .int v5)], [.ref 151, .int v1, .ref 151])) rfl ?_
            refine e_gR (q := 172) 12 41 rfl rfl lc_151 lr_151_41 ?_
            refine e_L 1 (f' := (702, [(0, .ref 151), (1, .int v1), (3, .int v3), (5, .int v5)], [.int v3, .ref 172, .int v1, .ref 151])) rfl ?_
            refine e_ial (n := 400) (k := v3.toNatClampNeg) rfl lc_172 ln_172 h3 rfl ?_
            refine e_L 1 (f' := (705, [(0, .ref 151), (1, .int v1), (3, .int v3), (5, .int v5)], [.int (-2 : Int32), .int (s.1 172 v3.toNatClampNeg), .int v1, .ref 151])) rfl ?_
            refine e_icmp 715 rfl rfl rfl (fun c11 => ?_) (fun c11 => ?_)
            · refine e_L 1 (f' := (716, [(0, .ref 151), (1, .int v1), (3, .int v3), (5, .int v5)], [.ref 151, .int v1, .ref 151])) rfl ?_
              refine e_gR (q := 172) 12 41 rfl rfl lc_151 lr_151_41 ?_
              refine e_L 1 (f' := (720, [(0, .ref 151), (1, .int v1), (3, .int v3), (5, .int v5)], [.int v3, .ref 172, .int v1, .ref 151])) rfl ?_
              refine e_ial (n := 400) (k := v3.toNatClampNeg) rfl lc_172 ln_172 h3 rfl ?_
              exact qE_sub (qsubL [] rfl (ks := [0, 1, 3, 5]) rfl (by decide))
            · refine e_L 1 (f' := (709, [(0, .ref 151), (1, .int v1), (3, .int v3), (5, .int v5)], [.ref 151, .int v1, .ref 151])) rfl ?_
              refine e_gI 12 68 rfl rfl lc_151 ?_
              refine e_L 1 (f' := (721, [(0, .ref 151), (1, .int v1), (3, .int v3), (5, .int v5)], [.int (s.1 151 68), .int v1, .ref 151])) rfl ?_
              exact qE_sub (qsubL [] rfl (ks := [0, 1, 3, 5]) rfl (by decide))
          · refine e_L 1 (f' := (689, [(0, .ref 151), (1, .int v1), (3, .int v3), (5, .int v5)], [.ref 151, .int v1, .ref 151])) rfl ?_
            refine e_gR (q := 174) 12 43 rfl rfl lc_151 lr_151_43 ?_
            refine e_L 1 (f' := (693, [(0, .ref 151), (1, .int v1), (3, .int v3), (5, .int v5)], [.int v3, .ref 174, .int v1, .ref 151])) rfl ?_
            refine e_ial (n := 400) (k := v3.toNatClampNeg) rfl lc_174 ln_174 h3 rfl ?_
            refine e_L 1 (f' := (721, [(0, .ref 151), (1, .int v1), (3, .int v3), (5, .int v5)], [.int (s.1 174 v3.toNatClampNeg), .int v1, .ref 151])) rfl ?_
            exact qE_sub (qsubL [] rfl (ks := [0, 1, 3, 5]) rfl (by decide))
      · refine e_L 1 (f' := (624, [(0, .ref 151), (1, .int v1), (3, .int v3), (5, .int v5)], [.int v5])) rfl ?_
        refine e_ifz 636 rfl rfl rfl (fun c12 => ?_) (fun c12 => ?_)
        · refine e_L 1 (f' := (637, [(0, .ref 151), (1, .int v1), (3, .int v3), (5, .int v5)], [.ref 151])) rfl ?_
          refine e_gR (q := 173) 12 42 rfl rfl lc_151 lr_151_42 ?_
          refine e_L 1 (f' := (641, [(0, .ref 151), (1, .int v1), (3, .int v3), (5, .int v5)], [.int v3, .ref 173])) rfl ?_
          refine e_ial (n := 400) (k := v3.toNatClampNeg) rfl lc_173 ln_173 h3 rfl ?_
          exact qE_sub (qsubL [0, 1, 2] rfl (ks := [0, 1, 3, 5]) rfl (by decide))
        · refine e_L 1 (f' := (628, [(0, .ref 151), (1, .int v1), (3, .int v3), (5, .int v5)], [.ref 151])) rfl ?_
          refine e_gR (q := 172) 12 41 rfl rfl lc_151 lr_151_41 ?_
          refine e_L 1 (f' := (632, [(0, .ref 151), (1, .int v1), (3, .int v3), (5, .int v5)], [.int v3, .ref 172])) rfl ?_
          refine e_ial (n := 400) (k := v3.toNatClampNeg) rfl lc_172 ln_172 h3 rfl ?_
          refine e_L 1 (f' := (642, [(0, .ref 151), (1, .int v1), (3, .int v3), (5, .int v5)], [.int (s.1 172 v3.toNatClampNeg)])) rfl ?_
          exact qE_sub (qsubL [0, 1, 2] rfl (ks := [0, 1, 3, 5]) rfl (by decide))
    · refine e_L 3 (f' := (605, [(0, .ref 151), (1, .int v1), (3, .int v3), (5, .int v5)], [.int (-2 : Int32), .int v1, .ref 151])) rfl ?_
      refine e_vV 302 rfl rfl ix_X12_goTo rfl (q_recvOf lc_151 rfl) (Nat.le_of_ble_eq_true rfl) (fun s14 e15 => ?_)
      refine e_L 1 (f' := (738, [(0, .ref 151), (1, .int v1), (3, .int v3), (5, .int v5)], [])) rfl ?_
      exact e_rV rfl rfl
  · exact e_rV rfl rfl
set_option maxRecDepth 100000 in
set_option maxHeartbeats 4000000 in
theorem le_X12_doStep_642 (en : pN) (d : Nat) (v1 : Int32) (v3 : Int32) (vs0 : Int32) (s : qS) : qle (if ¬ vs0 = (-2 : Int32) then L_X12_doStep_664 en d v1 vs0 s else gd (p_inB v3 400 = true) (L_X12_doStep_664 en d v1 (s.1 174 v3.toNatClampNeg) s)) (L_X12_doStep_642 en d v1 v3 vs0 s) := by
  show qle _ (qE (qev en d) en none tb_X12_doStep (642, [(0, .ref 151), (1, .int v1), (3, .int v3)], [.int vs0]) s)
  refine e_L 5 (f' := (650, [(8, .int vs0), (0, .ref 151), (1, .int v1), (3, .int v3)], [.int (-2 : Int32), .int vs0, .int v1, .ref 151])) rfl ?_
  refine e_icmp 662 rfl rfl rfl (fun c1 => ?_) (fun c1 => ?_)
  · refine e_L 1 (f' := (664, [(8, .int vs0), (0, .ref 151), (1, .int v1), (3, .int v3)], [.int vs0, .int v1, .ref 151])) rfl ?_
    exact qE_sub (qsubL [] rfl (ks := [8, 0, 1, 3]) rfl (by decide))
  · refine e_L 1 (f' := (654, [(8, .int vs0), (0, .ref 151), (1, .int v1), (3, .int v3)], [.ref 151, .int v1, .ref 151])) rfl ?_
    refine e_gR (q := 174) 12 43 rfl rfl lc_151 lr_151_43 ?_
    refine e_L 1 (f' := (658, [(8, .int vs0), (0, .ref 151), (1, .int v1), (3, .int v3)], [.int v3, .ref 174, .int v1, .ref 151])) rfl ?_
    refine qle_gd fun h2 => ?_
    refine e_ial (n := 400) (k := v3.toNatClampNeg) rfl lc_174 ln_174 h2 rfl ?_
    refine e_L 1 (f' := (664, [(8, .int vs0), (0, .ref 151), (1, .int v1), (3, .int v3)], [.int (s.1 174 v3.toNatClampNeg), .int v1, .ref 151])) rfl ?_
    exact qE_sub (qsubL [] rfl (ks := [8, 0, 1, 3]) rfl (by decide))
set_option maxRecDepth 100000 in
set_option maxHeartbeats 4000000 in
theorem le_X12_doStep_664 (en : pN) (d : Nat) (vs1 : Int32) (vs2 : Int32) (s : qS) : qle (bV (qev en d 302 [.ref 151, .int vs1, .int vs2] s) (fun s2 => some (none, s2))) (L_X12_doStep_664 en d vs1 vs2 s) := by
  show qle _ (qE (qev en d) en none tb_X12_doStep (664, [], [.int vs2, .int vs1, .ref 151]) s)
  refine e_vV 302 rfl rfl ix_X12_goTo rfl (q_recvOf lc_151 rfl) (Nat.le_of_ble_eq_true rfl) (fun s2 e3 => ?_)
  refine e_L 1 (f' := (738, [], [])) rfl ?_
  exact e_rV rfl rfl
set_option maxRecDepth 100000 in
set_option maxHeartbeats 4000000 in
theorem le_X12_doStep_721 (en : pN) (d : Nat) (vs1 : Int32) (vs2 : Int32) (s : qS) : qle (bV (qev en d 302 [.ref 151, .int vs1, .int vs2] s) (fun s2 => some (none, s2))) (L_X12_doStep_721 en d vs1 vs2 s) := by
  show qle _ (qE (qev en d) en none tb_X12_doStep (721, [], [.int vs2, .int vs1, .ref 151]) s)
  refine e_vV 302 rfl rfl ix_X12_goTo rfl (q_recvOf lc_151 rfl) (Nat.le_of_ble_eq_true rfl) (fun s2 e3 => ?_)
  refine e_L 1 (f' := (738, [], [])) rfl ?_
  exact e_rV rfl rfl
set_option maxRecDepth 100000 in
set_option maxHeartbeats 4000000 in
theorem le_X12_doStep (en : pN) (d : Nat) (a1 : Int32) (a2 : Int32) (s : qS) : qle (if ¬ a2 = (9 : Int32) then bI (qev en d 303 [.ref 151, .int a1] s) (fun w2 s3 => gd (p_inB w2 400 = true) (nm (s3.1 166 w2.toNatClampNeg) (fun z6 => nm (uI s3 151 68 (w2 - ((100 : Int32) * (s3.1 151 59)))) (fun s7 => nm (uI s7 151 69 (s7.1 164 w2.toNatClampNeg)) (fun s8 => nm (uI s8 151 70 z6) (fun s9 => nm (uI s9 151 71 (0 : Int32)) (fun s10 => nm (uJ s10 151 72 (s10.2.1 180 w2.toNatClampNeg)) (fun s11 => gd (p_inB ((0 : Int32) + a1) 216 = true) (if ¬ (s11.1 187 ((0 : Int32) + a1).toNatClampNeg) = (3 : Int32) then bI (qev en d 296 [.ref 151, .int (s11.1 176 w2.toNatClampNeg), .int (s11.1 177 w2.toNatClampNeg), .int a1] s11) (fun w14 s15 => bI (qev en d 296 [.ref 151, .int (s15.1 178 w2.toNatClampNeg), .int (s15.1 179 w2.toNatClampNeg), .int a1] s15) (fun w17 s18 => if ¬ (s15.1 151 62) = (0 : Int32) then L_X12_doStep_229 en d a1 s18 else if (s18.1 151 62) = (0 : Int32) then swI (s18.1 164 w2.toNatClampNeg).toInt 0 [bV (qev en d 323 [.ref 151, .int a1, .int w2, .int w14] s18) (fun s23 => L_X12_doStep_577 en d a1 w2 w14 s23), bI (qev en d 321 [.ref 151, .int a1, .int z6, .int a2] s18) (fun w25 s26 => if ¬ (s26.1 151 58) = (2 : Int32) then L_X12_doStep_426 en d a1 w2 w14 w25 s26 else gd (p_inB z6 8 = true) (if (s26.1 155 z6.toNatClampNeg) = (0 : Int32) then gd (p_inB ((204 : Int32) + a1) 216 = true) (bI (qev en d 304 [.int (s26.1 187 ((204 : Int32) + a1).toNatClampNeg), .int z6] s26) (fun w32 s33 => bI (qev en d 305 [.int (s26.1 187 ((204 : Int32) + a1).toNatClampNeg), .int z6, .int (w32 + a2)] s33) (fun w35 s36 => nm (uI s36 187 (((204 : Int32) + a1).toNatClampNeg) w35) (fun s38 => L_X12_doStep_426 en d a1 w2 w14 w25 s38)))) else bI (qev en d 309 [.ref 151, .int a1, .int z6, .int (0 : Int32)] s26) (fun w39 s40 => L_X12_doStep_426 en d a1 w2 w14 w39 s40))), bV (qev en d 322 [.ref 151, .int a1, .int z6, .int w14] s18) (fun s43 => L_X12_doStep_577 en d a1 w2 w14 s43), L_X12_doStep_449 en d a1 w2 w14 w17 s18, L_X12_doStep_449 en d a1 w2 w14 w17 s18, L_X12_doStep_570 en d a1 a2 w2 w14 s18, L_X12_doStep_570 en d a1 a2 w2 w14 s18, L_X12_doStep_570 en d a1 a2 w2 w14 s18, L_X12_doStep_570 en d a1 a2 w2 w14 s18, L_X12_doStep_570 en d a1 a2 w2 w14 s18, bV (qev en d 326 [.ref 151, .int a1, .int z6] s18) (fun s46 => L_X12_doStep_577 en d a1 w2 w14 s46), bV (qev en d 319 [.ref 151, .int a1, .int ((204 : Int32) + z6)] s18) (fun s49 => L_X12_doStep_577 en d a1 w2 w14 s49), if ¬ (s18.1 151 58) = (2 : Int32) then L_X12_doStep_577 en d a1 w2 w14 s18 else gd (p_inB ((204 : Int32) + a1) 216 = true) (bI (qev en d 306 [.int (s18.1 187 212), .int (s18.1 187 ((204 : Int32) + a1).toNatClampNeg)] s18) (fun w53 s54 => nm (uI s54 187 212 w53) (fun s56 => nm (uI s56 187 (((204 : Int32) + a1).toNatClampNeg) (s56.1 187 212)) (fun s57 => L_X12_doStep_577 en d a1 w2 w14 s57)))), L_X12_doStep_577 en d a1 w2 w14 s18, if ¬ w14 = (0 : Int32) then L_X12_doStep_577 en d a1 w2 w14 s18 else bV (qev en d 317 [.ref 151, .int a1, .int (4 : Int32)] s18) (fun s60 => L_X12_doStep_577 en d a1 w2 w14 s60), L_X12_doStep_558 en d a1 w2 w14 s18, L_X12_doStep_558 en d a1 w2 w14 s18, L_X12_doStep_577 en d a1 w2 w14 s18, L_X12_doStep_577 en d a1 w2 w14 s18] (L_X12_doStep_570 en d a1 a2 w2 w14 s18) else L_X12_doStep_229 en d a1 s18)) else nm (uI s11 151 69 (19 : Int32)) (fun s62 => gd (p_inB ((8 : Int32) + a1) 216 = true) (bV (qev en d 318 [.ref 151, .int a1, .int z6, .int (s62.1 187 ((8 : Int32) + a1).toNatClampNeg)] s62) (fun s65 => nm (uI s65 187 (((8 : Int32) + a1).toNatClampNeg) (0 : Int32)) (fun s67 => nm (uI s67 187 (((0 : Int32) + a1).toNatClampNeg) (1 : Int32)) (fun s68 => bV (qev en d 319 [.ref 151, .int a1, .int ((208 : Int32) + z6)] s68) (fun s70 => bV (qev en d 302 [.ref 151, .int a1, .int (s70.1 174 w2.toNatClampNeg)] s70) (fun s73 => some (none, s73))))))))))))))))) else nm (uI s 151 68 (-2 : Int32)) (fun s75 => nm (uI s75 151 69 (20 : Int32)) (fun s76 => gd (p_inB ((56 : Int32) + ((3 : Int32) * a1)) 216 = true) (nm (uI s76 151 70 (s76.1 187 ((56 : Int32) + ((3 : Int32) * a1)).toNatClampNeg)) (fun s78 => bV (qev en d 320 [.ref 151, .int a1] s78) (fun s80 => some (none, s80))))))) (qev en (d + 1) 324 [.ref 151, .int a1, .int a2] s) := by
  refine e_enter ix_X12_doStep (Nat.le_of_ble_eq_true rfl) ?_
  show qle _ (qE (qev en d) en none tb_X12_doStep (0, [(0, .ref 151), (1, .int a1), (2, .int a2)], []) s)
  refine e_L 2 (f' := (3, [(0, .ref 151), (1, .int a1), (2, .int a2)], [.int (9 : Int32), .int a2])) rfl ?_
  refine e_icmp 39 rfl rfl rfl (fun c1 => ?_) (fun c1 => ?_)
  · refine e_L 2 (f' := (41, [(0, .ref 151), (1, .int a1), (2, .int a2)], [.int a1, .ref 151])) rfl ?_
    refine e_vI 303 rfl rfl ix_X12_lineOf rfl (q_recvOf lc_151 rfl) (Nat.le_of_ble_eq_true rfl) (fun w2 s3 e4 => ?_)
    refine e_L 2 (f' := (46, [(3, .int w2), (0, .ref 151), (1, .int a1), (2, .int a2)], [.ref 151])) rfl ?_
    refine e_gR (q := 166) 12 35 rfl rfl lc_151 lr_151_35 ?_
    refine e_L 1 (f' := (50, [(3, .int w2), (0, .ref 151), (1, .int a1), (2, .int a2)], [.int w2, .ref 166])) rfl ?_
    refine qle_gd fun h5 => ?_
    refine e_ial (n := 400) (k := w2.toNatClampNeg) rfl lc_166 ln_166 h5 rfl ?_
    refine e_nI fun z6 => ?_
    refine e_L 5 (f' := (58, [(4, .int z6), (3, .int w2), (0, .ref 151), (1, .int a1), (2, .int a2)], [.ref 151, .int (100 : Int32), .int w2, .ref 151])) rfl ?_
    refine e_gI 12 59 rfl rfl lc_151 ?_
    refine e_L 2 (f' := (63, [(4, .int z6), (3, .int w2), (0, .ref 151), (1, .int a1), (2, .int a2)], [.int (w2 - ((100 : Int32) * (s3.1 151 59))), .ref 151])) rfl ?_
    refine e_pI 12 68 rfl rfl lc_151 rfl ?_
    refine e_nS fun s7 => ?_
    refine e_L 2 (f' := (68, [(4, .int z6), (3, .int w2), (0, .ref 151), (1, .int a1), (2, .int a2)], [.ref 151, .ref 151])) rfl ?_
    refine e_gR (q := 164) 12 33 rfl rfl lc_151 lr_151_33 ?_
    refine e_L 1 (f' := (72, [(4, .int z6), (3, .int w2), (0, .ref 151), (1, .int a1), (2, .int a2)], [.int w2, .ref 164, .ref 151])) rfl ?_
    refine e_ial (n := 400) (k := w2.toNatClampNeg) rfl lc_164 ln_164 h5 rfl ?_
    refine e_pI 12 69 rfl rfl lc_151 rfl ?_
    refine e_nS fun s8 => ?_
    refine e_L 2 (f' := (79, [(4, .int z6), (3, .int w2), (0, .ref 151), (1, .int a1), (2, .int a2)], [.int z6, .ref 151])) rfl ?_
    refine e_pI 12 70 rfl rfl lc_151 rfl ?_
    refine e_nS fun s9 => ?_
    refine e_L 2 (f' := (84, [(4, .int z6), (3, .int w2), (0, .ref 151), (1, .int a1), (2, .int a2)], [.int (0 : Int32), .ref 151])) rfl ?_
    refine e_pI 12 71 rfl rfl lc_151 rfl ?_
    refine e_nS fun s10 => ?_
    refine e_L 2 (f' := (89, [(4, .int z6), (3, .int w2), (0, .ref 151), (1, .int a1), (2, .int a2)], [.ref 151, .ref 151])) rfl ?_
    refine e_gR (q := 180) 12 49 rfl rfl lc_151 lr_151_49 ?_
    refine e_L 1 (f' := (93, [(4, .int z6), (3, .int w2), (0, .ref 151), (1, .int a1), (2, .int a2)], [.int w2, .ref 180, .ref 151])) rfl ?_
    refine e_lal (n := 400) (k := w2.toNatClampNeg) rfl lc_180 ln_180 h5 rfl ?_
    refine e_pJ 12 72 rfl rfl lc_151 rfl ?_
    refine e_nS fun s11 => ?_
    refine e_L 1 (f' := (98, [(4, .int z6), (3, .int w2), (0, .ref 151), (1, .int a1), (2, .int a2)], [.ref 151])) rfl ?_
    refine e_gR (q := 187) 12 57 rfl rfl lc_151 lr_151_57 ?_
    refine e_L 3 (f' := (104, [(4, .int z6), (3, .int w2), (0, .ref 151), (1, .int a1), (2, .int a2)], [.int ((0 : Int32) + a1), .ref 187])) rfl ?_
    refine qle_gd fun h12 => ?_
    refine e_ial (n := 216) (k := ((0 : Int32) + a1).toNatClampNeg) rfl lc_187 ln_187 h12 rfl ?_
    refine e_L 1 (f' := (106, [(4, .int z6), (3, .int w2), (0, .ref 151), (1, .int a1), (2, .int a2)], [.int (3 : Int32), .int (s11.1 187 ((0 : Int32) + a1).toNatClampNeg)])) rfl ?_
    refine e_icmp 173 rfl rfl rfl (fun c13 => ?_) (fun c13 => ?_)
    · refine e_L 2 (f' := (175, [(4, .int z6), (3, .int w2), (0, .ref 151), (1, .int a1), (2, .int a2)], [.ref 151, .ref 151])) rfl ?_
      refine e_gR (q := 176) 12 45 rfl rfl lc_151 lr_151_45 ?_
      refine e_L 1 (f' := (179, [(4, .int z6), (3, .int w2), (0, .ref 151), (1, .int a1), (2, .int a2)], [.int w2, .ref 176, .ref 151])) rfl ?_
      refine e_ial (n := 400) (k := w2.toNatClampNeg) rfl lc_176 ln_176 h5 rfl ?_
      refine e_L 1 (f' := (181, [(4, .int z6), (3, .int w2), (0, .ref 151), (1, .int a1), (2, .int a2)], [.ref 151, .int (s11.1 176 w2.toNatClampNeg), .ref 151])) rfl ?_
      refine e_gR (q := 177) 12 46 rfl rfl lc_151 lr_151_46 ?_
      refine e_L 1 (f' := (185, [(4, .int z6), (3, .int w2), (0, .ref 151), (1, .int a1), (2, .int a2)], [.int w2, .ref 177, .int (s11.1 176 w2.toNatClampNeg), .ref 151])) rfl ?_
      refine e_ial (n := 400) (k := w2.toNatClampNeg) rfl lc_177 ln_177 h5 rfl ?_
      refine e_L 1 (f' := (187, [(4, .int z6), (3, .int w2), (0, .ref 151), (1, .int a1), (2, .int a2)], [.int a1, .int (s11.1 177 w2.toNatClampNeg), .int (s11.1 176 w2.toNatClampNeg), .ref 151])) rfl ?_
      refine e_vI 296 rfl rfl ix_X12_worked rfl (q_recvOf lc_151 rfl) (Nat.le_of_ble_eq_true rfl) (fun w14 s15 e16 => ?_)
      refine e_L 2 (f' := (193, [(5, .int w14), (4, .int z6), (3, .int w2), (0, .ref 151), (1, .int a1), (2, .int a2)], [.ref 151])) rfl ?_
      refine e_gI 12 62 rfl rfl lc_151 ?_
      refine e_L 3 (f' := (200, [(6, .int (s15.1 151 62)), (5, .int w14), (4, .int z6), (3, .int w2), (0, .ref 151), (1, .int a1), (2, .int a2)], [.ref 151, .ref 151])) rfl ?_
      refine e_gR (q := 178) 12 47 rfl rfl lc_151 lr_151_47 ?_
      refine e_L 1 (f' := (204, [(6, .int (s15.1 151 62)), (5, .int w14), (4, .int z6), (3, .int w2), (0, .ref 151), (1, .int a1), (2, .int a2)], [.int w2, .ref 178, .ref 151])) rfl ?_
      refine e_ial (n := 400) (k := w2.toNatClampNeg) rfl lc_178 ln_178 h5 rfl ?_
      refine e_L 1 (f' := (206, [(6, .int (s15.1 151 62)), (5, .int w14), (4, .int z6), (3, .int w2), (0, .ref 151), (1, .int a1), (2, .int a2)], [.ref 151, .int (s15.1 178 w2.toNatClampNeg), .ref 151])) rfl ?_
      refine e_gR (q := 179) 12 48 rfl rfl lc_151 lr_151_48 ?_
      refine e_L 1 (f' := (210, [(6, .int (s15.1 151 62)), (5, .int w14), (4, .int z6), (3, .int w2), (0, .ref 151), (1, .int a1), (2, .int a2)], [.int w2, .ref 179, .int (s15.1 178 w2.toNatClampNeg), .ref 151])) rfl ?_
      refine e_ial (n := 400) (k := w2.toNatClampNeg) rfl lc_179 ln_179 h5 rfl ?_
      refine e_L 1 (f' := (212, [(6, .int (s15.1 151 62)), (5, .int w14), (4, .int z6), (3, .int w2), (0, .ref 151), (1, .int a1), (2, .int a2)], [.int a1, .int (s15.1 179 w2.toNatClampNeg), .int (s15.1 178 w2.toNatClampNeg), .ref 151])) rfl ?_
      refine e_vI 296 rfl rfl ix_X12_worked rfl (q_recvOf lc_151 rfl) (Nat.le_of_ble_eq_true rfl) (fun w17 s18 e19 => ?_)
      refine e_L 2 (f' := (219, [(7, .int w17), (6, .int (s15.1 151 62)), (5, .int w14), (4, .int z6), (3, .int w2), (0, .ref 151), (1, .int a1), (2, .int a2)], [.int (s15.1 151 62)])) rfl ?_
      refine e_ifz 229 rfl rfl rfl (fun c20 => ?_) (fun c20 => ?_)
      · exact qE_sub (qsubL [5, 6] rfl (ks := [7, 6, 5, 4, 3, 0, 1, 2]) rfl (by decide))
      · refine e_L 1 (f' := (223, [(7, .int w17), (6, .int (s15.1 151 62)), (5, .int w14), (4, .int z6), (3, .int w2), (0, .ref 151), (1, .int a1), (2, .int a2)], [.ref 151])) rfl ?_
        refine e_gI 12 62 rfl rfl lc_151 ?_
        refine e_ifz 236 rfl rfl rfl (fun c21 => ?_) (fun c21 => ?_)
        · refine e_L 1 (f' := (237, [(7, .int w17), (6, .int (s15.1 151 62)), (5, .int w14), (4, .int z6), (3, .int w2), (0, .ref 151), (1, .int a1), (2, .int a2)], [.ref 151])) rfl ?_
          refine e_gR (q := 164) 12 33 rfl rfl lc_151 lr_151_33 ?_
          refine e_L 1 (f' := (241, [(7, .int w17), (6, .int (s15.1 151 62)), (5, .int w14), (4, .int z6), (3, .int w2), (0, .ref 151), (1, .int a1), (2, .int a2)], [.int w2, .ref 164])) rfl ?_
          refine e_ial (n := 400) (k := w2.toNatClampNeg) rfl lc_164 ln_164 h5 rfl ?_
          refine e_tsw rfl (by decide) ⟨?_, ?_, ?_, ?_, ?_, ?_, ?_, ?_, ?_, ?_, ?_, ?_, ?_, ?_, ?_, ?_, ?_, ?_, ?_, trivial⟩ ?_
          · refine e_L 4 (f' := (337, [(7, .int w17), (6, .int (s15.1 151 62)), (5, .int w14), (4, .int z6), (3, .int w2), (0, .ref 151), (1, .int a1), (2, .int a2)], [.int w14, .int w2, .int a1, .ref 151])) rfl ?_
            refine e_vV 323 rfl rfl ix_X12_setLocal rfl (q_recvOf lc_151 rfl) (Nat.le_of_ble_eq_true rfl) (fun s23 e24 => ?_)
            refine e_L 1 (f' := (577, [(7, .int w17), (6, .int (s15.1 151 62)), (5, .int w14), (4, .int z6), (3, .int w2), (0, .ref 151), (1, .int a1), (2, .int a2)], [])) rfl ?_
            exact qE_sub (qsubL [5, 6, 4, 2] rfl (ks := [7, 6, 5, 4, 3, 0, 1, 2]) rfl (by decide))
          · refine e_L 4 (f' := (348, [(7, .int w17), (6, .int (s15.1 151 62)), (5, .int w14), (4, .int z6), (3, .int w2), (0, .ref 151), (1, .int a1), (2, .int a2)], [.int a2, .int z6, .int a1, .ref 151])) rfl ?_
            refine e_vI 321 rfl rfl ix_X12_loaded rfl (q_recvOf lc_151 rfl) (Nat.le_of_ble_eq_true rfl) (fun w25 s26 e27 => ?_)
            refine e_L 2 (f' := (354, [(8, .int w25), (7, .int w17), (6, .int (s15.1 151 62)), (5, .int w14), (4, .int z6), (3, .int w2), (0, .ref 151), (1, .int a1), (2, .int a2)], [.ref 151])) rfl ?_
            refine e_gI 12 58 rfl rfl lc_151 ?_
            refine e_L 1 (f' := (358, [(8, .int w25), (7, .int w17), (6, .int (s15.1 151 62)), (5, .int w14), (4, .int z6), (3, .int w2), (0, .ref 151), (1, .int a1), (2, .int a2)], [.int (2 : Int32), .int (s26.1 151 58)])) rfl ?_
            refine e_icmp 426 rfl rfl rfl (fun c28 => ?_) (fun c28 => ?_)
            · exact qE_sub (qsubL [6, 7, 5, 3, 0] rfl (ks := [8, 7, 6, 5, 4, 3, 0, 1, 2]) rfl (by decide))
            · refine e_L 1 (f' := (362, [(8, .int w25), (7, .int w17), (6, .int (s15.1 151 62)), (5, .int w14), (4, .int z6), (3, .int w2), (0, .ref 151), (1, .int a1), (2, .int a2)], [.ref 151])) rfl ?_
              refine e_gR (q := 155) 12 15 rfl rfl lc_151 lr_151_15 ?_
              refine e_L 1 (f' := (367, [(8, .int w25), (7, .int w17), (6, .int (s15.1 151 62)), (5, .int w14), (4, .int z6), (3, .int w2), (0, .ref 151), (1, .int a1), (2, .int a2)], [.int z6, .ref 155])) rfl ?_
              refine qle_gd fun h29 => ?_
              refine e_bal (n := 8) (k := z6.toNatClampNeg) rfl (Or.inl lc_155) ln_155 h29 rfl ?_
              refine e_ifz 384 rfl rfl rfl (fun c30 => ?_) (fun c30 => ?_)
              · refine e_L 1 (f' := (385, [(8, .int w25), (7, .int w17), (6, .int (s15.1 151 62)), (5, .int w14), (4, .int z6), (3, .int w2), (0, .ref 151), (1, .int a1), (2, .int a2)], [.ref 151])) rfl ?_
                refine e_gR (q := 187) 12 57 rfl rfl lc_151 lr_151_57 ?_
                refine e_L 4 (f' := (394, [(8, .int w25), (7, .int w17), (6, .int (s15.1 151 62)), (5, .int w14), (4, .int z6), (3, .int w2), (0, .ref 151), (1, .int a1), (2, .int a2)], [.ref 151, .int ((204 : Int32) + a1), .ref 187])) rfl ?_
                refine e_gR (q := 187) 12 57 rfl rfl lc_151 lr_151_57 ?_
                refine e_L 3 (f' := (402, [(8, .int w25), (7, .int w17), (6, .int (s15.1 151 62)), (5, .int w14), (4, .int z6), (3, .int w2), (0, .ref 151), (1, .int a1), (2, .int a2)], [.int ((204 : Int32) + a1), .ref 187, .int ((204 : Int32) + a1), .ref 187])) rfl ?_
                refine qle_gd fun h31 => ?_
                refine e_ial (n := 216) (k := ((204 : Int32) + a1).toNatClampNeg) rfl lc_187 ln_187 h31 rfl ?_
                refine e_L 2 (f' := (406, [(8, .int w25), (7, .int w17), (6, .int (s15.1 151 62)), (5, .int w14), (4, .int z6), (3, .int w2), (0, .ref 151), (1, .int a1), (2, .int a2)], [.ref 151, .int z6, .int (s26.1 187 ((204 : Int32) + a1).toNatClampNeg), .int ((204 : Int32) + a1), .ref 187])) rfl ?_
                refine e_gR (q := 187) 12 57 rfl rfl lc_151 lr_151_57 ?_
                refine e_L 3 (f' := (414, [(8, .int w25), (7, .int w17), (6, .int (s15.1 151 62)), (5, .int w14), (4, .int z6), (3, .int w2), (0, .ref 151), (1, .int a1), (2, .int a2)], [.int ((204 : Int32) + a1), .ref 187, .int z6, .int (s26.1 187 ((204 : Int32) + a1).toNatClampNeg), .int ((204 : Int32) + a1), .ref 187])) rfl ?_
                refine e_ial (n := 216) (k := ((204 : Int32) + a1).toNatClampNeg) rfl lc_187 ln_187 h31 rfl ?_
                refine e_L 1 (f' := (417, [(8, .int w25), (7, .int w17), (6, .int (s15.1 151 62)), (5, .int w14), (4, .int z6), (3, .int w2), (0, .ref 151), (1, .int a1), (2, .int a2)], [.int z6, .int (s26.1 187 ((204 : Int32) + a1).toNatClampNeg), .int z6, .int (s26.1 187 ((204 : Int32) + a1).toNatClampNeg), .int ((204 : Int32) + a1), .ref 187])) rfl ?_
                refine e_sI 304 rfl rfl rfl ix_X12_viewOf rfl (Nat.le_of_ble_eq_true rfl) (fun w32 s33 e34 => ?_)
                refine e_L 2 (f' := (422, [(8, .int w25), (7, .int w17), (6, .int (s15.1 151 62)), (5, .int w14), (4, .int z6), (3, .int w2), (0, .ref 151), (1, .int a1), (2, .int a2)], [.int (w32 + a2), .int z6, .int (s26.1 187 ((204 : Int32) + a1).toNatClampNeg), .int ((204 : Int32) + a1), .ref 187])) rfl ?_
                refine e_sI 305 rfl rfl rfl ix_X12_withView rfl (Nat.le_of_ble_eq_true rfl) (fun w35 s36 e37 => ?_)
                refine e_ias (n := 216) (k := ((204 : Int32) + a1).toNatClampNeg) rfl lc_187 ln_187 h31 rfl ?_
                refine e_nS fun s38 => ?_
                exact qE_sub (qsubL [6, 7, 5, 3, 0] rfl (ks := [8, 7, 6, 5, 4, 3, 0, 1, 2]) rfl (by decide))
              · refine e_L 4 (f' := (376, [(8, .int w25), (7, .int w17), (6, .int (s15.1 151 62)), (5, .int w14), (4, .int z6), (3, .int w2), (0, .ref 151), (1, .int a1), (2, .int a2)], [.int (0 : Int32), .int z6, .int a1, .ref 151])) rfl ?_
                refine e_vI 309 rfl rfl ix_X12_seeLast rfl (q_recvOf lc_151 rfl) (Nat.le_of_ble_eq_true rfl) (fun w39 s40 e41 => ?_)
                refine e_L 2 (f' := (426, [(8, .int w39), (7, .int w17), (6, .int (s15.1 151 62)), (5, .int w14), (4, .int z6), (3, .int w2), (0, .ref 151), (1, .int a1), (2, .int a2)], [])) rfl ?_
                exact qE_sub (qsubL [6, 7, 5, 3, 0] rfl (ks := [8, 7, 6, 5, 4, 3, 0, 1, 2]) rfl (by decide))
          · refine e_L 4 (f' := (443, [(7, .int w17), (6, .int (s15.1 151 62)), (5, .int w14), (4, .int z6), (3, .int w2), (0, .ref 151), (1, .int a1), (2, .int a2)], [.int w14, .int z6, .int a1, .ref 151])) rfl ?_
            refine e_vV 322 rfl rfl ix_X12_storeNow rfl (q_recvOf lc_151 rfl) (Nat.le_of_ble_eq_true rfl) (fun s43 e44 => ?_)
            refine e_L 1 (f' := (577, [(7, .int w17), (6, .int (s15.1 151 62)), (5, .int w14), (4, .int z6), (3, .int w2), (0, .ref 151), (1, .int a1), (2, .int a2)], [])) rfl ?_
            exact qE_sub (qsubL [5, 6, 4, 2] rfl (ks := [7, 6, 5, 4, 3, 0, 1, 2]) rfl (by decide))
          · exact qE_sub (qsubL [5, 6, 4, 2, 0] rfl (ks := [7, 6, 5, 4, 3, 0, 1, 2]) rfl (by decide))
          · exact qE_sub (qsubL [5, 6, 4, 2, 0] rfl (ks := [7, 6, 5, 4, 3, 0, 1, 2]) rfl (by decide))
          · exact qE_sub (qsubL [5, 6, 7, 4, 2] rfl (ks := [7, 6, 5, 4, 3, 0, 1, 2]) rfl (by decide))
          · exact qE_sub (qsubL [5, 6, 7, 4, 2] rfl (ks := [7, 6, 5, 4, 3, 0, 1, 2]) rfl (by decide))
          · exact qE_sub (qsubL [5, 6, 7, 4, 2] rfl (ks := [7, 6, 5, 4, 3, 0, 1, 2]) rfl (by decide))
          · exact qE_sub (qsubL [5, 6, 7, 4, 2] rfl (ks := [7, 6, 5, 4, 3, 0, 1, 2]) rfl (by decide))
          · exact qE_sub (qsubL [5, 6, 7, 4, 2] rfl (ks := [7, 6, 5, 4, 3, 0, 1, 2]) rfl (by decide))
          · refine e_L 3 (f' := (466, [(7, .int w17), (6, .int (s15.1 151 62)), (5, .int w14), (4, .int z6), (3, .int w2), (0, .ref 151), (1, .int a1), (2, .int a2)], [.int z6, .int a1, .ref 151])) rfl ?_
            refine e_vV 326 rfl rfl ix_X12_beginOther rfl (q_recvOf lc_151 rfl) (Nat.le_of_ble_eq_true rfl) (fun s46 e47 => ?_)
            refine e_L 1 (f' := (577, [(7, .int w17), (6, .int (s15.1 151 62)), (5, .int w14), (4, .int z6), (3, .int w2), (0, .ref 151), (1, .int a1), (2, .int a2)], [])) rfl ?_
            exact qE_sub (qsubL [5, 6, 4, 2] rfl (ks := [7, 6, 5, 4, 3, 0, 1, 2]) rfl (by decide))
          · refine e_L 5 (f' := (480, [(7, .int w17), (6, .int (s15.1 151 62)), (5, .int w14), (4, .int z6), (3, .int w2), (0, .ref 151), (1, .int a1), (2, .int a2)], [.int ((204 : Int32) + z6), .int a1, .ref 151])) rfl ?_
            refine e_vV 319 rfl rfl ix_X12_joinView rfl (q_recvOf lc_151 rfl) (Nat.le_of_ble_eq_true rfl) (fun s49 e50 => ?_)
            refine e_L 1 (f' := (577, [(7, .int w17), (6, .int (s15.1 151 62)), (5, .int w14), (4, .int z6), (3, .int w2), (0, .ref 151), (1, .int a1), (2, .int a2)], [])) rfl ?_
            exact qE_sub (qsubL [5, 6, 4, 2] rfl (ks := [7, 6, 5, 4, 3, 0, 1, 2]) rfl (by decide))
          · refine e_L 1 (f' := (487, [(7, .int w17), (6, .int (s15.1 151 62)), (5, .int w14), (4, .int z6), (3, .int w2), (0, .ref 151), (1, .int a1), (2, .int a2)], [.ref 151])) rfl ?_
            refine e_gI 12 58 rfl rfl lc_151 ?_
            refine e_L 1 (f' := (491, [(7, .int w17), (6, .int (s15.1 151 62)), (5, .int w14), (4, .int z6), (3, .int w2), (0, .ref 151), (1, .int a1), (2, .int a2)], [.int (2 : Int32), .int (s18.1 151 58)])) rfl ?_
            refine e_icmp 577 rfl rfl rfl (fun c51 => ?_) (fun c51 => ?_)
            · exact qE_sub (qsubL [5, 6, 4, 2] rfl (ks := [7, 6, 5, 4, 3, 0, 1, 2]) rfl (by decide))
            · refine e_L 1 (f' := (495, [(7, .int w17), (6, .int (s15.1 151 62)), (5, .int w14), (4, .int z6), (3, .int w2), (0, .ref 151), (1, .int a1), (2, .int a2)], [.ref 151])) rfl ?_
              refine e_gR (q := 187) 12 57 rfl rfl lc_151 lr_151_57 ?_
              refine e_L 2 (f' := (502, [(7, .int w17), (6, .int (s15.1 151 62)), (5, .int w14), (4, .int z6), (3, .int w2), (0, .ref 151), (1, .int a1), (2, .int a2)], [.ref 151, .int (212 : Int32), .ref 187])) rfl ?_
              refine e_gR (q := 187) 12 57 rfl rfl lc_151 lr_151_57 ?_
              refine e_L 1 (f' := (508, [(7, .int w17), (6, .int (s15.1 151 62)), (5, .int w14), (4, .int z6), (3, .int w2), (0, .ref 151), (1, .int a1), (2, .int a2)], [.int (212 : Int32), .ref 187, .int (212 : Int32), .ref 187])) rfl ?_
              refine e_ial (n := 216) (k := 212) rfl lc_187 ln_187 (by decide +kernel) (by decide +kernel) ?_
              refine e_L 1 (f' := (510, [(7, .int w17), (6, .int (s15.1 151 62)), (5, .int w14), (4, .int z6), (3, .int w2), (0, .ref 151), (1, .int a1), (2, .int a2)], [.ref 151, .int (s18.1 187 212), .int (212 : Int32), .ref 187])) rfl ?_
              refine e_gR (q := 187) 12 57 rfl rfl lc_151 lr_151_57 ?_
              refine e_L 3 (f' := (518, [(7, .int w17), (6, .int (s15.1 151 62)), (5, .int w14), (4, .int z6), (3, .int w2), (0, .ref 151), (1, .int a1), (2, .int a2)], [.int ((204 : Int32) + a1), .ref 187, .int (s18.1 187 212), .int (212 : Int32), .ref 187])) rfl ?_
              refine qle_gd fun h52 => ?_
              refine e_ial (n := 216) (k := ((204 : Int32) + a1).toNatClampNeg) rfl lc_187 ln_187 h52 rfl ?_
              refine e_sI 306 rfl rfl rfl ix_X12_joinOf rfl (Nat.le_of_ble_eq_true rfl) (fun w53 s54 e55 => ?_)
              refine e_ias (n := 216) (k := 212) rfl lc_187 ln_187 (by decide +kernel) (by decide +kernel) ?_
              refine e_nS fun s56 => ?_
              refine e_L 1 (f' := (524, [(7, .int w17), (6, .int (s15.1 151 62)), (5, .int w14), (4, .int z6), (3, .int w2), (0, .ref 151), (1, .int a1), (2, .int a2)], [.ref 151])) rfl ?_
              refine e_gR (q := 187) 12 57 rfl rfl lc_151 lr_151_57 ?_
              refine e_L 4 (f' := (533, [(7, .int w17), (6, .int (s15.1 151 62)), (5, .int w14), (4, .int z6), (3, .int w2), (0, .ref 151), (1, .int a1), (2, .int a2)], [.ref 151, .int ((204 : Int32) + a1), .ref 187])) rfl ?_
              refine e_gR (q := 187) 12 57 rfl rfl lc_151 lr_151_57 ?_
              refine e_L 1 (f' := (539, [(7, .int w17), (6, .int (s15.1 151 62)), (5, .int w14), (4, .int z6), (3, .int w2), (0, .ref 151), (1, .int a1), (2, .int a2)], [.int (212 : Int32), .ref 187, .int ((204 : Int32) + a1), .ref 187])) rfl ?_
              refine e_ial (n := 216) (k := 212) rfl lc_187 ln_187 (by decide +kernel) (by decide +kernel) ?_
              refine e_ias (n := 216) (k := ((204 : Int32) + a1).toNatClampNeg) rfl lc_187 ln_187 h52 rfl ?_
              refine e_nS fun s57 => ?_
              refine e_L 1 (f' := (577, [(7, .int w17), (6, .int (s15.1 151 62)), (5, .int w14), (4, .int z6), (3, .int w2), (0, .ref 151), (1, .int a1), (2, .int a2)], [])) rfl ?_
              exact qE_sub (qsubL [5, 6, 4, 2] rfl (ks := [7, 6, 5, 4, 3, 0, 1, 2]) rfl (by decide))
          · refine e_L 1 (f' := (577, [(7, .int w17), (6, .int (s15.1 151 62)), (5, .int w14), (4, .int z6), (3, .int w2), (0, .ref 151), (1, .int a1), (2, .int a2)], [])) rfl ?_
            exact qE_sub (qsubL [5, 6, 4, 2] rfl (ks := [7, 6, 5, 4, 3, 0, 1, 2]) rfl (by decide))
          · refine e_L 1 (f' := (546, [(7, .int w17), (6, .int (s15.1 151 62)), (5, .int w14), (4, .int z6), (3, .int w2), (0, .ref 151), (1, .int a1), (2, .int a2)], [.int w14])) rfl ?_
            refine e_ifz 577 rfl rfl rfl (fun c58 => ?_) (fun c58 => ?_)
            · exact qE_sub (qsubL [5, 6, 4, 2] rfl (ks := [7, 6, 5, 4, 3, 0, 1, 2]) rfl (by decide))
            · refine e_L 3 (f' := (552, [(7, .int w17), (6, .int (s15.1 151 62)), (5, .int w14), (4, .int z6), (3, .int w2), (0, .ref 151), (1, .int a1), (2, .int a2)], [.int (4 : Int32), .int a1, .ref 151])) rfl ?_
              refine e_vV 317 rfl rfl ix_X12_goWrong rfl (q_recvOf lc_151 rfl) (Nat.le_of_ble_eq_true rfl) (fun s60 e61 => ?_)
              refine e_L 1 (f' := (577, [(7, .int w17), (6, .int (s15.1 151 62)), (5, .int w14), (4, .int z6), (3, .int w2), (0, .ref 151), (1, .int a1), (2, .int a2)], [])) rfl ?_
              exact qE_sub (qsubL [5, 6, 4, 2] rfl (ks := [7, 6, 5, 4, 3, 0, 1, 2]) rfl (by decide))
          · exact qE_sub (qsubL [5, 6, 4, 2] rfl (ks := [7, 6, 5, 4, 3, 0, 1, 2]) rfl (by decide))
          · exact qE_sub (qsubL [5, 6, 4, 2] rfl (ks := [7, 6, 5, 4, 3, 0, 1, 2]) rfl (by decide))
          · refine e_L 1 (f' := (577, [(7, .int w17), (6, .int (s15.1 151 62)), (5, .int w14), (4, .int z6), (3, .int w2), (0, .ref 151), (1, .int a1), (2, .int a2)], [])) rfl ?_
            exact qE_sub (qsubL [5, 6, 4, 2] rfl (ks := [7, 6, 5, 4, 3, 0, 1, 2]) rfl (by decide))
          · refine e_L 1 (f' := (577, [(7, .int w17), (6, .int (s15.1 151 62)), (5, .int w14), (4, .int z6), (3, .int w2), (0, .ref 151), (1, .int a1), (2, .int a2)], [])) rfl ?_
            exact qE_sub (qsubL [5, 6, 4, 2] rfl (ks := [7, 6, 5, 4, 3, 0, 1, 2]) rfl (by decide))
          · exact qE_sub (qsubL [5, 6, 7, 4, 2] rfl (ks := [7, 6, 5, 4, 3, 0, 1, 2]) rfl (by decide))
        · exact qE_sub (qsubL [5, 6] rfl (ks := [7, 6, 5, 4, 3, 0, 1, 2]) rfl (by decide))
    · refine e_L 2 (f' := (112, [(4, .int z6), (3, .int w2), (0, .ref 151), (1, .int a1), (2, .int a2)], [.int (19 : Int32), .ref 151])) rfl ?_
      refine e_pI 12 69 rfl rfl lc_151 rfl ?_
      refine e_nS fun s62 => ?_
      refine e_L 4 (f' := (120, [(4, .int z6), (3, .int w2), (0, .ref 151), (1, .int a1), (2, .int a2)], [.ref 151, .int z6, .int a1, .ref 151])) rfl ?_
      refine e_gR (q := 187) 12 57 rfl rfl lc_151 lr_151_57 ?_
      refine e_L 3 (f' := (127, [(4, .int z6), (3, .int w2), (0, .ref 151), (1, .int a1), (2, .int a2)], [.int ((8 : Int32) + a1), .ref 187, .int z6, .int a1, .ref 151])) rfl ?_
      refine qle_gd fun h63 => ?_
      refine e_ial (n := 216) (k := ((8 : Int32) + a1).toNatClampNeg) rfl lc_187 ln_187 h63 rfl ?_
      refine e_vV 318 rfl rfl ix_X12_takeLock rfl (q_recvOf lc_151 rfl) (Nat.le_of_ble_eq_true rfl) (fun s65 e66 => ?_)
      refine e_L 1 (f' := (132, [(4, .int z6), (3, .int w2), (0, .ref 151), (1, .int a1), (2, .int a2)], [.ref 151])) rfl ?_
      refine e_gR (q := 187) 12 57 rfl rfl lc_151 lr_151_57 ?_
      refine e_L 4 (f' := (140, [(4, .int z6), (3, .int w2), (0, .ref 151), (1, .int a1), (2, .int a2)], [.int (0 : Int32), .int ((8 : Int32) + a1), .ref 187])) rfl ?_
      refine e_ias (n := 216) (k := ((8 : Int32) + a1).toNatClampNeg) rfl lc_187 ln_187 h63 rfl ?_
      refine e_nS fun s67 => ?_
      refine e_L 1 (f' := (142, [(4, .int z6), (3, .int w2), (0, .ref 151), (1, .int a1), (2, .int a2)], [.ref 151])) rfl ?_
      refine e_gR (q := 187) 12 57 rfl rfl lc_151 lr_151_57 ?_
      refine e_L 4 (f' := (149, [(4, .int z6), (3, .int w2), (0, .ref 151), (1, .int a1), (2, .int a2)], [.int (1 : Int32), .int ((0 : Int32) + a1), .ref 187])) rfl ?_
      refine e_ias (n := 216) (k := ((0 : Int32) + a1).toNatClampNeg) rfl lc_187 ln_187 h12 rfl ?_
      refine e_nS fun s68 => ?_
      refine e_L 5 (f' := (158, [(4, .int z6), (3, .int w2), (0, .ref 151), (1, .int a1), (2, .int a2)], [.int ((208 : Int32) + z6), .int a1, .ref 151])) rfl ?_
      refine e_vV 319 rfl rfl ix_X12_joinView rfl (q_recvOf lc_151 rfl) (Nat.le_of_ble_eq_true rfl) (fun s70 e71 => ?_)
      refine e_L 3 (f' := (164, [(4, .int z6), (3, .int w2), (0, .ref 151), (1, .int a1), (2, .int a2)], [.ref 151, .int a1, .ref 151])) rfl ?_
      refine e_gR (q := 174) 12 43 rfl rfl lc_151 lr_151_43 ?_
      refine e_L 1 (f' := (168, [(4, .int z6), (3, .int w2), (0, .ref 151), (1, .int a1), (2, .int a2)], [.int w2, .ref 174, .int a1, .ref 151])) rfl ?_
      refine e_ial (n := 400) (k := w2.toNatClampNeg) rfl lc_174 ln_174 h5 rfl ?_
      refine e_vV 302 rfl rfl ix_X12_goTo rfl (q_recvOf lc_151 rfl) (Nat.le_of_ble_eq_true rfl) (fun s73 e74 => ?_)
      exact e_rV rfl rfl
  · refine e_L 2 (f' := (9, [(0, .ref 151), (1, .int a1), (2, .int a2)], [.int (-2 : Int32), .ref 151])) rfl ?_
    refine e_pI 12 68 rfl rfl lc_151 rfl ?_
    refine e_nS fun s75 => ?_
    refine e_L 2 (f' := (15, [(0, .ref 151), (1, .int a1), (2, .int a2)], [.int (20 : Int32), .ref 151])) rfl ?_
    refine e_pI 12 69 rfl rfl lc_151 rfl ?_
    refine e_nS fun s76 => ?_
    refine e_L 2 (f' := (20, [(0, .ref 151), (1, .int a1), (2, .int a2)], [.ref 151, .ref 151])) rfl ?_
    refine e_gR (q := 187) 12 57 rfl rfl lc_151 lr_151_57 ?_
    refine e_L 5 (f' := (29, [(0, .ref 151), (1, .int a1), (2, .int a2)], [.int ((56 : Int32) + ((3 : Int32) * a1)), .ref 187, .ref 151])) rfl ?_
    refine qle_gd fun h77 => ?_
    refine e_ial (n := 216) (k := ((56 : Int32) + ((3 : Int32) * a1)).toNatClampNeg) rfl lc_187 ln_187 h77 rfl ?_
    refine e_pI 12 70 rfl rfl lc_151 rfl ?_
    refine e_nS fun s78 => ?_
    refine e_L 2 (f' := (35, [(0, .ref 151), (1, .int a1), (2, .int a2)], [.int a1, .ref 151])) rfl ?_
    refine e_vV 320 rfl rfl ix_X12_flush rfl (q_recvOf lc_151 rfl) (Nat.le_of_ble_eq_true rfl) (fun s80 e81 => ?_)
    exact e_rV rfl rfl
noncomputable def L_X12_atOnce_23 (en : pN) (d : Nat) (v1 : Int32) (v2 : Int32) (v3 : Int32) (v4 : Int32) (v5 : Int32) (vs0 : Int32) (s : qS) : Option qR := qE (qev en d) en none tb_X12_atOnce (23, [(0, .ref 151), (1, .int v1), (2, .int v2), (3, .int v3), (4, .int v4), (5, .int v5)], [.int vs0]) s
noncomputable def L_X12_atOnce_59 (en : pN) (d : Nat) (v1 : Int32) (v2 : Int32) (v3 : Int32) (v4 : Int32) (v5 : Int32) (v6 : Int32) (v7 : Int32) (s : qS) : Option qR := qE (qev en d) en none tb_X12_atOnce (59, [(0, .ref 151), (1, .int v1), (2, .int v2), (3, .int v3), (4, .int v4), (5, .int v5), (6, .int v6), (7, .int v7)], []) s
noncomputable def L_X12_atOnce_75 (en : pN) (d : Nat) (v1 : Int32) (v2 : Int32) (v3 : Int32) (v4 : Int32) (v5 : Int32) (v6 : Int32) (v7 : Int32) (vs0 : Int32) (s : qS) : Option qR := qE (qev en d) en none tb_X12_atOnce (75, [(0, .ref 151), (1, .int v1), (2, .int v2), (3, .int v3), (4, .int v4), (5, .int v5), (6, .int v6), (7, .int v7)], [.int vs0]) s
noncomputable def L_X12_atOnce_95 (en : pN) (d : Nat) (v1 : Int32) (v2 : Int32) (v3 : Int32) (v4 : Int32) (v5 : Int32) (v6 : Int32) (v7 : Int32) (v8 : Int32) (s : qS) : Option qR := qE (qev en d) en none tb_X12_atOnce (95, [(0, .ref 151), (1, .int v1), (2, .int v2), (3, .int v3), (4, .int v4), (5, .int v5), (6, .int v6), (7, .int v7), (8, .int v8)], []) s
noncomputable def L_X12_atOnce_114 (en : pN) (d : Nat) (v1 : Int32) (v2 : Int32) (v5 : Int32) (v6 : Int32) (v7 : Int32) (v8 : Int32) (vs0 : Int32) (s : qS) : Option qR := qE (qev en d) en none tb_X12_atOnce (114, [(0, .ref 151), (1, .int v1), (2, .int v2), (5, .int v5), (6, .int v6), (7, .int v7), (8, .int v8)], [.int vs0]) s
noncomputable def L_X12_atOnce_149 (en : pN) (d : Nat) (v1 : Int32) (v2 : Int32) (v6 : Int32) (v7 : Int32) (v8 : Int32) (s : qS) : Option qR := qE (qev en d) en none tb_X12_atOnce (149, [(0, .ref 151), (1, .int v1), (2, .int v2), (6, .int v6), (7, .int v7), (8, .int v8)], []) s
noncomputable def L_X12_atOnce_167 (en : pN) (d : Nat) (vs1 : Int32) (vs2 : Int32) (vs3 : Int32) (s : qS) : Option qR := qE (qev en d) en none tb_X12_atOnce (167, [], [.int vs3, .int vs2, .int vs1, .ref 151]) s
set_option maxRecDepth 100000 in
set_option maxHeartbeats 4000000 in
theorem le_X12_atOnce_23 (en : pN) (d : Nat) (v1 : Int32) (v2 : Int32) (v3 : Int32) (v4 : Int32) (v5 : Int32) (vs0 : Int32) (s : qS) : qle (gd (p_inB ((44 : Int32) + v5) 216 = true) (nm (s.1 187 ((44 : Int32) + v5).toNatClampNeg) (fun z2 => if vs0 = (0 : Int32) then L_X12_atOnce_59 en d v1 v2 v3 v4 v5 vs0 z2 s else bI (qev en d 295 [.int (z2 + v3)] s) (fun w4 s5 => if ¬ w4 = (0 : Int32) then L_X12_atOnce_59 en d v1 v2 v3 v4 v5 vs0 z2 s5 else bV (qev en d 317 [.ref 151, .int v1, .int (1 : Int32)] s5) (fun s9 => some (none, s9)))))) (L_X12_atOnce_23 en d v1 v2 v3 v4 v5 vs0 s) := by
  show qle _ (qE (qev en d) en none tb_X12_atOnce (23, [(0, .ref 151), (1, .int v1), (2, .int v2), (3, .int v3), (4, .int v4), (5, .int v5)], [.int vs0]) s)
  refine e_L 2 (f' := (26, [(6, .int vs0), (0, .ref 151), (1, .int v1), (2, .int v2), (3, .int v3), (4, .int v4), (5, .int v5)], [.ref 151])) rfl ?_
  refine e_gR (q := 187) 12 57 rfl rfl lc_151 lr_151_57 ?_
  refine e_L 3 (f' := (34, [(6, .int vs0), (0, .ref 151), (1, .int v1), (2, .int v2), (3, .int v3), (4, .int v4), (5, .int v5)], [.int ((44 : Int32) + v5), .ref 187])) rfl ?_
  refine qle_gd fun h1 => ?_
  refine e_ial (n := 216) (k := ((44 : Int32) + v5).toNatClampNeg) rfl lc_187 ln_187 h1 rfl ?_
  refine e_nI fun z2 => ?_
  refine e_L 2 (f' := (39, [(7, .int z2), (6, .int vs0), (0, .ref 151), (1, .int v1), (2, .int v2), (3, .int v3), (4, .int v4), (5, .int v5)], [.int vs0])) rfl ?_
  refine e_ifz 59 rfl rfl rfl (fun c3 => ?_) (fun c3 => ?_)
  · exact qE_sub (qsubL [2, 3, 4, 5, 6, 7, 1, 0] rfl (ks := [7, 6, 0, 1, 2, 3, 4, 5]) rfl (by decide))
  · refine e_L 3 (f' := (46, [(7, .int z2), (6, .int vs0), (0, .ref 151), (1, .int v1), (2, .int v2), (3, .int v3), (4, .int v4), (5, .int v5)], [.int (z2 + v3)])) rfl ?_
    refine e_sI 295 rfl rfl rfl ix_X12_isValue rfl (Nat.le_of_ble_eq_true rfl) (fun w4 s5 e6 => ?_)
    refine e_ifz 59 rfl rfl rfl (fun c7 => ?_) (fun c7 => ?_)
    · exact qE_sub (qsubL [2, 3, 4, 5, 6, 7, 1, 0] rfl (ks := [7, 6, 0, 1, 2, 3, 4, 5]) rfl (by decide))
    · refine e_L 3 (f' := (55, [(7, .int z2), (6, .int vs0), (0, .ref 151), (1, .int v1), (2, .int v2), (3, .int v3), (4, .int v4), (5, .int v5)], [.int (1 : Int32), .int v1, .ref 151])) rfl ?_
      refine e_vV 317 rfl rfl ix_X12_goWrong rfl (q_recvOf lc_151 rfl) (Nat.le_of_ble_eq_true rfl) (fun s9 e10 => ?_)
      exact e_rV rfl rfl
set_option maxRecDepth 100000 in
set_option maxHeartbeats 4000000 in
theorem le_X12_atOnce_59 (en : pN) (d : Nat) (v1 : Int32) (v2 : Int32) (v3 : Int32) (v4 : Int32) (v5 : Int32) (v6 : Int32) (v7 : Int32) (s : qS) : qle (if ¬ v6 = (0 : Int32) then L_X12_atOnce_75 en d v1 v2 v3 v4 v5 v6 v7 (1 : Int32) s else if ¬ v7 = v3 then L_X12_atOnce_75 en d v1 v2 v3 v4 v5 v6 v7 (0 : Int32) s else L_X12_atOnce_75 en d v1 v2 v3 v4 v5 v6 v7 (1 : Int32) s) (L_X12_atOnce_59 en d v1 v2 v3 v4 v5 v6 v7 s) := by
  show qle _ (qE (qev en d) en none tb_X12_atOnce (59, [(0, .ref 151), (1, .int v1), (2, .int v2), (3, .int v3), (4, .int v4), (5, .int v5), (6, .int v6), (7, .int v7)], []) s)
  refine e_L 1 (f' := (61, [(0, .ref 151), (1, .int v1), (2, .int v2), (3, .int v3), (4, .int v4), (5, .int v5), (6, .int v6), (7, .int v7)], [.int v6])) rfl ?_
  refine e_ifz 70 rfl rfl rfl (fun c1 => ?_) (fun c1 => ?_)
  · refine e_L 2 (f' := (75, [(0, .ref 151), (1, .int v1), (2, .int v2), (3, .int v3), (4, .int v4), (5, .int v5), (6, .int v6), (7, .int v7)], [.int (1 : Int32)])) rfl ?_
    exact qE_sub (qsubL [0, 1, 2, 3, 4, 5, 6, 7] rfl (ks := [0, 1, 2, 3, 4, 5, 6, 7]) rfl (by decide))
  · refine e_L 2 (f' := (67, [(0, .ref 151), (1, .int v1), (2, .int v2), (3, .int v3), (4, .int v4), (5, .int v5), (6, .int v6), (7, .int v7)], [.int v3, .int v7])) rfl ?_
    refine e_icmp 74 rfl rfl rfl (fun c2 => ?_) (fun c2 => ?_)
    · refine e_L 1 (f' := (75, [(0, .ref 151), (1, .int v1), (2, .int v2), (3, .int v3), (4, .int v4), (5, .int v5), (6, .int v6), (7, .int v7)], [.int (0 : Int32)])) rfl ?_
      exact qE_sub (qsubL [0, 1, 2, 3, 4, 5, 6, 7] rfl (ks := [0, 1, 2, 3, 4, 5, 6, 7]) rfl (by decide))
    · refine e_L 2 (f' := (75, [(0, .ref 151), (1, .int v1), (2, .int v2), (3, .int v3), (4, .int v4), (5, .int v5), (6, .int v6), (7, .int v7)], [.int (1 : Int32)])) rfl ?_
      exact qE_sub (qsubL [0, 1, 2, 3, 4, 5, 6, 7] rfl (ks := [0, 1, 2, 3, 4, 5, 6, 7]) rfl (by decide))
set_option maxRecDepth 100000 in
set_option maxHeartbeats 4000000 in
theorem le_X12_atOnce_75 (en : pN) (d : Nat) (v1 : Int32) (v2 : Int32) (v3 : Int32) (v4 : Int32) (v5 : Int32) (v6 : Int32) (v7 : Int32) (vs0 : Int32) (s : qS) : qle (if ¬ (s.1 151 58) = (2 : Int32) then L_X12_atOnce_95 en d v1 v2 v3 v4 v5 v6 v7 vs0 s else bI (qev en d 309 [.ref 151, .int v1, .int v5, .int (1 : Int32)] s) (fun w2 s3 => L_X12_atOnce_95 en d v1 v2 v3 v4 v5 v6 w2 vs0 s3)) (L_X12_atOnce_75 en d v1 v2 v3 v4 v5 v6 v7 vs0 s) := by
  show qle _ (qE (qev en d) en none tb_X12_atOnce (75, [(0, .ref 151), (1, .int v1), (2, .int v2), (3, .int v3), (4, .int v4), (5, .int v5), (6, .int v6), (7, .int v7)], [.int vs0]) s)
  refine e_L 2 (f' := (78, [(8, .int vs0), (0, .ref 151), (1, .int v1), (2, .int v2), (3, .int v3), (4, .int v4), (5, .int v5), (6, .int v6), (7, .int v7)], [.ref 151])) rfl ?_
  refine e_gI 12 58 rfl rfl lc_151 ?_
  refine e_L 1 (f' := (82, [(8, .int vs0), (0, .ref 151), (1, .int v1), (2, .int v2), (3, .int v3), (4, .int v4), (5, .int v5), (6, .int v6), (7, .int v7)], [.int (2 : Int32), .int (s.1 151 58)])) rfl ?_
  refine e_icmp 95 rfl rfl rfl (fun c1 => ?_) (fun c1 => ?_)
  · exact qE_sub (qsubL [1, 2, 3, 4, 5, 6, 7, 8, 0] rfl (ks := [8, 0, 1, 2, 3, 4, 5, 6, 7]) rfl (by decide))
  · refine e_L 4 (f' := (90, [(8, .int vs0), (0, .ref 151), (1, .int v1), (2, .int v2), (3, .int v3), (4, .int v4), (5, .int v5), (6, .int v6), (7, .int v7)], [.int (1 : Int32), .int v5, .int v1, .ref 151])) rfl ?_
    refine e_vI 309 rfl rfl ix_X12_seeLast rfl (q_recvOf lc_151 rfl) (Nat.le_of_ble_eq_true rfl) (fun w2 s3 e4 => ?_)
    refine e_L 1 (f' := (95, [(7, .int w2), (8, .int vs0), (0, .ref 151), (1, .int v1), (2, .int v2), (3, .int v3), (4, .int v4), (5, .int v5), (6, .int v6)], [])) rfl ?_
    exact qE_sub (qsubL [2, 3, 4, 5, 6, 7, 8, 0, 1] rfl (ks := [7, 8, 0, 1, 2, 3, 4, 5, 6]) rfl (by decide))
set_option maxRecDepth 100000 in
set_option maxHeartbeats 4000000 in
theorem le_X12_atOnce_95 (en : pN) (d : Nat) (v1 : Int32) (v2 : Int32) (v3 : Int32) (v4 : Int32) (v5 : Int32) (v6 : Int32) (v7 : Int32) (v8 : Int32) (s : qS) : qle (if v8 = (0 : Int32) then L_X12_atOnce_149 en d v1 v2 v6 v7 v8 s else if v6 = (0 : Int32) then L_X12_atOnce_114 en d v1 v2 v5 v6 v7 v8 v4 s else L_X12_atOnce_114 en d v1 v2 v5 v6 v7 v8 (v7 + v3) s) (L_X12_atOnce_95 en d v1 v2 v3 v4 v5 v6 v7 v8 s) := by
  show qle _ (qE (qev en d) en none tb_X12_atOnce (95, [(0, .ref 151), (1, .int v1), (2, .int v2), (3, .int v3), (4, .int v4), (5, .int v5), (6, .int v6), (7, .int v7), (8, .int v8)], []) s)
  refine e_L 1 (f' := (97, [(0, .ref 151), (1, .int v1), (2, .int v2), (3, .int v3), (4, .int v4), (5, .int v5), (6, .int v6), (7, .int v7), (8, .int v8)], [.int v8])) rfl ?_
  refine e_ifz 149 rfl rfl rfl (fun c1 => ?_) (fun c1 => ?_)
  · exact qE_sub (qsubL [0, 1, 2, 6, 7, 8] rfl (ks := [0, 1, 2, 3, 4, 5, 6, 7, 8]) rfl (by decide))
  · refine e_L 1 (f' := (102, [(0, .ref 151), (1, .int v1), (2, .int v2), (3, .int v3), (4, .int v4), (5, .int v5), (6, .int v6), (7, .int v7), (8, .int v8)], [.int v6])) rfl ?_
    refine e_ifz 112 rfl rfl rfl (fun c2 => ?_) (fun c2 => ?_)
    · refine e_L 1 (f' := (114, [(0, .ref 151), (1, .int v1), (2, .int v2), (3, .int v3), (4, .int v4), (5, .int v5), (6, .int v6), (7, .int v7), (8, .int v8)], [.int v4])) rfl ?_
      exact qE_sub (qsubL [0, 1, 2, 5, 6, 7, 8] rfl (ks := [0, 1, 2, 3, 4, 5, 6, 7, 8]) rfl (by decide))
    · refine e_L 4 (f' := (114, [(0, .ref 151), (1, .int v1), (2, .int v2), (3, .int v3), (4, .int v4), (5, .int v5), (6, .int v6), (7, .int v7), (8, .int v8)], [.int (v7 + v3)])) rfl ?_
      exact qE_sub (qsubL [0, 1, 2, 5, 6, 7, 8] rfl (ks := [0, 1, 2, 3, 4, 5, 6, 7, 8]) rfl (by decide))
set_option maxRecDepth 100000 in
set_option maxHeartbeats 4000000 in
theorem le_X12_atOnce_114 (en : pN) (d : Nat) (v1 : Int32) (v2 : Int32) (v5 : Int32) (v6 : Int32) (v7 : Int32) (v8 : Int32) (vs0 : Int32) (s : qS) : qle (if ¬ (s.1 151 58) = (2 : Int32) then gd (p_inB ((44 : Int32) + v5) 216 = true) (nm (uI s 187 (((44 : Int32) + v5).toNatClampNeg) vs0) (fun s3 => L_X12_atOnce_149 en d v1 v2 v6 v7 v8 s3)) else bV (qev en d 308 [.ref 151, .int v1, .int v5, .int vs0, .int (1 : Int32)] s) (fun s5 => L_X12_atOnce_149 en d v1 v2 v6 v7 v8 s5)) (L_X12_atOnce_114 en d v1 v2 v5 v6 v7 v8 vs0 s) := by
  show qle _ (qE (qev en d) en none tb_X12_atOnce (114, [(0, .ref 151), (1, .int v1), (2, .int v2), (5, .int v5), (6, .int v6), (7, .int v7), (8, .int v8)], [.int vs0]) s)
  refine e_L 2 (f' := (117, [(9, .int vs0), (0, .ref 151), (1, .int v1), (2, .int v2), (5, .int v5), (6, .int v6), (7, .int v7), (8, .int v8)], [.ref 151])) rfl ?_
  refine e_gI 12 58 rfl rfl lc_151 ?_
  refine e_L 1 (f' := (121, [(9, .int vs0), (0, .ref 151), (1, .int v1), (2, .int v2), (5, .int v5), (6, .int v6), (7, .int v7), (8, .int v8)], [.int (2 : Int32), .int (s.1 151 58)])) rfl ?_
  refine e_icmp 137 rfl rfl rfl (fun c1 => ?_) (fun c1 => ?_)
  · refine e_L 1 (f' := (138, [(9, .int vs0), (0, .ref 151), (1, .int v1), (2, .int v2), (5, .int v5), (6, .int v6), (7, .int v7), (8, .int v8)], [.ref 151])) rfl ?_
    refine e_gR (q := 187) 12 57 rfl rfl lc_151 lr_151_57 ?_
    refine e_L 4 (f' := (148, [(9, .int vs0), (0, .ref 151), (1, .int v1), (2, .int v2), (5, .int v5), (6, .int v6), (7, .int v7), (8, .int v8)], [.int vs0, .int ((44 : Int32) + v5), .ref 187])) rfl ?_
    refine qle_gd fun h2 => ?_
    refine e_ias (n := 216) (k := ((44 : Int32) + v5).toNatClampNeg) rfl lc_187 ln_187 h2 rfl ?_
    refine e_nS fun s3 => ?_
    exact qE_sub (qsubL [1, 2, 3, 5, 6, 7] rfl (ks := [9, 0, 1, 2, 5, 6, 7, 8]) rfl (by decide))
  · refine e_L 5 (f' := (131, [(9, .int vs0), (0, .ref 151), (1, .int v1), (2, .int v2), (5, .int v5), (6, .int v6), (7, .int v7), (8, .int v8)], [.int (1 : Int32), .int vs0, .int v5, .int v1, .ref 151])) rfl ?_
    refine e_vV 308 rfl rfl ix_X12_write rfl (q_recvOf lc_151 rfl) (Nat.le_of_ble_eq_true rfl) (fun s5 e6 => ?_)
    refine e_L 1 (f' := (149, [(9, .int vs0), (0, .ref 151), (1, .int v1), (2, .int v2), (5, .int v5), (6, .int v6), (7, .int v7), (8, .int v8)], [])) rfl ?_
    exact qE_sub (qsubL [1, 2, 3, 5, 6, 7] rfl (ks := [9, 0, 1, 2, 5, 6, 7, 8]) rfl (by decide))
set_option maxRecDepth 100000 in
set_option maxHeartbeats 4000000 in
theorem le_X12_atOnce_149 (en : pN) (d : Nat) (v1 : Int32) (v2 : Int32) (v6 : Int32) (v7 : Int32) (v8 : Int32) (s : qS) : qle (if v6 = (0 : Int32) then bI (qev en d 294 [.int v8] s) (fun w2 s3 => L_X12_atOnce_167 en d v1 v2 w2 s3) else L_X12_atOnce_167 en d v1 v2 v7 s) (L_X12_atOnce_149 en d v1 v2 v6 v7 v8 s) := by
  show qle _ (qE (qev en d) en none tb_X12_atOnce (149, [(0, .ref 151), (1, .int v1), (2, .int v2), (6, .int v6), (7, .int v7), (8, .int v8)], []) s)
  refine e_L 4 (f' := (154, [(0, .ref 151), (1, .int v1), (2, .int v2), (6, .int v6), (7, .int v7), (8, .int v8)], [.int v6, .int v2, .int v1, .ref 151])) rfl ?_
  refine e_ifz 162 rfl rfl rfl (fun c1 => ?_) (fun c1 => ?_)
  · refine e_L 1 (f' := (164, [(0, .ref 151), (1, .int v1), (2, .int v2), (6, .int v6), (7, .int v7), (8, .int v8)], [.int v8, .int v2, .int v1, .ref 151])) rfl ?_
    refine e_sI 294 rfl rfl rfl ix_X12_truth rfl (Nat.le_of_ble_eq_true rfl) (fun w2 s3 e4 => ?_)
    exact qE_sub (qsubL [] rfl (ks := [0, 1, 2, 6, 7, 8]) rfl (by decide))
  · refine e_L 2 (f' := (167, [(0, .ref 151), (1, .int v1), (2, .int v2), (6, .int v6), (7, .int v7), (8, .int v8)], [.int v7, .int v2, .int v1, .ref 151])) rfl ?_
    exact qE_sub (qsubL [] rfl (ks := [0, 1, 2, 6, 7, 8]) rfl (by decide))
set_option maxRecDepth 100000 in
set_option maxHeartbeats 4000000 in
theorem le_X12_atOnce_167 (en : pN) (d : Nat) (vs1 : Int32) (vs2 : Int32) (vs3 : Int32) (s : qS) : qle (bV (qev en d 323 [.ref 151, .int vs1, .int vs2, .int vs3] s) (fun s2 => some (none, s2))) (L_X12_atOnce_167 en d vs1 vs2 vs3 s) := by
  show qle _ (qE (qev en d) en none tb_X12_atOnce (167, [], [.int vs3, .int vs2, .int vs1, .ref 151]) s)
  refine e_vV 323 rfl rfl ix_X12_setLocal rfl (q_recvOf lc_151 rfl) (Nat.le_of_ble_eq_true rfl) (fun s2 e3 => ?_)
  exact e_rV rfl rfl
set_option maxRecDepth 100000 in
set_option maxHeartbeats 4000000 in
theorem le_X12_atOnce (en : pN) (d : Nat) (a1 : Int32) (a2 : Int32) (a3 : Int32) (a4 : Int32) (s : qS) : qle (gd (p_inB a2 400 = true) (nm (s.1 166 a2.toNatClampNeg) (fun z2 => if ¬ (s.1 164 a2.toNatClampNeg) = (4 : Int32) then L_X12_atOnce_23 en d a1 a2 a3 a4 z2 (0 : Int32) s else L_X12_atOnce_23 en d a1 a2 a3 a4 z2 (1 : Int32) s))) (qev en (d + 1) 325 [.ref 151, .int a1, .int a2, .int a3, .int a4] s) := by
  refine e_enter ix_X12_atOnce (Nat.le_of_ble_eq_true rfl) ?_
  show qle _ (qE (qev en d) en none tb_X12_atOnce (0, [(0, .ref 151), (1, .int a1), (2, .int a2), (3, .int a3), (4, .int a4)], []) s)
  refine e_L 1 (f' := (1, [(0, .ref 151), (1, .int a1), (2, .int a2), (3, .int a3), (4, .int a4)], [.ref 151])) rfl ?_
  refine e_gR (q := 166) 12 35 rfl rfl lc_151 lr_151_35 ?_
  refine e_L 1 (f' := (5, [(0, .ref 151), (1, .int a1), (2, .int a2), (3, .int a3), (4, .int a4)], [.int a2, .ref 166])) rfl ?_
  refine qle_gd fun h1 => ?_
  refine e_ial (n := 400) (k := a2.toNatClampNeg) rfl lc_166 ln_166 h1 rfl ?_
  refine e_nI fun z2 => ?_
  refine e_L 2 (f' := (9, [(5, .int z2), (0, .ref 151), (1, .int a1), (2, .int a2), (3, .int a3), (4, .int a4)], [.ref 151])) rfl ?_
  refine e_gR (q := 164) 12 33 rfl rfl lc_151 lr_151_33 ?_
  refine e_L 1 (f' := (13, [(5, .int z2), (0, .ref 151), (1, .int a1), (2, .int a2), (3, .int a3), (4, .int a4)], [.int a2, .ref 164])) rfl ?_
  refine e_ial (n := 400) (k := a2.toNatClampNeg) rfl lc_164 ln_164 h1 rfl ?_
  refine e_L 1 (f' := (15, [(5, .int z2), (0, .ref 151), (1, .int a1), (2, .int a2), (3, .int a3), (4, .int a4)], [.int (4 : Int32), .int (s.1 164 a2.toNatClampNeg)])) rfl ?_
  refine e_icmp 22 rfl rfl rfl (fun c3 => ?_) (fun c3 => ?_)
  · refine e_L 1 (f' := (23, [(5, .int z2), (0, .ref 151), (1, .int a1), (2, .int a2), (3, .int a3), (4, .int a4)], [.int (0 : Int32)])) rfl ?_
    exact qE_sub (qsubL [1, 2, 3, 4, 5, 0] rfl (ks := [5, 0, 1, 2, 3, 4]) rfl (by decide))
  · refine e_L 2 (f' := (23, [(5, .int z2), (0, .ref 151), (1, .int a1), (2, .int a2), (3, .int a3), (4, .int a4)], [.int (1 : Int32)])) rfl ?_
    exact qE_sub (qsubL [1, 2, 3, 4, 5, 0] rfl (ks := [5, 0, 1, 2, 3, 4]) rfl (by decide))
noncomputable def L_X12_beginOther_46 (en : pN) (d : Nat) (v2 : Int32) (s : qS) : Option qR := qE (qev en d) en none tb_X12_beginOther (46, [(0, .ref 151), (2, .int v2)], []) s
set_option maxRecDepth 100000 in
set_option maxHeartbeats 4000000 in
theorem le_X12_beginOther_46 (en : pN) (d : Nat) (v2 : Int32) (s : qS) : qle (bV (qev en d 301 [.ref 151, .int v2] s) (fun s2 => some (none, s2))) (L_X12_beginOther_46 en d v2 s) := by
  show qle _ (qE (qev en d) en none tb_X12_beginOther (46, [(0, .ref 151), (2, .int v2)], []) s)
  refine e_L 2 (f' := (48, [(0, .ref 151), (2, .int v2)], [.int v2, .ref 151])) rfl ?_
  refine e_vV 301 rfl rfl ix_X12_beginThread rfl (q_recvOf lc_151 rfl) (Nat.le_of_ble_eq_true rfl) (fun s2 e3 => ?_)
  exact e_rV rfl rfl
set_option maxRecDepth 100000 in
set_option maxHeartbeats 4000000 in
theorem le_X12_beginOther (en : pN) (d : Nat) (a1 : Int32) (a2 : Int32) (s : qS) : qle (gd (p_inB ((0 : Int32) + a2) 216 = true) (if (s.1 187 ((0 : Int32) + a2).toNatClampNeg) = (0 : Int32) then if ¬ (s.1 151 58) = (2 : Int32) then L_X12_beginOther_46 en d a2 s else gd (p_inB ((204 : Int32) + a1) 216 = true) (gd (p_inB ((204 : Int32) + a2) 216 = true) (nm (uI s 187 (((204 : Int32) + a2).toNatClampNeg) (s.1 187 ((204 : Int32) + a1).toNatClampNeg)) (fun s6 => L_X12_beginOther_46 en d a2 s6))) else bV (qev en d 317 [.ref 151, .int a1, .int (3 : Int32)] s) (fun s8 => some (none, s8)))) (qev en (d + 1) 326 [.ref 151, .int a1, .int a2] s) := by
  refine e_enter ix_X12_beginOther (Nat.le_of_ble_eq_true rfl) ?_
  show qle _ (qE (qev en d) en none tb_X12_beginOther (0, [(0, .ref 151), (1, .int a1), (2, .int a2)], []) s)
  refine e_L 1 (f' := (1, [(0, .ref 151), (1, .int a1), (2, .int a2)], [.ref 151])) rfl ?_
  refine e_gR (q := 187) 12 57 rfl rfl lc_151 lr_151_57 ?_
  refine e_L 3 (f' := (7, [(0, .ref 151), (1, .int a1), (2, .int a2)], [.int ((0 : Int32) + a2), .ref 187])) rfl ?_
  refine qle_gd fun h1 => ?_
  refine e_ial (n := 216) (k := ((0 : Int32) + a2).toNatClampNeg) rfl lc_187 ln_187 h1 rfl ?_
  refine e_ifz 18 rfl rfl rfl (fun c2 => ?_) (fun c2 => ?_)
  · refine e_L 1 (f' := (19, [(0, .ref 151), (1, .int a1), (2, .int a2)], [.ref 151])) rfl ?_
    refine e_gI 12 58 rfl rfl lc_151 ?_
    refine e_L 1 (f' := (23, [(0, .ref 151), (1, .int a1), (2, .int a2)], [.int (2 : Int32), .int (s.1 151 58)])) rfl ?_
    refine e_icmp 46 rfl rfl rfl (fun c3 => ?_) (fun c3 => ?_)
    · exact qE_sub (qsubL [0, 2] rfl (ks := [0, 1, 2]) rfl (by decide))
    · refine e_L 1 (f' := (27, [(0, .ref 151), (1, .int a1), (2, .int a2)], [.ref 151])) rfl ?_
      refine e_gR (q := 187) 12 57 rfl rfl lc_151 lr_151_57 ?_
      refine e_L 4 (f' := (36, [(0, .ref 151), (1, .int a1), (2, .int a2)], [.ref 151, .int ((204 : Int32) + a2), .ref 187])) rfl ?_
      refine e_gR (q := 187) 12 57 rfl rfl lc_151 lr_151_57 ?_
      refine e_L 3 (f' := (44, [(0, .ref 151), (1, .int a1), (2, .int a2)], [.int ((204 : Int32) + a1), .ref 187, .int ((204 : Int32) + a2), .ref 187])) rfl ?_
      refine qle_gd fun h4 => ?_
      refine e_ial (n := 216) (k := ((204 : Int32) + a1).toNatClampNeg) rfl lc_187 ln_187 h4 rfl ?_
      refine qle_gd fun h5 => ?_
      refine e_ias (n := 216) (k := ((204 : Int32) + a2).toNatClampNeg) rfl lc_187 ln_187 h5 rfl ?_
      refine e_nS fun s6 => ?_
      exact qE_sub (qsubL [0, 2] rfl (ks := [0, 1, 2]) rfl (by decide))
  · refine e_L 3 (f' := (14, [(0, .ref 151), (1, .int a1), (2, .int a2)], [.int (3 : Int32), .int a1, .ref 151])) rfl ?_
    refine e_vV 317 rfl rfl ix_X12_goWrong rfl (q_recvOf lc_151 rfl) (Nat.le_of_ble_eq_true rfl) (fun s8 e9 => ?_)
    exact e_rV rfl rfl
noncomputable def L_X12_doLock_29 (en : pN) (d : Nat) (v1 : Int32) (v2 : Int32) (v3 : Int32) (v4 : Int32) (vs0 : Int32) (s : qS) : Option qR := qE (qev en d) en none tb_X12_doLock (29, [(0, .ref 151), (1, .int v1), (2, .int v2), (3, .int v3), (4, .int v4)], [.int vs0]) s
noncomputable def L_X12_doLock_68 (en : pN) (d : Nat) (v1 : Int32) (v4 : Int32) (v5 : Int32) (s : qS) : Option qR := qE (qev en d) en none tb_X12_doLock (68, [(0, .ref 151), (1, .int v1), (4, .int v4), (5, .int v5)], []) s
noncomputable def L_X12_doLock_98 (en : pN) (d : Nat) (v1 : Int32) (v4 : Int32) (s : qS) : Option qR := qE (qev en d) en none tb_X12_doLock (98, [(0, .ref 151), (1, .int v1), (4, .int v4)], []) s
noncomputable def L_X12_doLock_150 (en : pN) (d : Nat) (v2 : Int32) (v3 : Int32) (v4 : Int32) (v6 : Int32) (v7 : Int32) (s : qS) : Option qR := qE (qev en d) en none tb_X12_doLock (150, [(0, .ref 151), (2, .int v2), (3, .int v3), (4, .int v4), (6, .int v6), (7, .int v7)], []) s
noncomputable def L_X12_doLock_218 (en : pN) (d : Nat) (v2 : Int32) (v3 : Int32) (v4 : Int32) (v6 : Int32) (v7 : Int32) (vs1 : Int32) (vs2 : Int32) (s : qS) : Option qR := qE (qev en d) en none tb_X12_doLock (218, [(0, .ref 151), (2, .int v2), (3, .int v3), (4, .int v4), (6, .int v6), (7, .int v7)], [.int vs2, .int vs1, .ref 187]) s
noncomputable def L_X12_doLock_258 (en : pN) (d : Nat) (v1 : Int32) (v2 : Int32) (v4 : Int32) (s : qS) : Option qR := qE (qev en d) en none tb_X12_doLock (258, [(0, .ref 151), (1, .int v1), (2, .int v2), (4, .int v4)], []) s
noncomputable def L_X12_doLock_308 (en : pN) (d : Nat) (v4 : Int32) (s : qS) : Option qR := qE (qev en d) en none tb_X12_doLock (308, [(0, .ref 151), (4, .int v4)], []) s
noncomputable def L_X12_doLock_358 (en : pN) (d : Nat) (vs1 : Int32) (vs2 : Int32) (s : qS) : Option qR := qE (qev en d) en none tb_X12_doLock (358, [], [.int vs2, .int vs1, .ref 187]) s
set_option maxRecDepth 100000 in
set_option maxHeartbeats 4000000 in
theorem le_X12_doLock_29 (en : pN) (d : Nat) (v1 : Int32) (v2 : Int32) (v3 : Int32) (v4 : Int32) (vs0 : Int32) (s : qS) : qle (gd (p_inB v2 400 = true) (if ¬ (s.1 164 v2.toNatClampNeg) = (5 : Int32) then if ¬ vs0 = (0 : Int32) then if (s.1 164 v2.toNatClampNeg) = (8 : Int32) then L_X12_doLock_150 en d v2 v3 v4 (0 : Int32) (0 : Int32) s else if ¬ (s.1 164 v2.toNatClampNeg) = (9 : Int32) then if ¬ (s.1 151 58) = (2 : Int32) then L_X12_doLock_258 en d v1 v2 v4 s else gd (p_inB ((204 : Int32) + v1) 216 = true) (gd (p_inB ((208 : Int32) + v4) 216 = true) (nm (uI s 187 (((208 : Int32) + v4).toNatClampNeg) (s.1 187 ((204 : Int32) + v1).toNatClampNeg)) (fun s9 => L_X12_doLock_258 en d v1 v2 v4 s9))) else L_X12_doLock_150 en d v2 v3 v4 (0 : Int32) (0 : Int32) s else bV (qev en d 317 [.ref 151, .int v1, .int (2 : Int32)] s) (fun s11 => some (none, s11)) else if vs0 = (0 : Int32) then L_X12_doLock_68 en d v1 v4 vs0 s else gd (p_inB ((40 : Int32) + v4) 216 = true) (if ¬ (s.1 187 ((40 : Int32) + v4).toNatClampNeg) = (9 : Int32) then L_X12_doLock_68 en d v1 v4 vs0 s else bV (qev en d 317 [.ref 151, .int v1, .int (5 : Int32)] s) (fun s17 => some (none, s17))))) (L_X12_doLock_29 en d v1 v2 v3 v4 vs0 s) := by
  show qle _ (qE (qev en d) en none tb_X12_doLock (29, [(0, .ref 151), (1, .int v1), (2, .int v2), (3, .int v3), (4, .int v4)], [.int vs0]) s)
  refine e_L 2 (f' := (32, [(5, .int vs0), (0, .ref 151), (1, .int v1), (2, .int v2), (3, .int v3), (4, .int v4)], [.ref 151])) rfl ?_
  refine e_gR (q := 164) 12 33 rfl rfl lc_151 lr_151_33 ?_
  refine e_L 1 (f' := (36, [(5, .int vs0), (0, .ref 151), (1, .int v1), (2, .int v2), (3, .int v3), (4, .int v4)], [.int v2, .ref 164])) rfl ?_
  refine qle_gd fun h1 => ?_
  refine e_ial (n := 400) (k := v2.toNatClampNeg) rfl lc_164 ln_164 h1 rfl ?_
  refine e_L 1 (f' := (38, [(5, .int vs0), (0, .ref 151), (1, .int v1), (2, .int v2), (3, .int v3), (4, .int v4)], [.int (5 : Int32), .int (s.1 164 v2.toNatClampNeg)])) rfl ?_
  refine e_icmp 110 rfl rfl rfl (fun c2 => ?_) (fun c2 => ?_)
  · refine e_L 1 (f' := (112, [(5, .int vs0), (0, .ref 151), (1, .int v1), (2, .int v2), (3, .int v3), (4, .int v4)], [.int vs0])) rfl ?_
    refine e_ifz 122 rfl rfl rfl (fun c3 => ?_) (fun c3 => ?_)
    · refine e_L 1 (f' := (123, [(5, .int vs0), (0, .ref 151), (1, .int v1), (2, .int v2), (3, .int v3), (4, .int v4)], [.ref 151])) rfl ?_
      refine e_gR (q := 164) 12 33 rfl rfl lc_151 lr_151_33 ?_
      refine e_L 1 (f' := (127, [(5, .int vs0), (0, .ref 151), (1, .int v1), (2, .int v2), (3, .int v3), (4, .int v4)], [.int v2, .ref 164])) rfl ?_
      refine e_ial (n := 400) (k := v2.toNatClampNeg) rfl lc_164 ln_164 h1 rfl ?_
      refine e_L 1 (f' := (130, [(5, .int vs0), (0, .ref 151), (1, .int v1), (2, .int v2), (3, .int v3), (4, .int v4)], [.int (8 : Int32), .int (s.1 164 v2.toNatClampNeg)])) rfl ?_
      refine e_icmp 144 rfl rfl rfl (fun c4 => ?_) (fun c4 => ?_)
      · refine e_L 4 (f' := (150, [(7, .int (0 : Int32)), (6, .int (0 : Int32)), (5, .int vs0), (0, .ref 151), (1, .int v1), (2, .int v2), (3, .int v3), (4, .int v4)], [])) rfl ?_
        exact qE_sub (qsubL [3, 5, 6, 7, 1, 0] rfl (ks := [7, 6, 5, 0, 1, 2, 3, 4]) rfl (by decide))
      · refine e_L 1 (f' := (134, [(5, .int vs0), (0, .ref 151), (1, .int v1), (2, .int v2), (3, .int v3), (4, .int v4)], [.ref 151])) rfl ?_
        refine e_gR (q := 164) 12 33 rfl rfl lc_151 lr_151_33 ?_
        refine e_L 1 (f' := (138, [(5, .int vs0), (0, .ref 151), (1, .int v1), (2, .int v2), (3, .int v3), (4, .int v4)], [.int v2, .ref 164])) rfl ?_
        refine e_ial (n := 400) (k := v2.toNatClampNeg) rfl lc_164 ln_164 h1 rfl ?_
        refine e_L 1 (f' := (141, [(5, .int vs0), (0, .ref 151), (1, .int v1), (2, .int v2), (3, .int v3), (4, .int v4)], [.int (9 : Int32), .int (s.1 164 v2.toNatClampNeg)])) rfl ?_
        refine e_icmp 229 rfl rfl rfl (fun c5 => ?_) (fun c5 => ?_)
        · refine e_L 1 (f' := (230, [(5, .int vs0), (0, .ref 151), (1, .int v1), (2, .int v2), (3, .int v3), (4, .int v4)], [.ref 151])) rfl ?_
          refine e_gI 12 58 rfl rfl lc_151 ?_
          refine e_L 1 (f' := (234, [(5, .int vs0), (0, .ref 151), (1, .int v1), (2, .int v2), (3, .int v3), (4, .int v4)], [.int (2 : Int32), .int (s.1 151 58)])) rfl ?_
          refine e_icmp 258 rfl rfl rfl (fun c6 => ?_) (fun c6 => ?_)
          · exact qE_sub (qsubL [1, 2, 3, 5] rfl (ks := [5, 0, 1, 2, 3, 4]) rfl (by decide))
          · refine e_L 1 (f' := (238, [(5, .int vs0), (0, .ref 151), (1, .int v1), (2, .int v2), (3, .int v3), (4, .int v4)], [.ref 151])) rfl ?_
            refine e_gR (q := 187) 12 57 rfl rfl lc_151 lr_151_57 ?_
            refine e_L 4 (f' := (248, [(5, .int vs0), (0, .ref 151), (1, .int v1), (2, .int v2), (3, .int v3), (4, .int v4)], [.ref 151, .int ((208 : Int32) + v4), .ref 187])) rfl ?_
            refine e_gR (q := 187) 12 57 rfl rfl lc_151 lr_151_57 ?_
            refine e_L 3 (f' := (256, [(5, .int vs0), (0, .ref 151), (1, .int v1), (2, .int v2), (3, .int v3), (4, .int v4)], [.int ((204 : Int32) + v1), .ref 187, .int ((208 : Int32) + v4), .ref 187])) rfl ?_
            refine qle_gd fun h7 => ?_
            refine e_ial (n := 216) (k := ((204 : Int32) + v1).toNatClampNeg) rfl lc_187 ln_187 h7 rfl ?_
            refine qle_gd fun h8 => ?_
            refine e_ias (n := 216) (k := ((208 : Int32) + v4).toNatClampNeg) rfl lc_187 ln_187 h8 rfl ?_
            refine e_nS fun s9 => ?_
            exact qE_sub (qsubL [1, 2, 3, 5] rfl (ks := [5, 0, 1, 2, 3, 4]) rfl (by decide))
        · refine e_L 4 (f' := (150, [(7, .int (0 : Int32)), (6, .int (0 : Int32)), (5, .int vs0), (0, .ref 151), (1, .int v1), (2, .int v2), (3, .int v3), (4, .int v4)], [])) rfl ?_
          exact qE_sub (qsubL [3, 5, 6, 7, 1, 0] rfl (ks := [7, 6, 5, 0, 1, 2, 3, 4]) rfl (by decide))
    · refine e_L 3 (f' := (118, [(5, .int vs0), (0, .ref 151), (1, .int v1), (2, .int v2), (3, .int v3), (4, .int v4)], [.int (2 : Int32), .int v1, .ref 151])) rfl ?_
      refine e_vV 317 rfl rfl ix_X12_goWrong rfl (q_recvOf lc_151 rfl) (Nat.le_of_ble_eq_true rfl) (fun s11 e12 => ?_)
      exact e_rV rfl rfl
  · refine e_L 1 (f' := (43, [(5, .int vs0), (0, .ref 151), (1, .int v1), (2, .int v2), (3, .int v3), (4, .int v4)], [.int vs0])) rfl ?_
    refine e_ifz 68 rfl rfl rfl (fun c13 => ?_) (fun c13 => ?_)
    · exact qE_sub (qsubL [1, 2, 5, 0] rfl (ks := [5, 0, 1, 2, 3, 4]) rfl (by decide))
    · refine e_L 1 (f' := (47, [(5, .int vs0), (0, .ref 151), (1, .int v1), (2, .int v2), (3, .int v3), (4, .int v4)], [.ref 151])) rfl ?_
      refine e_gR (q := 187) 12 57 rfl rfl lc_151 lr_151_57 ?_
      refine e_L 3 (f' := (55, [(5, .int vs0), (0, .ref 151), (1, .int v1), (2, .int v2), (3, .int v3), (4, .int v4)], [.int ((40 : Int32) + v4), .ref 187])) rfl ?_
      refine qle_gd fun h14 => ?_
      refine e_ial (n := 216) (k := ((40 : Int32) + v4).toNatClampNeg) rfl lc_187 ln_187 h14 rfl ?_
      refine e_L 1 (f' := (58, [(5, .int vs0), (0, .ref 151), (1, .int v1), (2, .int v2), (3, .int v3), (4, .int v4)], [.int (9 : Int32), .int (s.1 187 ((40 : Int32) + v4).toNatClampNeg)])) rfl ?_
      refine e_icmp 68 rfl rfl rfl (fun c15 => ?_) (fun c15 => ?_)
      · exact qE_sub (qsubL [1, 2, 5, 0] rfl (ks := [5, 0, 1, 2, 3, 4]) rfl (by decide))
      · refine e_L 3 (f' := (64, [(5, .int vs0), (0, .ref 151), (1, .int v1), (2, .int v2), (3, .int v3), (4, .int v4)], [.int (5 : Int32), .int v1, .ref 151])) rfl ?_
        refine e_vV 317 rfl rfl ix_X12_goWrong rfl (q_recvOf lc_151 rfl) (Nat.le_of_ble_eq_true rfl) (fun s17 e18 => ?_)
        exact e_rV rfl rfl
set_option maxRecDepth 100000 in
set_option maxHeartbeats 4000000 in
theorem le_X12_doLock_68 (en : pN) (d : Nat) (v1 : Int32) (v4 : Int32) (v5 : Int32) (s : qS) : qle (if v5 = (0 : Int32) then bV (qev en d 318 [.ref 151, .int v1, .int v4, .int (1 : Int32)] s) (fun s3 => L_X12_doLock_98 en d v1 v4 s3) else gd (p_inB ((40 : Int32) + v4) 216 = true) (nm (uI s 187 (((40 : Int32) + v4).toNatClampNeg) ((s.1 187 ((40 : Int32) + v4).toNatClampNeg) + (1 : Int32))) (fun s6 => L_X12_doLock_98 en d v1 v4 s6))) (L_X12_doLock_68 en d v1 v4 v5 s) := by
  show qle _ (qE (qev en d) en none tb_X12_doLock (68, [(0, .ref 151), (1, .int v1), (4, .int v4), (5, .int v5)], []) s)
  refine e_L 1 (f' := (70, [(0, .ref 151), (1, .int v1), (4, .int v4), (5, .int v5)], [.int v5])) rfl ?_
  refine e_ifz 90 rfl rfl rfl (fun c1 => ?_) (fun c1 => ?_)
  · refine e_L 4 (f' := (95, [(0, .ref 151), (1, .int v1), (4, .int v4), (5, .int v5)], [.int (1 : Int32), .int v4, .int v1, .ref 151])) rfl ?_
    refine e_vV 318 rfl rfl ix_X12_takeLock rfl (q_recvOf lc_151 rfl) (Nat.le_of_ble_eq_true rfl) (fun s3 e4 => ?_)
    exact qE_sub (qsubL [0, 1, 2] rfl (ks := [0, 1, 4, 5]) rfl (by decide))
  · refine e_L 1 (f' := (74, [(0, .ref 151), (1, .int v1), (4, .int v4), (5, .int v5)], [.ref 151])) rfl ?_
    refine e_gR (q := 187) 12 57 rfl rfl lc_151 lr_151_57 ?_
    refine e_L 4 (f' := (83, [(0, .ref 151), (1, .int v1), (4, .int v4), (5, .int v5)], [.int ((40 : Int32) + v4), .ref 187, .int ((40 : Int32) + v4), .ref 187])) rfl ?_
    refine qle_gd fun h5 => ?_
    refine e_ial (n := 216) (k := ((40 : Int32) + v4).toNatClampNeg) rfl lc_187 ln_187 h5 rfl ?_
    refine e_L 2 (f' := (86, [(0, .ref 151), (1, .int v1), (4, .int v4), (5, .int v5)], [.int ((s.1 187 ((40 : Int32) + v4).toNatClampNeg) + (1 : Int32)), .int ((40 : Int32) + v4), .ref 187])) rfl ?_
    refine e_ias (n := 216) (k := ((40 : Int32) + v4).toNatClampNeg) rfl lc_187 ln_187 h5 rfl ?_
    refine e_nS fun s6 => ?_
    refine e_L 1 (f' := (98, [(0, .ref 151), (1, .int v1), (4, .int v4), (5, .int v5)], [])) rfl ?_
    exact qE_sub (qsubL [0, 1, 2] rfl (ks := [0, 1, 4, 5]) rfl (by decide))
set_option maxRecDepth 100000 in
set_option maxHeartbeats 4000000 in
theorem le_X12_doLock_98 (en : pN) (d : Nat) (v1 : Int32) (v4 : Int32) (s : qS) : qle (bV (qev en d 319 [.ref 151, .int v1, .int ((208 : Int32) + v4)] s) (fun s2 => some (none, s2))) (L_X12_doLock_98 en d v1 v4 s) := by
  show qle _ (qE (qev en d) en none tb_X12_doLock (98, [(0, .ref 151), (1, .int v1), (4, .int v4)], []) s)
  refine e_L 5 (f' := (106, [(0, .ref 151), (1, .int v1), (4, .int v4)], [.int ((208 : Int32) + v4), .int v1, .ref 151])) rfl ?_
  refine e_vV 319 rfl rfl ix_X12_joinView rfl (q_recvOf lc_151 rfl) (Nat.le_of_ble_eq_true rfl) (fun s2 e3 => ?_)
  exact e_rV rfl rfl
set_option maxRecDepth 100000 in
set_option maxHeartbeats 4000000 in
theorem le_X12_doLock_150 (en : pN) (d : Nat) (v2 : Int32) (v3 : Int32) (v4 : Int32) (v6 : Int32) (v7 : Int32) (s : qS) : qle (if (s.1 151 18) ≤ v7 then some (none, s) else gd (p_inB ((0 : Int32) + v7) 216 = true) (if ¬ (s.1 187 ((0 : Int32) + v7).toNatClampNeg) = (2 : Int32) then L_X12_doLock_150 en d v2 v3 v4 v6 (v7 + (1 : Int32)) s else bI (qev en d 303 [.ref 151, .int v7] s) (fun w4 s5 => gd (p_inB w4 400 = true) (if ¬ (s5.1 166 w4.toNatClampNeg) = v4 then L_X12_doLock_150 en d v2 v3 v4 v6 (v7 + (1 : Int32)) s5 else gd (p_inB v2 400 = true) (if (s5.1 164 v2.toNatClampNeg) = (9 : Int32) then L_X12_doLock_218 en d v2 v3 v4 v6 v7 ((0 : Int32) + v7) (3 : Int32) s5 else if ¬ v6 = v3 then L_X12_doLock_218 en d v2 v3 v4 v6 v7 ((0 : Int32) + v7) (2 : Int32) s5 else L_X12_doLock_218 en d v2 v3 v4 v6 v7 ((0 : Int32) + v7) (3 : Int32) s5))))) (L_X12_doLock_150 en d v2 v3 v4 v6 v7 s) := by
  show qle _ (qE (qev en d) en none tb_X12_doLock (150, [(0, .ref 151), (2, .int v2), (3, .int v3), (4, .int v4), (6, .int v6), (7, .int v7)], []) s)
  refine e_L 2 (f' := (153, [(0, .ref 151), (2, .int v2), (3, .int v3), (4, .int v4), (6, .int v6), (7, .int v7)], [.ref 151, .int v7])) rfl ?_
  refine e_gI 12 18 rfl rfl lc_151 ?_
  refine e_icmp 228 rfl rfl rfl (fun c1 => ?_) (fun c1 => ?_)
  · exact e_rV rfl rfl
  · refine e_L 1 (f' := (160, [(0, .ref 151), (2, .int v2), (3, .int v3), (4, .int v4), (6, .int v6), (7, .int v7)], [.ref 151])) rfl ?_
    refine e_gR (q := 187) 12 57 rfl rfl lc_151 lr_151_57 ?_
    refine e_L 3 (f' := (167, [(0, .ref 151), (2, .int v2), (3, .int v3), (4, .int v4), (6, .int v6), (7, .int v7)], [.int ((0 : Int32) + v7), .ref 187])) rfl ?_
    refine qle_gd fun h2 => ?_
    refine e_ial (n := 216) (k := ((0 : Int32) + v7).toNatClampNeg) rfl lc_187 ln_187 h2 rfl ?_
    refine e_L 1 (f' := (169, [(0, .ref 151), (2, .int v2), (3, .int v3), (4, .int v4), (6, .int v6), (7, .int v7)], [.int (2 : Int32), .int (s.1 187 ((0 : Int32) + v7).toNatClampNeg)])) rfl ?_
    refine e_icmp 222 rfl rfl rfl (fun c3 => ?_) (fun c3 => ?_)
    · refine e_L 2 (f' := (150, [(7, .int (v7 + (1 : Int32))), (0, .ref 151), (2, .int v2), (3, .int v3), (4, .int v4), (6, .int v6)], [])) rfl ?_
      exact qE_sub (qsubL [1, 2, 3, 4, 5, 0] rfl (ks := [7, 0, 2, 3, 4, 6]) rfl (by decide))
    · refine e_L 1 (f' := (173, [(0, .ref 151), (2, .int v2), (3, .int v3), (4, .int v4), (6, .int v6), (7, .int v7)], [.ref 151])) rfl ?_
      refine e_gR (q := 166) 12 35 rfl rfl lc_151 lr_151_35 ?_
      refine e_L 2 (f' := (179, [(0, .ref 151), (2, .int v2), (3, .int v3), (4, .int v4), (6, .int v6), (7, .int v7)], [.int v7, .ref 151, .ref 166])) rfl ?_
      refine e_vI 303 rfl rfl ix_X12_lineOf rfl (q_recvOf lc_151 rfl) (Nat.le_of_ble_eq_true rfl) (fun w4 s5 e6 => ?_)
      refine qle_gd fun h7 => ?_
      refine e_ial (n := 400) (k := w4.toNatClampNeg) rfl lc_166 ln_166 h7 rfl ?_
      refine e_L 1 (f' := (185, [(0, .ref 151), (2, .int v2), (3, .int v3), (4, .int v4), (6, .int v6), (7, .int v7)], [.int v4, .int (s5.1 166 w4.toNatClampNeg)])) rfl ?_
      refine e_icmp 222 rfl rfl rfl (fun c8 => ?_) (fun c8 => ?_)
      · refine e_L 2 (f' := (150, [(7, .int (v7 + (1 : Int32))), (0, .ref 151), (2, .int v2), (3, .int v3), (4, .int v4), (6, .int v6)], [])) rfl ?_
        exact qE_sub (qsubL [1, 2, 3, 4, 5, 0] rfl (ks := [7, 0, 2, 3, 4, 6]) rfl (by decide))
      · refine e_L 1 (f' := (189, [(0, .ref 151), (2, .int v2), (3, .int v3), (4, .int v4), (6, .int v6), (7, .int v7)], [.ref 151])) rfl ?_
        refine e_gR (q := 187) 12 57 rfl rfl lc_151 lr_151_57 ?_
        refine e_L 4 (f' := (197, [(0, .ref 151), (2, .int v2), (3, .int v3), (4, .int v4), (6, .int v6), (7, .int v7)], [.ref 151, .int ((0 : Int32) + v7), .ref 187])) rfl ?_
        refine e_gR (q := 164) 12 33 rfl rfl lc_151 lr_151_33 ?_
        refine e_L 1 (f' := (201, [(0, .ref 151), (2, .int v2), (3, .int v3), (4, .int v4), (6, .int v6), (7, .int v7)], [.int v2, .ref 164, .int ((0 : Int32) + v7), .ref 187])) rfl ?_
        refine qle_gd fun h9 => ?_
        refine e_ial (n := 400) (k := v2.toNatClampNeg) rfl lc_164 ln_164 h9 rfl ?_
        refine e_L 1 (f' := (204, [(0, .ref 151), (2, .int v2), (3, .int v3), (4, .int v4), (6, .int v6), (7, .int v7)], [.int (9 : Int32), .int (s5.1 164 v2.toNatClampNeg), .int ((0 : Int32) + v7), .ref 187])) rfl ?_
        refine e_icmp 213 rfl rfl rfl (fun c10 => ?_) (fun c10 => ?_)
        · refine e_L 2 (f' := (218, [(0, .ref 151), (2, .int v2), (3, .int v3), (4, .int v4), (6, .int v6), (7, .int v7)], [.int (3 : Int32), .int ((0 : Int32) + v7), .ref 187])) rfl ?_
          exact qE_sub (qsubL [0, 1, 2, 3, 4, 5] rfl (ks := [0, 2, 3, 4, 6, 7]) rfl (by decide))
        · refine e_L 2 (f' := (210, [(0, .ref 151), (2, .int v2), (3, .int v3), (4, .int v4), (6, .int v6), (7, .int v7)], [.int v3, .int v6, .int ((0 : Int32) + v7), .ref 187])) rfl ?_
          refine e_icmp 217 rfl rfl rfl (fun c11 => ?_) (fun c11 => ?_)
          · refine e_L 1 (f' := (218, [(0, .ref 151), (2, .int v2), (3, .int v3), (4, .int v4), (6, .int v6), (7, .int v7)], [.int (2 : Int32), .int ((0 : Int32) + v7), .ref 187])) rfl ?_
            exact qE_sub (qsubL [0, 1, 2, 3, 4, 5] rfl (ks := [0, 2, 3, 4, 6, 7]) rfl (by decide))
          · refine e_L 2 (f' := (218, [(0, .ref 151), (2, .int v2), (3, .int v3), (4, .int v4), (6, .int v6), (7, .int v7)], [.int (3 : Int32), .int ((0 : Int32) + v7), .ref 187])) rfl ?_
            exact qE_sub (qsubL [0, 1, 2, 3, 4, 5] rfl (ks := [0, 2, 3, 4, 6, 7]) rfl (by decide))
set_option maxRecDepth 100000 in
set_option maxHeartbeats 4000000 in
theorem le_X12_doLock_218 (en : pN) (d : Nat) (v2 : Int32) (v3 : Int32) (v4 : Int32) (v6 : Int32) (v7 : Int32) (vs1 : Int32) (vs2 : Int32) (s : qS) : qle (gd (p_inB vs1 216 = true) (nm (uI s 187 (vs1.toNatClampNeg) vs2) (fun s2 => L_X12_doLock_150 en d v2 v3 v4 (v6 + (1 : Int32)) (v7 + (1 : Int32)) s2))) (L_X12_doLock_218 en d v2 v3 v4 v6 v7 vs1 vs2 s) := by
  show qle _ (qE (qev en d) en none tb_X12_doLock (218, [(0, .ref 151), (2, .int v2), (3, .int v3), (4, .int v4), (6, .int v6), (7, .int v7)], [.int vs2, .int vs1, .ref 187]) s)
  refine qle_gd fun h1 => ?_
  refine e_ias (n := 216) (k := vs1.toNatClampNeg) rfl lc_187 ln_187 h1 rfl ?_
  refine e_nS fun s2 => ?_
  refine e_L 3 (f' := (150, [(7, .int (v7 + (1 : Int32))), (6, .int (v6 + (1 : Int32))), (0, .ref 151), (2, .int v2), (3, .int v3), (4, .int v4)], [])) rfl ?_
  exact qE_sub (qsubL [2, 3, 4, 5, 1, 0] rfl (ks := [7, 6, 0, 2, 3, 4]) rfl (by decide))
set_option maxRecDepth 100000 in
set_option maxHeartbeats 4000000 in
theorem le_X12_doLock_258 (en : pN) (d : Nat) (v1 : Int32) (v2 : Int32) (v4 : Int32) (s : qS) : qle (gd (p_inB v2 400 = true) (if ¬ (s.1 164 v2.toNatClampNeg) = (7 : Int32) then L_X12_doLock_308 en d v4 s else gd (p_inB ((40 : Int32) + v4) 216 = true) (gd (p_inB ((8 : Int32) + v1) 216 = true) (nm (uI s 187 (((8 : Int32) + v1).toNatClampNeg) (s.1 187 ((40 : Int32) + v4).toNatClampNeg)) (fun s5 => gd (p_inB ((0 : Int32) + v1) 216 = true) (nm (uI s5 187 (((0 : Int32) + v1).toNatClampNeg) (2 : Int32)) (fun s7 => nm (uI s7 187 (((40 : Int32) + v4).toNatClampNeg) (1 : Int32)) (fun s8 => L_X12_doLock_308 en d v4 s8)))))))) (L_X12_doLock_258 en d v1 v2 v4 s) := by
  show qle _ (qE (qev en d) en none tb_X12_doLock (258, [(0, .ref 151), (1, .int v1), (2, .int v2), (4, .int v4)], []) s)
  refine e_L 1 (f' := (259, [(0, .ref 151), (1, .int v1), (2, .int v2), (4, .int v4)], [.ref 151])) rfl ?_
  refine e_gR (q := 164) 12 33 rfl rfl lc_151 lr_151_33 ?_
  refine e_L 1 (f' := (263, [(0, .ref 151), (1, .int v1), (2, .int v2), (4, .int v4)], [.int v2, .ref 164])) rfl ?_
  refine qle_gd fun h1 => ?_
  refine e_ial (n := 400) (k := v2.toNatClampNeg) rfl lc_164 ln_164 h1 rfl ?_
  refine e_L 1 (f' := (266, [(0, .ref 151), (1, .int v1), (2, .int v2), (4, .int v4)], [.int (7 : Int32), .int (s.1 164 v2.toNatClampNeg)])) rfl ?_
  refine e_icmp 308 rfl rfl rfl (fun c2 => ?_) (fun c2 => ?_)
  · exact qE_sub (qsubL [0, 3] rfl (ks := [0, 1, 2, 4]) rfl (by decide))
  · refine e_L 1 (f' := (270, [(0, .ref 151), (1, .int v1), (2, .int v2), (4, .int v4)], [.ref 151])) rfl ?_
    refine e_gR (q := 187) 12 57 rfl rfl lc_151 lr_151_57 ?_
    refine e_L 4 (f' := (278, [(0, .ref 151), (1, .int v1), (2, .int v2), (4, .int v4)], [.ref 151, .int ((8 : Int32) + v1), .ref 187])) rfl ?_
    refine e_gR (q := 187) 12 57 rfl rfl lc_151 lr_151_57 ?_
    refine e_L 3 (f' := (286, [(0, .ref 151), (1, .int v1), (2, .int v2), (4, .int v4)], [.int ((40 : Int32) + v4), .ref 187, .int ((8 : Int32) + v1), .ref 187])) rfl ?_
    refine qle_gd fun h3 => ?_
    refine e_ial (n := 216) (k := ((40 : Int32) + v4).toNatClampNeg) rfl lc_187 ln_187 h3 rfl ?_
    refine qle_gd fun h4 => ?_
    refine e_ias (n := 216) (k := ((8 : Int32) + v1).toNatClampNeg) rfl lc_187 ln_187 h4 rfl ?_
    refine e_nS fun s5 => ?_
    refine e_L 1 (f' := (289, [(0, .ref 151), (1, .int v1), (2, .int v2), (4, .int v4)], [.ref 151])) rfl ?_
    refine e_gR (q := 187) 12 57 rfl rfl lc_151 lr_151_57 ?_
    refine e_L 4 (f' := (296, [(0, .ref 151), (1, .int v1), (2, .int v2), (4, .int v4)], [.int (2 : Int32), .int ((0 : Int32) + v1), .ref 187])) rfl ?_
    refine qle_gd fun h6 => ?_
    refine e_ias (n := 216) (k := ((0 : Int32) + v1).toNatClampNeg) rfl lc_187 ln_187 h6 rfl ?_
    refine e_nS fun s7 => ?_
    refine e_L 1 (f' := (298, [(0, .ref 151), (1, .int v1), (2, .int v2), (4, .int v4)], [.ref 151])) rfl ?_
    refine e_gR (q := 187) 12 57 rfl rfl lc_151 lr_151_57 ?_
    refine e_L 4 (f' := (307, [(0, .ref 151), (1, .int v1), (2, .int v2), (4, .int v4)], [.int (1 : Int32), .int ((40 : Int32) + v4), .ref 187])) rfl ?_
    refine e_ias (n := 216) (k := ((40 : Int32) + v4).toNatClampNeg) rfl lc_187 ln_187 h3 rfl ?_
    refine e_nS fun s8 => ?_
    exact qE_sub (qsubL [0, 3] rfl (ks := [0, 1, 2, 4]) rfl (by decide))
set_option maxRecDepth 100000 in
set_option maxHeartbeats 4000000 in
theorem le_X12_doLock_308 (en : pN) (d : Nat) (v4 : Int32) (s : qS) : qle (gd (p_inB ((40 : Int32) + v4) 216 = true) (nm (uI s 187 (((40 : Int32) + v4).toNatClampNeg) ((s.1 187 ((40 : Int32) + v4).toNatClampNeg) - (1 : Int32))) (fun s2 => if ¬ (s2.1 187 ((40 : Int32) + v4).toNatClampNeg) = (0 : Int32) then gd (p_inB ((36 : Int32) + v4) 216 = true) (L_X12_doLock_358 en d ((36 : Int32) + v4) (s2.1 187 ((36 : Int32) + v4).toNatClampNeg) s2) else L_X12_doLock_358 en d ((36 : Int32) + v4) (0 : Int32) s2))) (L_X12_doLock_308 en d v4 s) := by
  show qle _ (qE (qev en d) en none tb_X12_doLock (308, [(0, .ref 151), (4, .int v4)], []) s)
  refine e_L 1 (f' := (309, [(0, .ref 151), (4, .int v4)], [.ref 151])) rfl ?_
  refine e_gR (q := 187) 12 57 rfl rfl lc_151 lr_151_57 ?_
  refine e_L 4 (f' := (318, [(0, .ref 151), (4, .int v4)], [.int ((40 : Int32) + v4), .ref 187, .int ((40 : Int32) + v4), .ref 187])) rfl ?_
  refine qle_gd fun h1 => ?_
  refine e_ial (n := 216) (k := ((40 : Int32) + v4).toNatClampNeg) rfl lc_187 ln_187 h1 rfl ?_
  refine e_L 2 (f' := (321, [(0, .ref 151), (4, .int v4)], [.int ((s.1 187 ((40 : Int32) + v4).toNatClampNeg) - (1 : Int32)), .int ((40 : Int32) + v4), .ref 187])) rfl ?_
  refine e_ias (n := 216) (k := ((40 : Int32) + v4).toNatClampNeg) rfl lc_187 ln_187 h1 rfl ?_
  refine e_nS fun s2 => ?_
  refine e_L 1 (f' := (323, [(0, .ref 151), (4, .int v4)], [.ref 151])) rfl ?_
  refine e_gR (q := 187) 12 57 rfl rfl lc_151 lr_151_57 ?_
  refine e_L 4 (f' := (332, [(0, .ref 151), (4, .int v4)], [.ref 151, .int ((36 : Int32) + v4), .ref 187])) rfl ?_
  refine e_gR (q := 187) 12 57 rfl rfl lc_151 lr_151_57 ?_
  refine e_L 3 (f' := (340, [(0, .ref 151), (4, .int v4)], [.int ((40 : Int32) + v4), .ref 187, .int ((36 : Int32) + v4), .ref 187])) rfl ?_
  refine e_ial (n := 216) (k := ((40 : Int32) + v4).toNatClampNeg) rfl lc_187 ln_187 h1 rfl ?_
  refine e_ifz 348 rfl rfl rfl (fun c3 => ?_) (fun c3 => ?_)
  · refine e_L 1 (f' := (349, [(0, .ref 151), (4, .int v4)], [.ref 151, .int ((36 : Int32) + v4), .ref 187])) rfl ?_
    refine e_gR (q := 187) 12 57 rfl rfl lc_151 lr_151_57 ?_
    refine e_L 3 (f' := (357, [(0, .ref 151), (4, .int v4)], [.int ((36 : Int32) + v4), .ref 187, .int ((36 : Int32) + v4), .ref 187])) rfl ?_
    refine qle_gd fun h4 => ?_
    refine e_ial (n := 216) (k := ((36 : Int32) + v4).toNatClampNeg) rfl lc_187 ln_187 h4 rfl ?_
    exact qE_sub (qsubL [] rfl (ks := [0, 4]) rfl (by decide))
  · refine e_L 2 (f' := (358, [(0, .ref 151), (4, .int v4)], [.int (0 : Int32), .int ((36 : Int32) + v4), .ref 187])) rfl ?_
    exact qE_sub (qsubL [] rfl (ks := [0, 4]) rfl (by decide))
set_option maxRecDepth 100000 in
set_option maxHeartbeats 4000000 in
theorem le_X12_doLock_358 (en : pN) (d : Nat) (vs1 : Int32) (vs2 : Int32) (s : qS) : qle (gd (p_inB vs1 216 = true) (nm (uI s 187 (vs1.toNatClampNeg) vs2) (fun s2 => some (none, s2)))) (L_X12_doLock_358 en d vs1 vs2 s) := by
  show qle _ (qE (qev en d) en none tb_X12_doLock (358, [], [.int vs2, .int vs1, .ref 187]) s)
  refine qle_gd fun h1 => ?_
  refine e_ias (n := 216) (k := vs1.toNatClampNeg) rfl lc_187 ln_187 h1 rfl ?_
  refine e_nS fun s2 => ?_
  exact e_rV rfl rfl
set_option maxRecDepth 100000 in
set_option maxHeartbeats 4000000 in
theorem le_X12_doLock (en : pN) (d : Nat) (a1 : Int32) (a2 : Int32) (a3 : Int32) (s : qS) : qle (gd (p_inB a2 400 = true) (nm (s.1 166 a2.toNatClampNeg) (fun z2 => gd (p_inB ((36 : Int32) + z2) 216 = true) (if ¬ (s.1 187 ((36 : Int32) + z2).toNatClampNeg) = (a1 + (1 : Int32)) then L_X12_doLock_29 en d a1 a2 a3 z2 (0 : Int32) s else L_X12_doLock_29 en d a1 a2 a3 z2 (1 : Int32) s)))) (qev en (d + 1) 327 [.ref 151, .int a1, .int a2, .int a3] s) := by
  refine e_enter ix_X12_doLock (Nat.le_of_ble_eq_true rfl) ?_
  show qle _ (qE (qev en d) en none tb_X12_doLock (0, [(0, .ref 151), (1, .int a1), (2, .int a2), (3, .int a3)], []) s)
  refine e_L 1 (f' := (1, [(0, .ref 151), (1, .int a1), (2, .int a2), (3, .int a3)], [.ref 151])) rfl ?_
  refine e_gR (q := 166) 12 35 rfl rfl lc_151 lr_151_35 ?_
  refine e_L 1 (f' := (5, [(0, .ref 151), (1, .int a1), (2, .int a2), (3, .int a3)], [.int a2, .ref 166])) rfl ?_
  refine qle_gd fun h1 => ?_
  refine e_ial (n := 400) (k := a2.toNatClampNeg) rfl lc_166 ln_166 h1 rfl ?_
  refine e_nI fun z2 => ?_
  refine e_L 2 (f' := (9, [(4, .int z2), (0, .ref 151), (1, .int a1), (2, .int a2), (3, .int a3)], [.ref 151])) rfl ?_
  refine e_gR (q := 187) 12 57 rfl rfl lc_151 lr_151_57 ?_
  refine e_L 3 (f' := (17, [(4, .int z2), (0, .ref 151), (1, .int a1), (2, .int a2), (3, .int a3)], [.int ((36 : Int32) + z2), .ref 187])) rfl ?_
  refine qle_gd fun h3 => ?_
  refine e_ial (n := 216) (k := ((36 : Int32) + z2).toNatClampNeg) rfl lc_187 ln_187 h3 rfl ?_
  refine e_L 3 (f' := (21, [(4, .int z2), (0, .ref 151), (1, .int a1), (2, .int a2), (3, .int a3)], [.int (a1 + (1 : Int32)), .int (s.1 187 ((36 : Int32) + z2).toNatClampNeg)])) rfl ?_
  refine e_icmp 28 rfl rfl rfl (fun c4 => ?_) (fun c4 => ?_)
  · refine e_L 1 (f' := (29, [(4, .int z2), (0, .ref 151), (1, .int a1), (2, .int a2), (3, .int a3)], [.int (0 : Int32)])) rfl ?_
    exact qE_sub (qsubL [1, 2, 3, 4, 0] rfl (ks := [4, 0, 1, 2, 3]) rfl (by decide))
  · refine e_L 2 (f' := (29, [(4, .int z2), (0, .ref 151), (1, .int a1), (2, .int a2), (3, .int a3)], [.int (1 : Int32)])) rfl ?_
    exact qE_sub (qsubL [1, 2, 3, 4, 0] rfl (ks := [4, 0, 1, 2, 3]) rfl (by decide))
noncomputable def L_X12_keepRun_2 (en : pN) (d : Nat) (v1 : Int32) (s : qS) : Option qR := qE (qev en d) en none tb_X12_keepRun (2, [(0, .ref 151), (1, .int v1)], []) s
noncomputable def L_X12_keepRun_29 (en : pN) (d : Nat) (v1 : Int32) (s : qS) : Option qR := qE (qev en d) en none tb_X12_keepRun (29, [(0, .ref 151), (1, .int v1)], []) s
set_option maxRecDepth 100000 in
set_option maxHeartbeats 4000000 in
theorem le_X12_keepRun_2 (en : pN) (d : Nat) (v1 : Int32) (s : qS) : qle (if (216 : Int32) ≤ v1 then L_X12_keepRun_29 en d (0 : Int32) s else gd (p_inB v1 216 = true) (nm (uI s 191 (v1.toNatClampNeg) (s.1 187 v1.toNatClampNeg)) (fun s3 => L_X12_keepRun_2 en d (v1 + (1 : Int32)) s3))) (L_X12_keepRun_2 en d v1 s) := by
  show qle _ (qE (qev en d) en none tb_X12_keepRun (2, [(0, .ref 151), (1, .int v1)], []) s)
  refine e_L 2 (f' := (6, [(0, .ref 151), (1, .int v1)], [.int (216 : Int32), .int v1])) rfl ?_
  refine e_icmp 27 rfl rfl rfl (fun c1 => ?_) (fun c1 => ?_)
  · refine e_L 2 (f' := (29, [(1, .int (0 : Int32)), (0, .ref 151)], [])) rfl ?_
    exact qE_sub (qsubL [1, 0] rfl (ks := [1, 0]) rfl (by decide))
  · refine e_L 1 (f' := (10, [(0, .ref 151), (1, .int v1)], [.ref 151])) rfl ?_
    refine e_gR (q := 191) 12 75 rfl rfl lc_151 lr_151_75 ?_
    refine e_L 2 (f' := (15, [(0, .ref 151), (1, .int v1)], [.ref 151, .int v1, .ref 191])) rfl ?_
    refine e_gR (q := 187) 12 57 rfl rfl lc_151 lr_151_57 ?_
    refine e_L 1 (f' := (19, [(0, .ref 151), (1, .int v1)], [.int v1, .ref 187, .int v1, .ref 191])) rfl ?_
    refine qle_gd fun h2 => ?_
    refine e_ial (n := 216) (k := v1.toNatClampNeg) rfl lc_187 ln_187 h2 rfl ?_
    refine e_ias (n := 216) (k := v1.toNatClampNeg) rfl lc_191 ln_191 h2 rfl ?_
    refine e_nS fun s3 => ?_
    refine e_L 2 (f' := (2, [(1, .int (v1 + (1 : Int32))), (0, .ref 151)], [])) rfl ?_
    exact qE_sub (qsubL [1, 0] rfl (ks := [1, 0]) rfl (by decide))
set_option maxRecDepth 100000 in
set_option maxHeartbeats 4000000 in
theorem le_X12_keepRun_29 (en : pN) (d : Nat) (v1 : Int32) (s : qS) : qle (if (4 : Int32) ≤ v1 then nm (uI s 151 76 (s.1 151 58)) (fun s2 => some (none, s2)) else gd (p_inB v1 4 = true) (nm (uI s 192 (v1.toNatClampNeg) (s.1 188 v1.toNatClampNeg)) (fun s4 => L_X12_keepRun_29 en d (v1 + (1 : Int32)) s4))) (L_X12_keepRun_29 en d v1 s) := by
  show qle _ (qE (qev en d) en none tb_X12_keepRun (29, [(0, .ref 151), (1, .int v1)], []) s)
  refine e_L 2 (f' := (31, [(0, .ref 151), (1, .int v1)], [.int (4 : Int32), .int v1])) rfl ?_
  refine e_icmp 52 rfl rfl rfl (fun c1 => ?_) (fun c1 => ?_)
  · refine e_L 2 (f' := (54, [(0, .ref 151), (1, .int v1)], [.ref 151, .ref 151])) rfl ?_
    refine e_gI 12 58 rfl rfl lc_151 ?_
    refine e_pI 12 76 rfl rfl lc_151 rfl ?_
    refine e_nS fun s2 => ?_
    exact e_rV rfl rfl
  · refine e_L 1 (f' := (35, [(0, .ref 151), (1, .int v1)], [.ref 151])) rfl ?_
    refine e_gR (q := 192) 12 77 rfl rfl lc_151 lr_151_77 ?_
    refine e_L 2 (f' := (40, [(0, .ref 151), (1, .int v1)], [.ref 151, .int v1, .ref 192])) rfl ?_
    refine e_gR (q := 188) 12 61 rfl rfl lc_151 lr_151_61 ?_
    refine e_L 1 (f' := (44, [(0, .ref 151), (1, .int v1)], [.int v1, .ref 188, .int v1, .ref 192])) rfl ?_
    refine qle_gd fun h3 => ?_
    refine e_ial (n := 4) (k := v1.toNatClampNeg) rfl lc_188 ln_188 h3 rfl ?_
    refine e_ias (n := 4) (k := v1.toNatClampNeg) rfl lc_192 ln_192 h3 rfl ?_
    refine e_nS fun s4 => ?_
    refine e_L 2 (f' := (29, [(1, .int (v1 + (1 : Int32))), (0, .ref 151)], [])) rfl ?_
    exact qE_sub (qsubL [1, 0] rfl (ks := [1, 0]) rfl (by decide))
set_option maxRecDepth 100000 in
set_option maxHeartbeats 4000000 in
theorem le_X12_keepRun (en : pN) (d : Nat) (s : qS) : qle (L_X12_keepRun_2 en d (0 : Int32) s) (qev en (d + 1) 328 [.ref 151] s) := by
  refine e_enter ix_X12_keepRun (Nat.le_of_ble_eq_true rfl) ?_
  show qle _ (qE (qev en d) en none tb_X12_keepRun (0, [(0, .ref 151)], []) s)
  refine e_L 2 (f' := (2, [(1, .int (0 : Int32)), (0, .ref 151)], [])) rfl ?_
  exact qE_sub (qsubL [1, 0] rfl (ks := [1, 0]) rfl (by decide))
noncomputable def L_X12_takeRun_2 (en : pN) (d : Nat) (v1 : Int32) (s : qS) : Option qR := qE (qev en d) en none tb_X12_takeRun (2, [(0, .ref 151), (1, .int v1)], []) s
set_option maxRecDepth 100000 in
set_option maxHeartbeats 4000000 in
theorem le_X12_takeRun_2 (en : pN) (d : Nat) (v1 : Int32) (s : qS) : qle (if (216 : Int32) ≤ v1 then nm (uI s 151 58 (s.1 151 76)) (fun s2 => bI (qev en d 299 [.int (s2.1 151 58)] s2) (fun w3 s4 => nm (uI s4 151 60 w3) (fun s6 => nm (uI s6 151 59 (3 : Int32)) (fun s7 => some (none, s7))))) else gd (p_inB v1 216 = true) (nm (uI s 187 (v1.toNatClampNeg) (s.1 191 v1.toNatClampNeg)) (fun s9 => L_X12_takeRun_2 en d (v1 + (1 : Int32)) s9))) (L_X12_takeRun_2 en d v1 s) := by
  show qle _ (qE (qev en d) en none tb_X12_takeRun (2, [(0, .ref 151), (1, .int v1)], []) s)
  refine e_L 2 (f' := (6, [(0, .ref 151), (1, .int v1)], [.int (216 : Int32), .int v1])) rfl ?_
  refine e_icmp 27 rfl rfl rfl (fun c1 => ?_) (fun c1 => ?_)
  · refine e_L 2 (f' := (29, [(0, .ref 151), (1, .int v1)], [.ref 151, .ref 151])) rfl ?_
    refine e_gI 12 76 rfl rfl lc_151 ?_
    refine e_pI 12 58 rfl rfl lc_151 rfl ?_
    refine e_nS fun s2 => ?_
    refine e_L 2 (f' := (37, [(0, .ref 151), (1, .int v1)], [.ref 151, .ref 151])) rfl ?_
    refine e_gI 12 58 rfl rfl lc_151 ?_
    refine e_sI 299 rfl rfl rfl ix_X12_widthOf rfl (Nat.le_of_ble_eq_true rfl) (fun w3 s4 e5 => ?_)
    refine e_pI 12 60 rfl rfl lc_151 rfl ?_
    refine e_nS fun s6 => ?_
    refine e_L 2 (f' := (48, [(0, .ref 151), (1, .int v1)], [.int (3 : Int32), .ref 151])) rfl ?_
    refine e_pI 12 59 rfl rfl lc_151 rfl ?_
    refine e_nS fun s7 => ?_
    exact e_rV rfl rfl
  · refine e_L 1 (f' := (10, [(0, .ref 151), (1, .int v1)], [.ref 151])) rfl ?_
    refine e_gR (q := 187) 12 57 rfl rfl lc_151 lr_151_57 ?_
    refine e_L 2 (f' := (15, [(0, .ref 151), (1, .int v1)], [.ref 151, .int v1, .ref 187])) rfl ?_
    refine e_gR (q := 191) 12 75 rfl rfl lc_151 lr_151_75 ?_
    refine e_L 1 (f' := (19, [(0, .ref 151), (1, .int v1)], [.int v1, .ref 191, .int v1, .ref 187])) rfl ?_
    refine qle_gd fun h8 => ?_
    refine e_ial (n := 216) (k := v1.toNatClampNeg) rfl lc_191 ln_191 h8 rfl ?_
    refine e_ias (n := 216) (k := v1.toNatClampNeg) rfl lc_187 ln_187 h8 rfl ?_
    refine e_nS fun s9 => ?_
    refine e_L 2 (f' := (2, [(1, .int (v1 + (1 : Int32))), (0, .ref 151)], [])) rfl ?_
    exact qE_sub (qsubL [1, 0] rfl (ks := [1, 0]) rfl (by decide))
set_option maxRecDepth 100000 in
set_option maxHeartbeats 4000000 in
theorem le_X12_takeRun (en : pN) (d : Nat) (s : qS) : qle (L_X12_takeRun_2 en d (0 : Int32) s) (qev en (d + 1) 329 [.ref 151] s) := by
  refine e_enter ix_X12_takeRun (Nat.le_of_ble_eq_true rfl) ?_
  show qle _ (qE (qev en d) en none tb_X12_takeRun (0, [(0, .ref 151)], []) s)
  refine e_L 2 (f' := (2, [(1, .int (0 : Int32)), (0, .ref 151)], [])) rfl ?_
  exact qE_sub (qsubL [1, 0] rfl (ks := [1, 0]) rfl (by decide))
set_option maxRecDepth 100000 in
set_option maxHeartbeats 4000000 in
theorem le_X12_beginRun (en : pN) (d : Nat) (a1 : Int32) (a2 : Int32) (s : qS) : qle (bV (qev en d 293 [.ref 151, .int a1, .int (3 : Int32)] s) (fun s2 => bV (qev en d 300 [.ref 151, .int (3 : Int32), .int a2] s2) (fun s5 => nm (uI s5 151 78 (0 : Int32)) (fun s7 => nm (uI s7 151 74 (1 : Int32)) (fun s8 => bV (qev en d 328 [.ref 151] s8) (fun s10 => some (none, s10))))))) (qev en (d + 1) 330 [.ref 151, .int a1, .int a2] s) := by
  refine e_enter ix_X12_beginRun (Nat.le_of_ble_eq_true rfl) ?_
  show qle _ (qE (qev en d) en none tb_X12_beginRun (0, [(0, .ref 151), (1, .int a1), (2, .int a2)], []) s)
  refine e_L 3 (f' := (3, [(0, .ref 151), (1, .int a1), (2, .int a2)], [.int (3 : Int32), .int a1, .ref 151])) rfl ?_
  refine e_vV 293 rfl rfl ix_X12_copyProgram rfl (q_recvOf lc_151 rfl) (Nat.le_of_ble_eq_true rfl) (fun s2 e3 => ?_)
  refine e_L 3 (f' := (9, [(0, .ref 151), (1, .int a1), (2, .int a2)], [.int a2, .int (3 : Int32), .ref 151])) rfl ?_
  refine e_vV 300 rfl rfl ix_X12_firstState rfl (q_recvOf lc_151 rfl) (Nat.le_of_ble_eq_true rfl) (fun s5 e6 => ?_)
  refine e_L 2 (f' := (14, [(0, .ref 151), (1, .int a1), (2, .int a2)], [.int (0 : Int32), .ref 151])) rfl ?_
  refine e_pI 12 78 rfl rfl lc_151 rfl ?_
  refine e_nS fun s7 => ?_
  refine e_L 2 (f' := (19, [(0, .ref 151), (1, .int a1), (2, .int a2)], [.int (1 : Int32), .ref 151])) rfl ?_
  refine e_pI 12 74 rfl rfl lc_151 (by decide +kernel) ?_
  refine e_nS fun s8 => ?_
  refine e_L 1 (f' := (23, [(0, .ref 151), (1, .int a1), (2, .int a2)], [.ref 151])) rfl ?_
  refine e_vV 328 rfl rfl ix_X12_keepRun rfl (q_recvOf lc_151 rfl) (Nat.le_of_ble_eq_true rfl) (fun s10 e11 => ?_)
  exact e_rV rfl rfl
set_option maxRecDepth 100000 in
set_option maxHeartbeats 4000000 in
theorem le_X12_readyNow (en : pN) (d : Nat) (s : qS) : qle (bV (qev en d 329 [.ref 151] s) (fun s2 => bV (qev en d 315 [.ref 151] s2) (fun s5 => some (some (.int (s5.1 151 66)), s5)))) (qev en (d + 1) 331 [.ref 151] s) := by
  refine e_enter ix_X12_readyNow (Nat.le_of_ble_eq_true rfl) ?_
  show qle _ (qE (qev en d) en (some .int) tb_X12_readyNow (0, [(0, .ref 151)], []) s)
  refine e_L 1 (f' := (1, [(0, .ref 151)], [.ref 151])) rfl ?_
  refine e_vV 329 rfl rfl ix_X12_takeRun rfl (q_recvOf lc_151 rfl) (Nat.le_of_ble_eq_true rfl) (fun s2 e3 => ?_)
  refine e_L 1 (f' := (5, [(0, .ref 151)], [.ref 151])) rfl ?_
  refine e_vV 315 rfl rfl ix_X12_lookReady rfl (q_recvOf lc_151 rfl) (Nat.le_of_ble_eq_true rfl) (fun s5 e6 => ?_)
  refine e_L 1 (f' := (9, [(0, .ref 151)], [.ref 151])) rfl ?_
  refine e_gI 12 66 rfl rfl lc_151 ?_
  exact e_rI rfl rfl
set_option maxRecDepth 100000 in
set_option maxHeartbeats 4000000 in
theorem le_X12_begin (en : pN) (d : Nat) (a1 : Int32) (s : qS) : qle (if (s.1 151 11) = (0 : Int32) then some (some (.int (-1 : Int32)), s) else if a1 < (0 : Int32) then some (some (.int (-1 : Int32)), s) else if a1 ≤ (2 : Int32) then bV (qev en d 330 [.ref 151, .int (0 : Int32), .int a1] s) (fun s5 => nm (uI s5 151 149 (0 : Int32)) (fun s7 => bI (qev en d 331 [.ref 151] s7) (fun w8 s9 => some (some (.int w8), s9)))) else some (some (.int (-1 : Int32)), s)) (qev en (d + 1) 332 [.ref 151, .int a1] s) := by
  refine e_enter ix_X12_begin (Nat.le_of_ble_eq_true rfl) ?_
  show qle _ (qE (qev en d) en (some .int) tb_X12_begin (0, [(0, .ref 151), (1, .int a1)], []) s)
  refine e_L 1 (f' := (1, [(0, .ref 151), (1, .int a1)], [.ref 151])) rfl ?_
  refine e_gI 12 11 rfl rfl lc_151 ?_
  refine e_ifz 16 rfl rfl rfl (fun c1 => ?_) (fun c1 => ?_)
  · refine e_L 1 (f' := (17, [(0, .ref 151), (1, .int a1)], [.int (-1 : Int32)])) rfl ?_
    exact e_rI rfl rfl
  · refine e_L 1 (f' := (8, [(0, .ref 151), (1, .int a1)], [.int a1])) rfl ?_
    refine e_ifz 16 rfl rfl rfl (fun c2 => ?_) (fun c2 => ?_)
    · refine e_L 1 (f' := (17, [(0, .ref 151), (1, .int a1)], [.int (-1 : Int32)])) rfl ?_
      exact e_rI rfl rfl
    · refine e_L 2 (f' := (13, [(0, .ref 151), (1, .int a1)], [.int (2 : Int32), .int a1])) rfl ?_
      refine e_icmp 18 rfl rfl rfl (fun c3 => ?_) (fun c3 => ?_)
      · refine e_L 3 (f' := (21, [(0, .ref 151), (1, .int a1)], [.int a1, .int (0 : Int32), .ref 151])) rfl ?_
        refine e_vV 330 rfl rfl ix_X12_beginRun rfl (q_recvOf lc_151 rfl) (Nat.le_of_ble_eq_true rfl) (fun s5 e6 => ?_)
        refine e_L 2 (f' := (26, [(0, .ref 151), (1, .int a1)], [.int (0 : Int32), .ref 151])) rfl ?_
        refine e_pI 12 149 rfl rfl lc_151 (by decide +kernel) ?_
        refine e_nS fun s7 => ?_
        refine e_L 1 (f' := (30, [(0, .ref 151), (1, .int a1)], [.ref 151])) rfl ?_
        refine e_vI 331 rfl rfl ix_X12_readyNow rfl (q_recvOf lc_151 rfl) (Nat.le_of_ble_eq_true rfl) (fun w8 s9 e10 => ?_)
        exact e_rI rfl rfl
      · refine e_L 1 (f' := (17, [(0, .ref 151), (1, .int a1)], [.int (-1 : Int32)])) rfl ?_
        exact e_rI rfl rfl
