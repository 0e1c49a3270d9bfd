/-! what methods do, printed by program out of their tables: X12_layPath .. -/
noncomputable def L_X12_layPath_7 (en : pN) (d : Nat) (v1 : Int32) (v2 : Int32) (s : qS) : Option qR := qE (qev en d) en none tb_X12_layPath (7, [(0, .ref 151), (1, .int v1), (2, .int v2)], []) s
noncomputable def L_X12_layPath_45 (en : pN) (d : Nat) (v2 : Int32) (v3 : Int32) (s : qS) : Option qR := qE (qev en d) en none tb_X12_layPath (45, [(0, .ref 151), (2, .int v2), (3, .int v3)], []) s
set_option maxRecDepth 100000 in
set_option maxHeartbeats 4000000 in
theorem le_X12_layPath_7 (en : pN) (d : Nat) (v1 : Int32) (v2 : Int32) (s : qS) : qle (gd (p_inB v2 20001 = true) (if (s.1 212 v2.toNatClampNeg) = (-2 : Int32) then L_X12_layPath_45 en d (s.1 151 128) v1 s else nm (uI s 151 128 ((s.1 151 128) + (1 : Int32))) (fun s3 => nm (s3.1 212 v2.toNatClampNeg) (fun z4 => L_X12_layPath_7 en d v1 z4 s3)))) (L_X12_layPath_7 en d v1 v2 s) := by
  show qle _ (qE (qev en d) en none tb_X12_layPath (7, [(0, .ref 151), (1, .int v1), (2, .int v2)], []) s)
  refine e_L 1 (f' := (8, [(0, .ref 151), (1, .int v1), (2, .int v2)], [.ref 151])) rfl ?_
  refine e_gR (q := 212) 12 106 rfl rfl lc_151 lr_151_106 ?_
  refine e_L 1 (f' := (12, [(0, .ref 151), (1, .int v1), (2, .int v2)], [.int v2, .ref 212])) rfl ?_
  refine qle_gd fun h1 => ?_
  refine e_ial (n := 20001) (k := v2.toNatClampNeg) rfl lc_212 ln_212 h1 rfl ?_
  refine e_L 1 (f' := (15, [(0, .ref 151), (1, .int v1), (2, .int v2)], [.int (-2 : Int32), .int (s.1 212 v2.toNatClampNeg)])) rfl ?_
  refine e_icmp 38 rfl rfl rfl (fun c2 => ?_) (fun c2 => ?_)
  · refine e_L 1 (f' := (39, [(0, .ref 151), (1, .int v1), (2, .int v2)], [.ref 151])) rfl ?_
    refine e_gI 12 128 rfl rfl lc_151 ?_
    refine e_L 3 (f' := (45, [(3, .int v1), (2, .int (s.1 151 128)), (0, .ref 151), (1, .int v1)], [])) rfl ?_
    exact qE_sub (qsubL [2, 1, 0] rfl (ks := [3, 2, 0, 1]) rfl (by decide))
  · refine e_L 2 (f' := (20, [(0, .ref 151), (1, .int v1), (2, .int v2)], [.ref 151, .ref 151])) rfl ?_
    refine e_gI 12 128 rfl rfl lc_151 ?_
    refine e_L 2 (f' := (25, [(0, .ref 151), (1, .int v1), (2, .int v2)], [.int ((s.1 151 128) + (1 : Int32)), .ref 151])) rfl ?_
    refine e_pI 12 128 rfl rfl lc_151 rfl ?_
    refine e_nS fun s3 => ?_
    refine e_L 1 (f' := (29, [(0, .ref 151), (1, .int v1), (2, .int v2)], [.ref 151])) rfl ?_
    refine e_gR (q := 212) 12 106 rfl rfl lc_151 lr_151_106 ?_
    refine e_L 1 (f' := (33, [(0, .ref 151), (1, .int v1), (2, .int v2)], [.int v2, .ref 212])) rfl ?_
    refine e_ial (n := 20001) (k := v2.toNatClampNeg) rfl lc_212 ln_212 h1 rfl ?_
    refine e_nI fun z4 => ?_
    refine e_L 2 (f' := (7, [(2, .int z4), (0, .ref 151), (1, .int v1)], [])) rfl ?_
    exact qE_sub (qsubL [1, 2, 0] rfl (ks := [2, 0, 1]) rfl (by decide))
set_option maxRecDepth 100000 in
set_option maxHeartbeats 4000000 in
theorem le_X12_layPath_45 (en : pN) (d : Nat) (v2 : Int32) (v3 : Int32) (s : qS) : qle (gd (p_inB v3 20001 = true) (if (s.1 212 v3.toNatClampNeg) = (-2 : Int32) then some (none, s) else gd (p_inB (v2 + (-1 : Int32)) 20001 = true) (nm (uI s 230 ((v2 + (-1 : Int32)).toNatClampNeg) (s.1 213 v3.toNatClampNeg)) (fun s4 => nm (s4.1 212 v3.toNatClampNeg) (fun z5 => L_X12_layPath_45 en d (v2 + (-1 : Int32)) z5 s4))))) (L_X12_layPath_45 en d v2 v3 s) := by
  show qle _ (qE (qev en d) en none tb_X12_layPath (45, [(0, .ref 151), (2, .int v2), (3, .int v3)], []) s)
  refine e_L 1 (f' := (46, [(0, .ref 151), (2, .int v2), (3, .int v3)], [.ref 151])) rfl ?_
  refine e_gR (q := 212) 12 106 rfl rfl lc_151 lr_151_106 ?_
  refine e_L 1 (f' := (50, [(0, .ref 151), (2, .int v2), (3, .int v3)], [.int v3, .ref 212])) rfl ?_
  refine qle_gd fun h1 => ?_
  refine e_ial (n := 20001) (k := v3.toNatClampNeg) rfl lc_212 ln_212 h1 rfl ?_
  refine e_L 1 (f' := (53, [(0, .ref 151), (2, .int v2), (3, .int v3)], [.int (-2 : Int32), .int (s.1 212 v3.toNatClampNeg)])) rfl ?_
  refine e_icmp 81 rfl rfl rfl (fun c2 => ?_) (fun c2 => ?_)
  · exact e_rV rfl rfl
  · refine e_L 2 (f' := (60, [(2, .int (v2 + (-1 : Int32))), (0, .ref 151), (3, .int v3)], [.ref 151])) rfl ?_
    refine e_gR (q := 230) 12 127 rfl rfl lc_151 lr_151_127 ?_
    refine e_L 2 (f' := (65, [(2, .int (v2 + (-1 : Int32))), (0, .ref 151), (3, .int v3)], [.ref 151, .int (v2 + (-1 : Int32)), .ref 230])) rfl ?_
    refine e_gR (q := 213) 12 107 rfl rfl lc_151 lr_151_107 ?_
    refine e_L 1 (f' := (69, [(2, .int (v2 + (-1 : Int32))), (0, .ref 151), (3, .int v3)], [.int v3, .ref 213, .int (v2 + (-1 : Int32)), .ref 230])) rfl ?_
    refine e_ial (n := 20001) (k := v3.toNatClampNeg) rfl lc_213 ln_213 h1 rfl ?_
    refine qle_gd fun h3 => ?_
    refine e_ias (n := 20001) (k := (v2 + (-1 : Int32)).toNatClampNeg) rfl lc_230 ln_230 h3 rfl ?_
    refine e_nS fun s4 => ?_
    refine e_L 1 (f' := (72, [(2, .int (v2 + (-1 : Int32))), (0, .ref 151), (3, .int v3)], [.ref 151])) rfl ?_
    refine e_gR (q := 212) 12 106 rfl rfl lc_151 lr_151_106 ?_
    refine e_L 1 (f' := (76, [(2, .int (v2 + (-1 : Int32))), (0, .ref 151), (3, .int v3)], [.int v3, .ref 212])) rfl ?_
    refine e_ial (n := 20001) (k := v3.toNatClampNeg) rfl lc_212 ln_212 h1 rfl ?_
    refine e_nI fun z5 => ?_
    refine e_L 2 (f' := (45, [(3, .int z5), (2, .int (v2 + (-1 : Int32))), (0, .ref 151)], [])) rfl ?_
    exact qE_sub (qsubL [2, 1, 0] rfl (ks := [3, 2, 0]) rfl (by decide))
set_option maxRecDepth 100000 in
set_option maxHeartbeats 4000000 in
theorem le_X12_layPath (en : pN) (d : Nat) (a1 : Int32) (s : qS) : qle (nm (uI s 151 128 (0 : Int32)) (fun s1 => L_X12_layPath_7 en d a1 a1 s1)) (qev en (d + 1) 374 [.ref 151, .int a1] s) := by
  refine e_enter ix_X12_layPath (Nat.le_of_ble_eq_true rfl) ?_
  show qle _ (qE (qev en d) en none tb_X12_layPath (0, [(0, .ref 151), (1, .int a1)], []) s)
  refine e_L 2 (f' := (2, [(0, .ref 151), (1, .int a1)], [.int (0 : Int32), .ref 151])) rfl ?_
  refine e_pI 12 128 rfl rfl lc_151 rfl ?_
  refine e_nS fun s1 => ?_
  refine e_L 2 (f' := (7, [(2, .int a1), (0, .ref 151), (1, .int a1)], [])) rfl ?_
  exact qE_sub (qsubL [1, 2, 0] rfl (ks := [2, 0, 1]) rfl (by decide))
set_option maxRecDepth 100000 in
set_option maxHeartbeats 4000000 in
theorem le_X12_isState (en : pN) (d : Nat) (a1 : Int32) (s : qS) : qle (if (s.1 151 98) = (0 : Int32) then some (some (.int (0 : Int32)), s) else if a1 < (0 : Int32) then some (some (.int (0 : Int32)), s) else if (s.1 151 101) ≤ a1 then some (some (.int (0 : Int32)), s) else some (some (.int (1 : Int32)), s)) (qev en (d + 1) 375 [.ref 151, .int a1] s) := by
  refine e_enter ix_X12_isState (Nat.le_of_ble_eq_true rfl) ?_
  show qle _ (qE (qev en d) en (some .boolean) tb_X12_isState (0, [(0, .ref 151), (1, .int a1)], []) s)
  refine e_L 1 (f' := (1, [(0, .ref 151), (1, .int a1)], [.ref 151])) rfl ?_
  refine e_gI 12 98 rfl rfl lc_151 ?_
  refine e_ifz 23 rfl rfl rfl (fun c1 => ?_) (fun c1 => ?_)
  · refine e_L 1 (f' := (24, [(0, .ref 151), (1, .int a1)], [.int (0 : Int32)])) rfl ?_
    exact e_rZ rfl rfl (by decide)
  · refine e_L 1 (f' := (8, [(0, .ref 151), (1, .int a1)], [.int a1])) rfl ?_
    refine e_ifz 23 rfl rfl rfl (fun c2 => ?_) (fun c2 => ?_)
    · refine e_L 1 (f' := (24, [(0, .ref 151), (1, .int a1)], [.int (0 : Int32)])) rfl ?_
      exact e_rZ rfl rfl (by decide)
    · refine e_L 2 (f' := (13, [(0, .ref 151), (1, .int a1)], [.ref 151, .int a1])) rfl ?_
      refine e_gI 12 101 rfl rfl lc_151 ?_
      refine e_icmp 23 rfl rfl rfl (fun c3 => ?_) (fun c3 => ?_)
      · refine e_L 1 (f' := (24, [(0, .ref 151), (1, .int a1)], [.int (0 : Int32)])) rfl ?_
        exact e_rZ rfl rfl (by decide)
      · refine e_L 2 (f' := (24, [(0, .ref 151), (1, .int a1)], [.int (1 : Int32)])) rfl ?_
        exact e_rZ rfl rfl (by decide)
set_option maxRecDepth 100000 in
set_option maxHeartbeats 4000000 in
theorem le_X12_schedule (en : pN) (d : Nat) (a1 : Int32) (a2 : Int32) (s : qS) : qle (bI (qev en d 375 [.ref 151, .int a1] s) (fun w1 s2 => if w1 = (0 : Int32) then some (some (.int (-1 : Int32)), s2) else if (-1 : Int32) ≤ a2 then bV (qev en d 374 [.ref 151, .int a1] s2) (fun s7 => if ¬ a2 = (-1 : Int32) then if (s7.1 151 128) ≤ a2 then some (some (.int (-1 : Int32)), s7) else gd (p_inB a2 20001 = true) (some (some (.int (s7.1 230 a2.toNatClampNeg)), s7)) else some (some (.int (s7.1 151 128)), s7)) else some (some (.int (-1 : Int32)), s2))) (qev en (d + 1) 376 [.ref 151, .int a1, .int a2] s) := by
  refine e_enter ix_X12_schedule (Nat.le_of_ble_eq_true rfl) ?_
  show qle _ (qE (qev en d) en (some .int) tb_X12_schedule (0, [(0, .ref 151), (1, .int a1), (2, .int a2)], []) s)
  refine e_L 2 (f' := (2, [(0, .ref 151), (1, .int a1), (2, .int a2)], [.int a1, .ref 151])) rfl ?_
  refine e_vI 375 rfl rfl ix_X12_isState rfl (q_recvOf lc_151 rfl) (Nat.le_of_ble_eq_true rfl) (fun w1 s2 e3 => ?_)
  refine e_ifz 13 rfl rfl rfl (fun c4 => ?_) (fun c4 => ?_)
  · refine e_L 1 (f' := (14, [(0, .ref 151), (1, .int a1), (2, .int a2)], [.int (-1 : Int32)])) rfl ?_
    exact e_rI rfl rfl
  · refine e_L 2 (f' := (10, [(0, .ref 151), (1, .int a1), (2, .int a2)], [.int (-1 : Int32), .int a2])) rfl ?_
    refine e_icmp 15 rfl rfl rfl (fun c5 => ?_) (fun c5 => ?_)
    · refine e_L 2 (f' := (17, [(0, .ref 151), (1, .int a1), (2, .int a2)], [.int a1, .ref 151])) rfl ?_
      refine e_vV 374 rfl rfl ix_X12_layPath rfl (q_recvOf lc_151 rfl) (Nat.le_of_ble_eq_true rfl) (fun s7 e8 => ?_)
      refine e_L 2 (f' := (22, [(0, .ref 151), (1, .int a1), (2, .int a2)], [.int (-1 : Int32), .int a2])) rfl ?_
      refine e_icmp 32 rfl rfl rfl (fun c9 => ?_) (fun c9 => ?_)
      · refine e_L 2 (f' := (34, [(0, .ref 151), (1, .int a1), (2, .int a2)], [.ref 151, .int a2])) rfl ?_
        refine e_gI 12 128 rfl rfl lc_151 ?_
        refine e_icmp 49 rfl rfl rfl (fun c10 => ?_) (fun c10 => ?_)
        · refine e_L 1 (f' := (50, [(0, .ref 151), (1, .int a1), (2, .int a2)], [.int (-1 : Int32)])) rfl ?_
          exact e_rI rfl rfl
        · refine e_L 1 (f' := (41, [(0, .ref 151), (1, .int a1), (2, .int a2)], [.ref 151])) rfl ?_
          refine e_gR (q := 230) 12 127 rfl rfl lc_151 lr_151_127 ?_
          refine e_L 1 (f' := (45, [(0, .ref 151), (1, .int a1), (2, .int a2)], [.int a2, .ref 230])) rfl ?_
          refine qle_gd fun h11 => ?_
          refine e_ial (n := 20001) (k := a2.toNatClampNeg) rfl lc_230 ln_230 h11 rfl ?_
          refine e_L 1 (f' := (50, [(0, .ref 151), (1, .int a1), (2, .int a2)], [.int (s7.1 230 a2.toNatClampNeg)])) rfl ?_
          exact e_rI rfl rfl
      · refine e_L 1 (f' := (26, [(0, .ref 151), (1, .int a1), (2, .int a2)], [.ref 151])) rfl ?_
        refine e_gI 12 128 rfl rfl lc_151 ?_
        refine e_L 1 (f' := (50, [(0, .ref 151), (1, .int a1), (2, .int a2)], [.int (s7.1 151 128)])) rfl ?_
        exact e_rI rfl rfl
    · refine e_L 1 (f' := (14, [(0, .ref 151), (1, .int a1), (2, .int a2)], [.int (-1 : Int32)])) rfl ?_
      exact e_rI rfl rfl
noncomputable def L_X12_replay_47 (en : pN) (d : Nat) (v2 : Int32) (s : qS) : Option qR := qE (qev en d) en (some .int) tb_X12_replay (47, [(0, .ref 151), (2, .int v2)], []) s
set_option maxRecDepth 100000 in
set_option maxHeartbeats 4000000 in
theorem le_X12_replay_47 (en : pN) (d : Nat) (v2 : Int32) (s : qS) : qle (if (s.1 151 128) ≤ v2 then bI (qev en d 331 [.ref 151] s) (fun w2 s3 => some (some (.int w2), s3)) else bV (qev en d 329 [.ref 151] s) (fun s6 => gd (p_inB v2 20001 = true) (bV (qev en d 334 [.ref 151, .int ((s6.1 230 v2.toNatClampNeg) / (10 : Int32)), .int ((s6.1 230 v2.toNatClampNeg) - (s6.1 230 v2.toNatClampNeg) / (10 : Int32) * (10 : Int32))] s6) (fun s10 => L_X12_replay_47 en d (v2 + (1 : Int32)) s10)))) (L_X12_replay_47 en d v2 s) := by
  show qle _ (qE (qev en d) en (some .int) tb_X12_replay (47, [(0, .ref 151), (2, .int v2)], []) s)
  refine e_L 2 (f' := (49, [(0, .ref 151), (2, .int v2)], [.ref 151, .int v2])) rfl ?_
  refine e_gI 12 128 rfl rfl lc_151 ?_
  refine e_icmp 87 rfl rfl rfl (fun c1 => ?_) (fun c1 => ?_)
  · refine e_L 1 (f' := (88, [(0, .ref 151), (2, .int v2)], [.ref 151])) rfl ?_
    refine e_vI 331 rfl rfl ix_X12_readyNow rfl (q_recvOf lc_151 rfl) (Nat.le_of_ble_eq_true rfl) (fun w2 s3 e4 => ?_)
    exact e_rI rfl rfl
  · refine e_L 1 (f' := (56, [(0, .ref 151), (2, .int v2)], [.ref 151])) rfl ?_
    refine e_vV 329 rfl rfl ix_X12_takeRun rfl (q_recvOf lc_151 rfl) (Nat.le_of_ble_eq_true rfl) (fun s6 e7 => ?_)
    refine e_L 2 (f' := (61, [(0, .ref 151), (2, .int v2)], [.ref 151, .ref 151])) rfl ?_
    refine e_gR (q := 230) 12 127 rfl rfl lc_151 lr_151_127 ?_
    refine e_L 1 (f' := (65, [(0, .ref 151), (2, .int v2)], [.int v2, .ref 230, .ref 151])) rfl ?_
    refine qle_gd fun h8 => ?_
    refine e_ial (n := 20001) (k := v2.toNatClampNeg) rfl lc_230 ln_230 h8 rfl ?_
    refine e_L 1 (f' := (68, [(0, .ref 151), (2, .int v2)], [.int (10 : Int32), .int (s6.1 230 v2.toNatClampNeg), .ref 151])) rfl ?_
    refine e_div rfl (by decide) ?_
    refine e_L 1 (f' := (70, [(0, .ref 151), (2, .int v2)], [.ref 151, .int ((s6.1 230 v2.toNatClampNeg) / (10 : Int32)), .ref 151])) rfl ?_
    refine e_gR (q := 230) 12 127 rfl rfl lc_151 lr_151_127 ?_
    refine e_L 1 (f' := (74, [(0, .ref 151), (2, .int v2)], [.int v2, .ref 230, .int ((s6.1 230 v2.toNatClampNeg) / (10 : Int32)), .ref 151])) rfl ?_
    refine e_ial (n := 20001) (k := v2.toNatClampNeg) rfl lc_230 ln_230 h8 rfl ?_
    refine e_L 1 (f' := (77, [(0, .ref 151), (2, .int v2)], [.int (10 : Int32), .int (s6.1 230 v2.toNatClampNeg), .int ((s6.1 230 v2.toNatClampNeg) / (10 : Int32)), .ref 151])) rfl ?_
    refine e_rem rfl (by decide) ?_
    refine e_vV 334 rfl rfl ix_X12_stepRun rfl (q_recvOf lc_151 rfl) (Nat.le_of_ble_eq_true rfl) (fun s10 e11 => ?_)
    refine e_L 2 (f' := (47, [(2, .int (v2 + (1 : Int32))), (0, .ref 151)], [])) rfl ?_
    exact qE_sub (qsubL [1, 0] rfl (ks := [2, 0]) rfl (by decide))
set_option maxRecDepth 100000 in
set_option maxHeartbeats 4000000 in
theorem le_X12_replay (en : pN) (d : Nat) (a1 : Int32) (s : qS) : qle (bI (qev en d 375 [.ref 151, .int a1] s) (fun w1 s2 => if ¬ w1 = (0 : Int32) then bV (qev en d 374 [.ref 151, .int a1] s2) (fun s6 => if (s6.1 151 128) ≤ (200 : Int32) then bV (qev en d 330 [.ref 151, .int (2 : Int32), .int (s6.1 151 99)] s6) (fun s10 => gd (isB (s10.1 151 148) = true) (nm (uI s10 151 149 (s10.1 151 148)) (fun s13 => L_X12_replay_47 en d (0 : Int32) s13))) else some (some (.int (-3 : Int32)), s6)) else some (some (.int (-1 : Int32)), s2))) (qev en (d + 1) 377 [.ref 151, .int a1] s) := by
  refine e_enter ix_X12_replay (Nat.le_of_ble_eq_true rfl) ?_
  show qle _ (qE (qev en d) en (some .int) tb_X12_replay (0, [(0, .ref 151), (1, .int a1)], []) s)
  refine e_L 2 (f' := (2, [(0, .ref 151), (1, .int a1)], [.int a1, .ref 151])) rfl ?_
  refine e_vI 375 rfl rfl ix_X12_isState rfl (q_recvOf lc_151 rfl) (Nat.le_of_ble_eq_true rfl) (fun w1 s2 e3 => ?_)
  refine e_ifz 10 rfl rfl rfl (fun c4 => ?_) (fun c4 => ?_)
  · refine e_L 2 (f' := (12, [(0, .ref 151), (1, .int a1)], [.int a1, .ref 151])) rfl ?_
    refine e_vV 374 rfl rfl ix_X12_layPath rfl (q_recvOf lc_151 rfl) (Nat.le_of_ble_eq_true rfl) (fun s6 e7 => ?_)
    refine e_L 1 (f' := (16, [(0, .ref 151), (1, .int a1)], [.ref 151])) rfl ?_
    refine e_gI 12 128 rfl rfl lc_151 ?_
    refine e_L 1 (f' := (22, [(0, .ref 151), (1, .int a1)], [.int (200 : Int32), .int (s6.1 151 128)])) rfl ?_
    refine e_icmp 28 rfl rfl rfl (fun c8 => ?_) (fun c8 => ?_)
    · refine e_L 3 (f' := (31, [(0, .ref 151), (1, .int a1)], [.ref 151, .int (2 : Int32), .ref 151])) rfl ?_
      refine e_gI 12 99 rfl rfl lc_151 ?_
      refine e_vV 330 rfl rfl ix_X12_beginRun rfl (q_recvOf lc_151 rfl) (Nat.le_of_ble_eq_true rfl) (fun s10 e11 => ?_)
      refine e_L 2 (f' := (39, [(0, .ref 151), (1, .int a1)], [.ref 151, .ref 151])) rfl ?_
      refine e_gI 12 148 rfl rfl lc_151 ?_
      refine qle_gd fun h12 => ?_
      refine e_pI 12 149 rfl rfl lc_151 h12 ?_
      refine e_nS fun s13 => ?_
      refine e_L 2 (f' := (47, [(2, .int (0 : Int32)), (0, .ref 151), (1, .int a1)], [])) rfl ?_
      exact qE_sub (qsubL [1, 0] rfl (ks := [2, 0, 1]) rfl (by decide))
    · refine e_L 1 (f' := (27, [(0, .ref 151), (1, .int a1)], [.int (-3 : Int32)])) rfl ?_
      exact e_rI rfl rfl
  · refine e_L 1 (f' := (9, [(0, .ref 151), (1, .int a1)], [.int (-1 : Int32)])) rfl ?_
    exact e_rI rfl rfl
noncomputable def L_X12_endsWith_8 (en : pN) (d : Nat) (v1 : Int32) (v2 : Int32) (s : qS) : Option qR := qE (qev en d) en (some .boolean) tb_X12_endsWith (8, [(0, .ref 151), (1, .int v1), (2, .int v2)], []) s
noncomputable def L_X12_endsWith_38 (en : pN) (d : Nat) (v1 : Int32) (v2 : Int32) (v3 : Int32) (v4 : Int32) (s : qS) : Option qR := qE (qev en d) en (some .boolean) tb_X12_endsWith (38, [(0, .ref 151), (1, .int v1), (2, .int v2), (3, .int v3), (4, .int v4)], []) s
noncomputable def L_X12_endsWith_84 (en : pN) (d : Nat) (v1 : Int32) (v2 : Int32) (v4 : Int32) (s : qS) : Option qR := qE (qev en d) en (some .boolean) tb_X12_endsWith (84, [(0, .ref 151), (1, .int v1), (2, .int v2), (4, .int v4)], []) s
noncomputable def L_X12_endsWith_129 (en : pN) (d : Nat) (v1 : Int32) (v2 : Int32) (v3 : Int32) (v4 : Int32) (s : qS) : Option qR := qE (qev en d) en (some .boolean) tb_X12_endsWith (129, [(0, .ref 151), (1, .int v1), (2, .int v2), (3, .int v3), (4, .int v4)], []) s
noncomputable def L_X12_endsWith_157 (en : pN) (d : Nat) (v1 : Int32) (v2 : Int32) (v3 : Int32) (v4 : Int32) (v5 : Int32) (v6 : Int32) (s : qS) : Option qR := qE (qev en d) en (some .boolean) tb_X12_endsWith (157, [(0, .ref 151), (1, .int v1), (2, .int v2), (3, .int v3), (4, .int v4), (5, .int v5), (6, .int v6)], []) s
set_option maxRecDepth 100000 in
set_option maxHeartbeats 4000000 in
theorem le_X12_endsWith_8 (en : pN) (d : Nat) (v1 : Int32) (v2 : Int32) (s : qS) : qle (if (200 : Int32) < v2 then some (some (.int (0 : Int32)), s) else bV (qev en d 315 [.ref 151] s) (fun s3 => if ¬ (s3.1 151 66) = (0 : Int32) then L_X12_endsWith_38 en d v1 v2 (-2 : Int32) (0 : Int32) s3 else bI (qev en d 360 [.ref 151, .int v1] s3) (fun w6 s7 => gd (w6 = 0 ∨ w6 = 1) (some (some (.int w6), s7))))) (L_X12_endsWith_8 en d v1 v2 s) := by
  show qle _ (qE (qev en d) en (some .boolean) tb_X12_endsWith (8, [(0, .ref 151), (1, .int v1), (2, .int v2)], []) s)
  refine e_L 2 (f' := (12, [(0, .ref 151), (1, .int v1), (2, .int v2)], [.int (200 : Int32), .int v2])) rfl ?_
  refine e_icmp 220 rfl rfl rfl (fun c1 => ?_) (fun c1 => ?_)
  · refine e_L 1 (f' := (221, [(0, .ref 151), (1, .int v1), (2, .int v2)], [.int (0 : Int32)])) rfl ?_
    exact e_rZ rfl rfl (by decide)
  · refine e_L 1 (f' := (16, [(0, .ref 151), (1, .int v1), (2, .int v2)], [.ref 151])) rfl ?_
    refine e_vV 315 rfl rfl ix_X12_lookReady rfl (q_recvOf lc_151 rfl) (Nat.le_of_ble_eq_true rfl) (fun s3 e4 => ?_)
    refine e_L 1 (f' := (20, [(0, .ref 151), (1, .int v1), (2, .int v2)], [.ref 151])) rfl ?_
    refine e_gI 12 66 rfl rfl lc_151 ?_
    refine e_ifz 32 rfl rfl rfl (fun c5 => ?_) (fun c5 => ?_)
    · refine e_L 4 (f' := (38, [(4, .int (0 : Int32)), (3, .int (-2 : Int32)), (0, .ref 151), (1, .int v1), (2, .int v2)], [])) rfl ?_
      exact qE_sub (qsubL [2, 3, 4, 1, 0] rfl (ks := [4, 3, 0, 1, 2]) rfl (by decide))
    · refine e_L 2 (f' := (28, [(0, .ref 151), (1, .int v1), (2, .int v2)], [.int v1, .ref 151])) rfl ?_
      refine e_vI 360 rfl rfl ix_X12_isOutcome rfl (q_recvOf lc_151 rfl) (Nat.le_of_ble_eq_true rfl) (fun w6 s7 e8 => ?_)
      exact qle_gd fun h9 => e_rZ rfl rfl h9
set_option maxRecDepth 100000 in
set_option maxHeartbeats 4000000 in
theorem le_X12_endsWith_38 (en : pN) (d : Nat) (v1 : Int32) (v2 : Int32) (v3 : Int32) (v4 : Int32) (s : qS) : qle (if (s.1 151 66) ≤ v4 then if ¬ v2 = (200 : Int32) then bV (qev en d 324 [.ref 151, .int (v3 / (10 : Int32)), .int (v3 - v3 / (10 : Int32) * (10 : Int32))] s) (fun s4 => L_X12_endsWith_129 en d v1 (v2 + (1 : Int32)) v3 (0 : Int32) s4) else some (some (.int (0 : Int32)), s) else gd (p_inB v4 48 = true) (nm ((s.1 190 v4.toNatClampNeg) / (10 : Int32)) (fun z7 => if v3 = (-2 : Int32) then L_X12_endsWith_84 en d v1 v2 v4 s else gd (p_inB z7 4 = true) (gd (p_inB (v3 / (10 : Int32)) 4 = true) (if (s.1 231 z7.toNatClampNeg) ≤ (s.1 231 (v3 / (10 : Int32)).toNatClampNeg) then L_X12_endsWith_38 en d v1 v2 v3 (v4 + (1 : Int32)) s else L_X12_endsWith_84 en d v1 v2 v4 s))))) (L_X12_endsWith_38 en d v1 v2 v3 v4 s) := by
  show qle _ (qE (qev en d) en (some .boolean) tb_X12_endsWith (38, [(0, .ref 151), (1, .int v1), (2, .int v2), (3, .int v3), (4, .int v4)], []) s)
  refine e_L 2 (f' := (41, [(0, .ref 151), (1, .int v1), (2, .int v2), (3, .int v3), (4, .int v4)], [.ref 151, .int v4])) rfl ?_
  refine e_gI 12 66 rfl rfl lc_151 ?_
  refine e_icmp 102 rfl rfl rfl (fun c1 => ?_) (fun c1 => ?_)
  · refine e_L 2 (f' := (106, [(0, .ref 151), (1, .int v1), (2, .int v2), (3, .int v3), (4, .int v4)], [.int (200 : Int32), .int v2])) rfl ?_
    refine e_icmp 111 rfl rfl rfl (fun c2 => ?_) (fun c2 => ?_)
    · refine e_L 3 (f' := (115, [(0, .ref 151), (1, .int v1), (2, .int v2), (3, .int v3), (4, .int v4)], [.int (10 : Int32), .int v3, .ref 151])) rfl ?_
      refine e_div rfl (by decide) ?_
      refine e_L 2 (f' := (119, [(0, .ref 151), (1, .int v1), (2, .int v2), (3, .int v3), (4, .int v4)], [.int (10 : Int32), .int v3, .int (v3 / (10 : Int32)), .ref 151])) rfl ?_
      refine e_rem rfl (by decide) ?_
      refine e_vV 324 rfl rfl ix_X12_doStep rfl (q_recvOf lc_151 rfl) (Nat.le_of_ble_eq_true rfl) (fun s4 e5 => ?_)
      refine e_L 3 (f' := (129, [(4, .int (0 : Int32)), (2, .int (v2 + (1 : Int32))), (0, .ref 151), (1, .int v1), (3, .int v3)], [])) rfl ?_
      exact qE_sub (qsubL [2, 3, 1, 4, 0] rfl (ks := [4, 2, 0, 1, 3]) rfl (by decide))
    · refine e_L 1 (f' := (110, [(0, .ref 151), (1, .int v1), (2, .int v2), (3, .int v3), (4, .int v4)], [.int (0 : Int32)])) rfl ?_
      exact e_rZ rfl rfl (by decide)
  · refine e_L 1 (f' := (48, [(0, .ref 151), (1, .int v1), (2, .int v2), (3, .int v3), (4, .int v4)], [.ref 151])) rfl ?_
    refine e_gR (q := 190) 12 65 rfl rfl lc_151 lr_151_65 ?_
    refine e_L 1 (f' := (53, [(0, .ref 151), (1, .int v1), (2, .int v2), (3, .int v3), (4, .int v4)], [.int v4, .ref 190])) rfl ?_
    refine qle_gd fun h6 => ?_
    refine e_ial (n := 48) (k := v4.toNatClampNeg) rfl lc_190 ln_190 h6 rfl ?_
    refine e_L 1 (f' := (56, [(0, .ref 151), (1, .int v1), (2, .int v2), (3, .int v3), (4, .int v4)], [.int (10 : Int32), .int (s.1 190 v4.toNatClampNeg)])) rfl ?_
    refine e_div rfl (by decide) ?_
    refine e_nI fun z7 => ?_
    refine e_L 3 (f' := (62, [(5, .int z7), (0, .ref 151), (1, .int v1), (2, .int v2), (3, .int v3), (4, .int v4)], [.int (-2 : Int32), .int v3])) rfl ?_
    refine e_icmp 84 rfl rfl rfl (fun c8 => ?_) (fun c8 => ?_)
    · exact qE_sub (qsubL [1, 2, 3, 5] rfl (ks := [5, 0, 1, 2, 3, 4]) rfl (by decide))
    · refine e_L 1 (f' := (66, [(5, .int z7), (0, .ref 151), (1, .int v1), (2, .int v2), (3, .int v3), (4, .int v4)], [.ref 151])) rfl ?_
      refine e_gR (q := 231) 12 129 rfl rfl lc_151 lr_151_129 ?_
      refine e_L 1 (f' := (71, [(5, .int z7), (0, .ref 151), (1, .int v1), (2, .int v2), (3, .int v3), (4, .int v4)], [.int z7, .ref 231])) rfl ?_
      refine qle_gd fun h9 => ?_
      refine e_ial (n := 4) (k := z7.toNatClampNeg) rfl lc_231 ln_231 h9 rfl ?_
      refine e_L 1 (f' := (73, [(5, .int z7), (0, .ref 151), (1, .int v1), (2, .int v2), (3, .int v3), (4, .int v4)], [.ref 151, .int (s.1 231 z7.toNatClampNeg)])) rfl ?_
      refine e_gR (q := 231) 12 129 rfl rfl lc_151 lr_151_129 ?_
      refine e_L 2 (f' := (79, [(5, .int z7), (0, .ref 151), (1, .int v1), (2, .int v2), (3, .int v3), (4, .int v4)], [.int (10 : Int32), .int v3, .ref 231, .int (s.1 231 z7.toNatClampNeg)])) rfl ?_
      refine e_div rfl (by decide) ?_
      refine qle_gd fun h10 => ?_
      refine e_ial (n := 4) (k := (v3 / (10 : Int32)).toNatClampNeg) rfl lc_231 ln_231 h10 rfl ?_
      refine e_icmp 94 rfl rfl rfl (fun c11 => ?_) (fun c11 => ?_)
      · refine e_L 4 (f' := (38, [(4, .int (v4 + (1 : Int32))), (3, .int v3), (5, .int z7), (0, .ref 151), (1, .int v1), (2, .int v2)], [])) rfl ?_
        exact qE_sub (qsubL [3, 4, 5, 1, 0] rfl (ks := [4, 3, 5, 0, 1, 2]) rfl (by decide))
      · exact qE_sub (qsubL [1, 2, 3, 5] rfl (ks := [5, 0, 1, 2, 3, 4]) rfl (by decide))
set_option maxRecDepth 100000 in
set_option maxHeartbeats 4000000 in
theorem le_X12_endsWith_84 (en : pN) (d : Nat) (v1 : Int32) (v2 : Int32) (v4 : Int32) (s : qS) : qle (gd (p_inB v4 48 = true) (nm (s.1 190 v4.toNatClampNeg) (fun z2 => L_X12_endsWith_38 en d v1 v2 z2 (v4 + (1 : Int32)) s))) (L_X12_endsWith_84 en d v1 v2 v4 s) := by
  show qle _ (qE (qev en d) en (some .boolean) tb_X12_endsWith (84, [(0, .ref 151), (1, .int v1), (2, .int v2), (4, .int v4)], []) s)
  refine e_L 1 (f' := (85, [(0, .ref 151), (1, .int v1), (2, .int v2), (4, .int v4)], [.ref 151])) rfl ?_
  refine e_gR (q := 190) 12 65 rfl rfl lc_151 lr_151_65 ?_
  refine e_L 1 (f' := (90, [(0, .ref 151), (1, .int v1), (2, .int v2), (4, .int v4)], [.int v4, .ref 190])) rfl ?_
  refine qle_gd fun h1 => ?_
  refine e_ial (n := 48) (k := v4.toNatClampNeg) rfl lc_190 ln_190 h1 rfl ?_
  refine e_L 1 (f' := (95, [(0, .ref 151), (1, .int v1), (2, .int v2), (4, .int v4)], [.int (s.1 190 v4.toNatClampNeg)])) rfl ?_
  refine e_nI fun z2 => ?_
  refine e_L 3 (f' := (38, [(4, .int (v4 + (1 : Int32))), (3, .int z2), (0, .ref 151), (1, .int v1), (2, .int v2)], [])) rfl ?_
  exact qE_sub (qsubL [2, 3, 4, 1, 0] rfl (ks := [4, 3, 0, 1, 2]) rfl (by decide))
set_option maxRecDepth 100000 in
set_option maxHeartbeats 4000000 in
theorem le_X12_endsWith_129 (en : pN) (d : Nat) (v1 : Int32) (v2 : Int32) (v3 : Int32) (v4 : Int32) (s : qS) : qle (if (2 : Int32) ≤ v4 then L_X12_endsWith_8 en d v1 v2 s else gd (p_inB v4 2 = true) (if ¬ (s.1 232 v4.toNatClampNeg) = v2 then L_X12_endsWith_129 en d v1 v2 v3 (v4 + (1 : Int32)) s else L_X12_endsWith_157 en d v1 v2 v3 v4 (s.1 231 0) (1 : Int32) s)) (L_X12_endsWith_129 en d v1 v2 v3 v4 s) := by
  show qle _ (qE (qev en d) en (some .boolean) tb_X12_endsWith (129, [(0, .ref 151), (1, .int v1), (2, .int v2), (3, .int v3), (4, .int v4)], []) s)
  refine e_L 2 (f' := (132, [(0, .ref 151), (1, .int v1), (2, .int v2), (3, .int v3), (4, .int v4)], [.int (2 : Int32), .int v4])) rfl ?_
  refine e_icmp 217 rfl rfl rfl (fun c1 => ?_) (fun c1 => ?_)
  · refine e_L 1 (f' := (8, [(0, .ref 151), (1, .int v1), (2, .int v2), (3, .int v3), (4, .int v4)], [])) rfl ?_
    exact qE_sub (qsubL [0, 1, 2] rfl (ks := [0, 1, 2, 3, 4]) rfl (by decide))
  · refine e_L 1 (f' := (136, [(0, .ref 151), (1, .int v1), (2, .int v2), (3, .int v3), (4, .int v4)], [.ref 151])) rfl ?_
    refine e_gR (q := 232) 12 130 rfl rfl lc_151 lr_151_130 ?_
    refine e_L 1 (f' := (141, [(0, .ref 151), (1, .int v1), (2, .int v2), (3, .int v3), (4, .int v4)], [.int v4, .ref 232])) rfl ?_
    refine qle_gd fun h2 => ?_
    refine e_ial (n := 2) (k := v4.toNatClampNeg) rfl lc_232 ln_232 h2 rfl ?_
    refine e_L 1 (f' := (143, [(0, .ref 151), (1, .int v1), (2, .int v2), (3, .int v3), (4, .int v4)], [.int v2, .int (s.1 232 v4.toNatClampNeg)])) rfl ?_
    refine e_icmp 211 rfl rfl rfl (fun c3 => ?_) (fun c3 => ?_)
    · refine e_L 2 (f' := (129, [(4, .int (v4 + (1 : Int32))), (0, .ref 151), (1, .int v1), (2, .int v2), (3, .int v3)], [])) rfl ?_
      exact qE_sub (qsubL [1, 2, 3, 4, 0] rfl (ks := [4, 0, 1, 2, 3]) rfl (by decide))
    · refine e_L 1 (f' := (147, [(0, .ref 151), (1, .int v1), (2, .int v2), (3, .int v3), (4, .int v4)], [.ref 151])) rfl ?_
      refine e_gR (q := 231) 12 129 rfl rfl lc_151 lr_151_129 ?_
      refine e_L 1 (f' := (151, [(0, .ref 151), (1, .int v1), (2, .int v2), (3, .int v3), (4, .int v4)], [.int (0 : Int32), .ref 231])) rfl ?_
      refine e_ial (n := 4) (k := 0) rfl lc_231 ln_231 (by decide +kernel) (by decide +kernel) ?_
      refine e_L 3 (f' := (157, [(6, .int (1 : Int32)), (5, .int (s.1 231 0)), (0, .ref 151), (1, .int v1), (2, .int v2), (3, .int v3), (4, .int v4)], [])) rfl ?_
      exact qE_sub (qsubL [2, 3, 4, 5, 6, 1, 0] rfl (ks := [6, 5, 0, 1, 2, 3, 4]) rfl (by decide))
set_option maxRecDepth 100000 in
set_option maxHeartbeats 4000000 in
theorem le_X12_endsWith_157 (en : pN) (d : Nat) (v1 : Int32) (v2 : Int32) (v3 : Int32) (v4 : Int32) (v5 : Int32) (v6 : Int32) (s : qS) : qle (if (s.1 151 18) ≤ v6 then gd (p_inB (v3 / (10 : Int32)) 4 = true) (nm (uI s 231 ((v3 / (10 : Int32)).toNatClampNeg) (v5 - (1 : Int32))) (fun s3 => L_X12_endsWith_129 en d v1 v2 v3 (v4 + (1 : Int32)) s3)) else gd (p_inB v6 4 = true) (if v5 ≤ (s.1 231 v6.toNatClampNeg) then L_X12_endsWith_157 en d v1 v2 v3 v4 v5 (v6 + (1 : Int32)) s else nm (s.1 231 v6.toNatClampNeg) (fun z6 => L_X12_endsWith_157 en d v1 v2 v3 v4 z6 (v6 + (1 : Int32)) s))) (L_X12_endsWith_157 en d v1 v2 v3 v4 v5 v6 s) := by
  show qle _ (qE (qev en d) en (some .boolean) tb_X12_endsWith (157, [(0, .ref 151), (1, .int v1), (2, .int v2), (3, .int v3), (4, .int v4), (5, .int v5), (6, .int v6)], []) s)
  refine e_L 2 (f' := (160, [(0, .ref 151), (1, .int v1), (2, .int v2), (3, .int v3), (4, .int v4), (5, .int v5), (6, .int v6)], [.ref 151, .int v6])) rfl ?_
  refine e_gI 12 18 rfl rfl lc_151 ?_
  refine e_icmp 198 rfl rfl rfl (fun c1 => ?_) (fun c1 => ?_)
  · refine e_L 1 (f' := (199, [(0, .ref 151), (1, .int v1), (2, .int v2), (3, .int v3), (4, .int v4), (5, .int v5), (6, .int v6)], [.ref 151])) rfl ?_
    refine e_gR (q := 231) 12 129 rfl rfl lc_151 lr_151_129 ?_
    refine e_L 2 (f' := (205, [(0, .ref 151), (1, .int v1), (2, .int v2), (3, .int v3), (4, .int v4), (5, .int v5), (6, .int v6)], [.int (10 : Int32), .int v3, .ref 231])) rfl ?_
    refine e_div rfl (by decide) ?_
    refine e_L 3 (f' := (210, [(0, .ref 151), (1, .int v1), (2, .int v2), (3, .int v3), (4, .int v4), (5, .int v5), (6, .int v6)], [.int (v5 - (1 : Int32)), .int (v3 / (10 : Int32)), .ref 231])) rfl ?_
    refine qle_gd fun h2 => ?_
    refine e_ias (n := 4) (k := (v3 / (10 : Int32)).toNatClampNeg) rfl lc_231 ln_231 h2 rfl ?_
    refine e_nS fun s3 => ?_
    refine e_L 2 (f' := (129, [(4, .int (v4 + (1 : Int32))), (0, .ref 151), (1, .int v1), (2, .int v2), (3, .int v3), (5, .int v5), (6, .int v6)], [])) rfl ?_
    exact qE_sub (qsubL [1, 2, 3, 4, 0] rfl (ks := [4, 0, 1, 2, 3, 5, 6]) rfl (by decide))
  · refine e_L 1 (f' := (167, [(0, .ref 151), (1, .int v1), (2, .int v2), (3, .int v3), (4, .int v4), (5, .int v5), (6, .int v6)], [.ref 151])) rfl ?_
    refine e_gR (q := 231) 12 129 rfl rfl lc_151 lr_151_129 ?_
    refine e_L 1 (f' := (172, [(0, .ref 151), (1, .int v1), (2, .int v2), (3, .int v3), (4, .int v4), (5, .int v5), (6, .int v6)], [.int v6, .ref 231])) rfl ?_
    refine qle_gd fun h4 => ?_
    refine e_ial (n := 4) (k := v6.toNatClampNeg) rfl lc_231 ln_231 h4 rfl ?_
    refine e_L 1 (f' := (175, [(0, .ref 151), (1, .int v1), (2, .int v2), (3, .int v3), (4, .int v4), (5, .int v5), (6, .int v6)], [.int v5, .int (s.1 231 v6.toNatClampNeg)])) rfl ?_
    refine e_icmp 188 rfl rfl rfl (fun c5 => ?_) (fun c5 => ?_)
    · refine e_L 4 (f' := (157, [(6, .int (v6 + (1 : Int32))), (5, .int v5), (0, .ref 151), (1, .int v1), (2, .int v2), (3, .int v3), (4, .int v4)], [])) rfl ?_
      exact qE_sub (qsubL [2, 3, 4, 5, 6, 1, 0] rfl (ks := [6, 5, 0, 1, 2, 3, 4]) rfl (by decide))
    · refine e_L 1 (f' := (179, [(0, .ref 151), (1, .int v1), (2, .int v2), (3, .int v3), (4, .int v4), (5, .int v5), (6, .int v6)], [.ref 151])) rfl ?_
      refine e_gR (q := 231) 12 129 rfl rfl lc_151 lr_151_129 ?_
      refine e_L 1 (f' := (184, [(0, .ref 151), (1, .int v1), (2, .int v2), (3, .int v3), (4, .int v4), (5, .int v5), (6, .int v6)], [.int v6, .ref 231])) rfl ?_
      refine e_ial (n := 4) (k := v6.toNatClampNeg) rfl lc_231 ln_231 h4 rfl ?_
      refine e_L 1 (f' := (190, [(0, .ref 151), (1, .int v1), (2, .int v2), (3, .int v3), (4, .int v4), (5, .int v5), (6, .int v6)], [.int (s.1 231 v6.toNatClampNeg)])) rfl ?_
      refine e_nI fun z6 => ?_
      refine e_L 3 (f' := (157, [(6, .int (v6 + (1 : Int32))), (5, .int z6), (0, .ref 151), (1, .int v1), (2, .int v2), (3, .int v3), (4, .int v4)], [])) rfl ?_
      exact qE_sub (qsubL [2, 3, 4, 5, 6, 1, 0] rfl (ks := [6, 5, 0, 1, 2, 3, 4]) rfl (by decide))
set_option maxRecDepth 100000 in
set_option maxHeartbeats 4000000 in
theorem le_X12_endsWith (en : pN) (d : Nat) (a1 : Int32) (s : qS) : qle (bV (qev en d 300 [.ref 151, .int (2 : Int32), .int (0 : Int32)] s) (fun s2 => L_X12_endsWith_8 en d a1 (0 : Int32) s2)) (qev en (d + 1) 378 [.ref 151, .int a1] s) := by
  refine e_enter ix_X12_endsWith (Nat.le_of_ble_eq_true rfl) ?_
  show qle _ (qE (qev en d) en (some .boolean) tb_X12_endsWith (0, [(0, .ref 151), (1, .int a1)], []) s)
  refine e_L 3 (f' := (3, [(0, .ref 151), (1, .int a1)], [.int (0 : Int32), .int (2 : Int32), .ref 151])) rfl ?_
  refine e_vV 300 rfl rfl ix_X12_firstState rfl (q_recvOf lc_151 rfl) (Nat.le_of_ble_eq_true rfl) (fun s2 e3 => ?_)
  refine e_L 2 (f' := (8, [(2, .int (0 : Int32)), (0, .ref 151), (1, .int a1)], [])) rfl ?_
  exact qE_sub (qsubL [1, 2, 0] rfl (ks := [2, 0, 1]) rfl (by decide))
noncomputable def L_X12_chances_80 (en : pN) (d : Nat) (v1 : Int32) (v2 : Int32) (v3 : Int32) (v4 : Int32) (vs0 : Int32) (s : qS) : Option qR := qE (qev en d) en (some .int) tb_X12_chances (80, [(0, .ref 151), (1, .int v1), (2, .int v2), (3, .int v3), (4, .int v4)], [.int vs0]) s
noncomputable def L_X12_chances_108 (en : pN) (d : Nat) (v1 : Int32) (v2 : Int32) (v3 : Int32) (v4 : Int32) (v5 : Int32) (v6 : Int32) (v7 : Int32) (s : qS) : Option qR := qE (qev en d) en (some .int) tb_X12_chances (108, [(0, .ref 151), (1, .int v1), (2, .int v2), (3, .int v3), (4, .int v4), (5, .int v5), (6, .int v6), (7, .int v7)], []) s
noncomputable def L_X12_chances_118 (en : pN) (d : Nat) (v1 : Int32) (v2 : Int32) (v3 : Int32) (v4 : Int32) (v5 : Int32) (v6 : Int32) (v7 : Int32) (v8 : Int32) (s : qS) : Option qR := qE (qev en d) en (some .int) tb_X12_chances (118, [(0, .ref 151), (1, .int v1), (2, .int v2), (3, .int v3), (4, .int v4), (5, .int v5), (6, .int v6), (7, .int v7), (8, .int v8)], []) s
noncomputable def L_X12_chances_151 (en : pN) (d : Nat) (v1 : Int32) (v2 : Int32) (v3 : Int32) (v4 : Int32) (v5 : Int32) (v6 : Int32) (v7 : Int32) (v8 : Int32) (vs1 : Int32) (vs2 : Int32) (s : qS) : Option qR := qE (qev en d) en (some .int) tb_X12_chances (151, [(0, .ref 151), (1, .int v1), (2, .int v2), (3, .int v3), (4, .int v4), (5, .int v5), (6, .int v6), (7, .int v7), (8, .int v8)], [.int vs2, .int vs1, .ref 232]) s
noncomputable def L_X12_chances_172 (en : pN) (d : Nat) (v1 : Int32) (v2 : Int32) (v3 : Int32) (v4 : Int32) (v5 : Int32) (v6 : Int32) (v7 : Int32) (v8 : Int32) (vs1 : Int32) (vs2 : Int32) (s : qS) : Option qR := qE (qev en d) en (some .int) tb_X12_chances (172, [(0, .ref 151), (1, .int v1), (2, .int v2), (3, .int v3), (4, .int v4), (5, .int v5), (6, .int v6), (7, .int v7), (8, .int v8)], [.int vs2, .int vs1, .ref 232]) s
set_option maxRecDepth 100000 in
set_option maxHeartbeats 4000000 in
theorem le_X12_chances_80 (en : pN) (d : Nat) (v1 : Int32) (v2 : Int32) (v3 : Int32) (v4 : Int32) (vs0 : Int32) (s : qS) : qle (if ¬ v2 = (1 : Int32) then if ¬ v2 = (2 : Int32) then L_X12_chances_108 en d v1 v2 v3 v4 vs0 (v3 * v3) (0 : Int32) s else L_X12_chances_108 en d v1 v2 v3 v4 vs0 v3 (0 : Int32) s else L_X12_chances_108 en d v1 v2 v3 v4 vs0 (1 : Int32) (0 : Int32) s) (L_X12_chances_80 en d v1 v2 v3 v4 vs0 s) := by
  show qle _ (qE (qev en d) en (some .int) tb_X12_chances (80, [(0, .ref 151), (1, .int v1), (2, .int v2), (3, .int v3), (4, .int v4)], [.int vs0]) s)
  refine e_L 3 (f' := (84, [(5, .int vs0), (0, .ref 151), (1, .int v1), (2, .int v2), (3, .int v3), (4, .int v4)], [.int (1 : Int32), .int v2])) rfl ?_
  refine e_icmp 91 rfl rfl rfl (fun c1 => ?_) (fun c1 => ?_)
  · refine e_L 2 (f' := (93, [(5, .int vs0), (0, .ref 151), (1, .int v1), (2, .int v2), (3, .int v3), (4, .int v4)], [.int (2 : Int32), .int v2])) rfl ?_
    refine e_icmp 100 rfl rfl rfl (fun c2 => ?_) (fun c2 => ?_)
    · refine e_L 6 (f' := (108, [(7, .int (0 : Int32)), (6, .int (v3 * v3)), (5, .int vs0), (0, .ref 151), (1, .int v1), (2, .int v2), (3, .int v3), (4, .int v4)], [])) rfl ?_
      exact qE_sub (qsubL [3, 4, 5, 6, 7, 2, 1, 0] rfl (ks := [7, 6, 5, 0, 1, 2, 3, 4]) rfl (by decide))
    · refine e_L 5 (f' := (108, [(7, .int (0 : Int32)), (6, .int v3), (5, .int vs0), (0, .ref 151), (1, .int v1), (2, .int v2), (3, .int v3), (4, .int v4)], [])) rfl ?_
      exact qE_sub (qsubL [3, 4, 5, 6, 7, 2, 1, 0] rfl (ks := [7, 6, 5, 0, 1, 2, 3, 4]) rfl (by decide))
  · refine e_L 5 (f' := (108, [(7, .int (0 : Int32)), (6, .int (1 : Int32)), (5, .int vs0), (0, .ref 151), (1, .int v1), (2, .int v2), (3, .int v3), (4, .int v4)], [])) rfl ?_
    exact qE_sub (qsubL [3, 4, 5, 6, 7, 2, 1, 0] rfl (ks := [7, 6, 5, 0, 1, 2, 3, 4]) rfl (by decide))
set_option maxRecDepth 100000 in
set_option maxHeartbeats 4000000 in
theorem le_X12_chances_108 (en : pN) (d : Nat) (v1 : Int32) (v2 : Int32) (v3 : Int32) (v4 : Int32) (v5 : Int32) (v6 : Int32) (v7 : Int32) (s : qS) : qle (if v5 ≤ v7 then some (some (.int v4), s) else L_X12_chances_118 en d v1 v2 v3 v4 v5 v6 v7 (0 : Int32) s) (L_X12_chances_108 en d v1 v2 v3 v4 v5 v6 v7 s) := by
  show qle _ (qE (qev en d) en (some .int) tb_X12_chances (108, [(0, .ref 151), (1, .int v1), (2, .int v2), (3, .int v3), (4, .int v4), (5, .int v5), (6, .int v6), (7, .int v7)], []) s)
  refine e_L 2 (f' := (112, [(0, .ref 151), (1, .int v1), (2, .int v2), (3, .int v3), (4, .int v4), (5, .int v5), (6, .int v6), (7, .int v7)], [.int v5, .int v7])) rfl ?_
  refine e_icmp 203 rfl rfl rfl (fun c1 => ?_) (fun c1 => ?_)
  · refine e_L 1 (f' := (205, [(0, .ref 151), (1, .int v1), (2, .int v2), (3, .int v3), (4, .int v4), (5, .int v5), (6, .int v6), (7, .int v7)], [.int v4])) rfl ?_
    exact e_rI rfl rfl
  · refine e_L 2 (f' := (118, [(8, .int (0 : Int32)), (0, .ref 151), (1, .int v1), (2, .int v2), (3, .int v3), (4, .int v4), (5, .int v5), (6, .int v6), (7, .int v7)], [])) rfl ?_
    exact qE_sub (qsubL [1, 2, 3, 4, 5, 6, 7, 8, 0] rfl (ks := [8, 0, 1, 2, 3, 4, 5, 6, 7]) rfl (by decide))
set_option maxRecDepth 100000 in
set_option maxHeartbeats 4000000 in
theorem le_X12_chances_118 (en : pN) (d : Nat) (v1 : Int32) (v2 : Int32) (v3 : Int32) (v4 : Int32) (v5 : Int32) (v6 : Int32) (v7 : Int32) (v8 : Int32) (s : qS) : qle (if v6 ≤ v8 then L_X12_chances_108 en d v1 v2 v3 v4 v5 v6 (v7 + (1 : Int32)) s else bV (qev en d 380 [.ref 151, .int v7] s) (fun s3 => if v2 ≤ (1 : Int32) then L_X12_chances_151 en d v1 v2 v3 v4 v5 v6 v7 v8 (0 : Int32) (0 : Int32) s3 else gd (¬ v3 = 0) (L_X12_chances_151 en d v1 v2 v3 v4 v5 v6 v7 v8 (0 : Int32) ((1 : Int32) + (v8 - v8 / v3 * v3)) s3))) (L_X12_chances_118 en d v1 v2 v3 v4 v5 v6 v7 v8 s) := by
  show qle _ (qE (qev en d) en (some .int) tb_X12_chances (118, [(0, .ref 151), (1, .int v1), (2, .int v2), (3, .int v3), (4, .int v4), (5, .int v5), (6, .int v6), (7, .int v7), (8, .int v8)], []) s)
  refine e_L 2 (f' := (122, [(0, .ref 151), (1, .int v1), (2, .int v2), (3, .int v3), (4, .int v4), (5, .int v5), (6, .int v6), (7, .int v7), (8, .int v8)], [.int v6, .int v8])) rfl ?_
  refine e_icmp 197 rfl rfl rfl (fun c1 => ?_) (fun c1 => ?_)
  · refine e_L 2 (f' := (108, [(7, .int (v7 + (1 : Int32))), (0, .ref 151), (1, .int v1), (2, .int v2), (3, .int v3), (4, .int v4), (5, .int v5), (6, .int v6), (8, .int v8)], [])) rfl ?_
    exact qE_sub (qsubL [1, 2, 3, 4, 5, 6, 7, 0] rfl (ks := [7, 0, 1, 2, 3, 4, 5, 6, 8]) rfl (by decide))
  · refine e_L 2 (f' := (128, [(0, .ref 151), (1, .int v1), (2, .int v2), (3, .int v3), (4, .int v4), (5, .int v5), (6, .int v6), (7, .int v7), (8, .int v8)], [.int v7, .ref 151])) rfl ?_
    refine e_vV 380 rfl rfl ix_X12_layOrder rfl (q_recvOf lc_151 rfl) (Nat.le_of_ble_eq_true rfl) (fun s3 e4 => ?_)
    refine e_L 1 (f' := (132, [(0, .ref 151), (1, .int v1), (2, .int v2), (3, .int v3), (4, .int v4), (5, .int v5), (6, .int v6), (7, .int v7), (8, .int v8)], [.ref 151])) rfl ?_
    refine e_gR (q := 232) 12 130 rfl rfl lc_151 lr_151_130 ?_
    refine e_L 3 (f' := (138, [(0, .ref 151), (1, .int v1), (2, .int v2), (3, .int v3), (4, .int v4), (5, .int v5), (6, .int v6), (7, .int v7), (8, .int v8)], [.int (1 : Int32), .int v2, .int (0 : Int32), .ref 232])) rfl ?_
    refine e_icmp 150 rfl rfl rfl (fun c5 => ?_) (fun c5 => ?_)
    · refine e_L 1 (f' := (151, [(0, .ref 151), (1, .int v1), (2, .int v2), (3, .int v3), (4, .int v4), (5, .int v5), (6, .int v6), (7, .int v7), (8, .int v8)], [.int (0 : Int32), .int (0 : Int32), .ref 232])) rfl ?_
      exact qE_sub (qsubL [0, 1, 2, 3, 4, 5, 6, 7, 8] rfl (ks := [0, 1, 2, 3, 4, 5, 6, 7, 8]) rfl (by decide))
    · refine e_L 3 (f' := (145, [(0, .ref 151), (1, .int v1), (2, .int v2), (3, .int v3), (4, .int v4), (5, .int v5), (6, .int v6), (7, .int v7), (8, .int v8)], [.int v3, .int v8, .int (1 : Int32), .int (0 : Int32), .ref 232])) rfl ?_
      refine qle_gd fun h6 => ?_
      refine e_rem rfl h6 ?_
      refine e_L 2 (f' := (151, [(0, .ref 151), (1, .int v1), (2, .int v2), (3, .int v3), (4, .int v4), (5, .int v5), (6, .int v6), (7, .int v7), (8, .int v8)], [.int ((1 : Int32) + (v8 - v8 / v3 * v3)), .int (0 : Int32), .ref 232])) rfl ?_
      exact qE_sub (qsubL [0, 1, 2, 3, 4, 5, 6, 7, 8] rfl (ks := [0, 1, 2, 3, 4, 5, 6, 7, 8]) rfl (by decide))
set_option maxRecDepth 100000 in
set_option maxHeartbeats 4000000 in
theorem le_X12_chances_151 (en : pN) (d : Nat) (v1 : Int32) (v2 : Int32) (v3 : Int32) (v4 : Int32) (v5 : Int32) (v6 : Int32) (v7 : Int32) (v8 : Int32) (vs1 : Int32) (vs2 : Int32) (s : qS) : qle (gd (p_inB vs1 2 = true) (nm (uI s 232 (vs1.toNatClampNeg) vs2) (fun s2 => if v2 ≤ (2 : Int32) then L_X12_chances_172 en d v1 v2 v3 v4 v5 v6 v7 v8 (1 : Int32) (0 : Int32) s2 else gd (¬ v3 = 0) (L_X12_chances_172 en d v1 v2 v3 v4 v5 v6 v7 v8 (1 : Int32) ((1 : Int32) + (v8 / v3)) s2)))) (L_X12_chances_151 en d v1 v2 v3 v4 v5 v6 v7 v8 vs1 vs2 s) := by
  show qle _ (qE (qev en d) en (some .int) tb_X12_chances (151, [(0, .ref 151), (1, .int v1), (2, .int v2), (3, .int v3), (4, .int v4), (5, .int v5), (6, .int v6), (7, .int v7), (8, .int v8)], [.int vs2, .int vs1, .ref 232]) s)
  refine qle_gd fun h1 => ?_
  refine e_ias (n := 2) (k := vs1.toNatClampNeg) rfl lc_232 ln_232 h1 rfl ?_
  refine e_nS fun s2 => ?_
  refine e_L 1 (f' := (153, [(0, .ref 151), (1, .int v1), (2, .int v2), (3, .int v3), (4, .int v4), (5, .int v5), (6, .int v6), (7, .int v7), (8, .int v8)], [.ref 151])) rfl ?_
  refine e_gR (q := 232) 12 130 rfl rfl lc_151 lr_151_130 ?_
  refine e_L 3 (f' := (159, [(0, .ref 151), (1, .int v1), (2, .int v2), (3, .int v3), (4, .int v4), (5, .int v5), (6, .int v6), (7, .int v7), (8, .int v8)], [.int (2 : Int32), .int v2, .int (1 : Int32), .ref 232])) rfl ?_
  refine e_icmp 171 rfl rfl rfl (fun c3 => ?_) (fun c3 => ?_)
  · refine e_L 1 (f' := (172, [(0, .ref 151), (1, .int v1), (2, .int v2), (3, .int v3), (4, .int v4), (5, .int v5), (6, .int v6), (7, .int v7), (8, .int v8)], [.int (0 : Int32), .int (1 : Int32), .ref 232])) rfl ?_
    exact qE_sub (qsubL [0, 1, 2, 3, 4, 5, 6, 7, 8] rfl (ks := [0, 1, 2, 3, 4, 5, 6, 7, 8]) rfl (by decide))
  · refine e_L 3 (f' := (166, [(0, .ref 151), (1, .int v1), (2, .int v2), (3, .int v3), (4, .int v4), (5, .int v5), (6, .int v6), (7, .int v7), (8, .int v8)], [.int v3, .int v8, .int (1 : Int32), .int (1 : Int32), .ref 232])) rfl ?_
    refine qle_gd fun h4 => ?_
    refine e_div rfl h4 ?_
    refine e_L 2 (f' := (172, [(0, .ref 151), (1, .int v1), (2, .int v2), (3, .int v3), (4, .int v4), (5, .int v5), (6, .int v6), (7, .int v7), (8, .int v8)], [.int ((1 : Int32) + (v8 / v3)), .int (1 : Int32), .ref 232])) rfl ?_
    exact qE_sub (qsubL [0, 1, 2, 3, 4, 5, 6, 7, 8] rfl (ks := [0, 1, 2, 3, 4, 5, 6, 7, 8]) rfl (by decide))
set_option maxRecDepth 100000 in
set_option maxHeartbeats 4000000 in
theorem le_X12_chances_172 (en : pN) (d : Nat) (v1 : Int32) (v2 : Int32) (v3 : Int32) (v4 : Int32) (v5 : Int32) (v6 : Int32) (v7 : Int32) (v8 : Int32) (vs1 : Int32) (vs2 : Int32) (s : qS) : qle (gd (p_inB vs1 2 = true) (nm (uI s 232 (vs1.toNatClampNeg) vs2) (fun s2 => bI (qev en d 378 [.ref 151, .int v1] s2) (fun w3 s4 => if w3 = (0 : Int32) then L_X12_chances_118 en d v1 v2 v3 (v4 + (0 : Int32)) v5 v6 v7 (v8 + (1 : Int32)) s4 else L_X12_chances_118 en d v1 v2 v3 (v4 + (1 : Int32)) v5 v6 v7 (v8 + (1 : Int32)) s4)))) (L_X12_chances_172 en d v1 v2 v3 v4 v5 v6 v7 v8 vs1 vs2 s) := by
  show qle _ (qE (qev en d) en (some .int) tb_X12_chances (172, [(0, .ref 151), (1, .int v1), (2, .int v2), (3, .int v3), (4, .int v4), (5, .int v5), (6, .int v6), (7, .int v7), (8, .int v8)], [.int vs2, .int vs1, .ref 232]) s)
  refine qle_gd fun h1 => ?_
  refine e_ias (n := 2) (k := vs1.toNatClampNeg) rfl lc_232 ln_232 h1 rfl ?_
  refine e_nS fun s2 => ?_
  refine e_L 3 (f' := (177, [(0, .ref 151), (1, .int v1), (2, .int v2), (3, .int v3), (4, .int v4), (5, .int v5), (6, .int v6), (7, .int v7), (8, .int v8)], [.int v1, .ref 151, .int v4])) rfl ?_
  refine e_vI 378 rfl rfl ix_X12_endsWith rfl (q_recvOf lc_151 rfl) (Nat.le_of_ble_eq_true rfl) (fun w3 s4 e5 => ?_)
  refine e_ifz 187 rfl rfl rfl (fun c6 => ?_) (fun c6 => ?_)
  · refine e_L 5 (f' := (118, [(8, .int (v8 + (1 : Int32))), (4, .int (v4 + (0 : Int32))), (0, .ref 151), (1, .int v1), (2, .int v2), (3, .int v3), (5, .int v5), (6, .int v6), (7, .int v7)], [])) rfl ?_
    exact qE_sub (qsubL [2, 3, 4, 5, 1, 6, 7, 8, 0] rfl (ks := [8, 4, 0, 1, 2, 3, 5, 6, 7]) rfl (by decide))
  · refine e_L 6 (f' := (118, [(8, .int (v8 + (1 : Int32))), (4, .int (v4 + (1 : Int32))), (0, .ref 151), (1, .int v1), (2, .int v2), (3, .int v3), (5, .int v5), (6, .int v6), (7, .int v7)], [])) rfl ?_
    exact qE_sub (qsubL [2, 3, 4, 5, 1, 6, 7, 8, 0] rfl (ks := [8, 4, 0, 1, 2, 3, 5, 6, 7]) rfl (by decide))
set_option maxRecDepth 100000 in
set_option maxHeartbeats 4000000 in
theorem le_X12_chances (en : pN) (d : Nat) (a1 : Int32) (a2 : Int32) (a3 : Int32) (s : qS) : qle (bI (qev en d 368 [.ref 151, .int a1] s) (fun w1 s2 => if w1 = (0 : Int32) then some (some (.int (-1 : Int32)), s2) else if ¬ (s2.1 151 99) = (0 : Int32) then some (some (.int (-1 : Int32)), s2) else if a2 < (1 : Int32) then some (some (.int (-1 : Int32)), s2) else if (3 : Int32) < a2 then some (some (.int (-1 : Int32)), s2) else if a3 < (1 : Int32) then some (some (.int (-1 : Int32)), s2) else if a3 ≤ (12 : Int32) then if (2 : Int32) ≤ (s2.1 151 18) then if ¬ (s2.1 151 18) = (2 : Int32) then if ¬ (s2.1 151 18) = (3 : Int32) then L_X12_chances_80 en d a1 a2 a3 (0 : Int32) (24 : Int32) s2 else L_X12_chances_80 en d a1 a2 a3 (0 : Int32) (6 : Int32) s2 else L_X12_chances_80 en d a1 a2 a3 (0 : Int32) (2 : Int32) s2 else L_X12_chances_80 en d a1 a2 a3 (0 : Int32) (1 : Int32) s2 else some (some (.int (-1 : Int32)), s2))) (qev en (d + 1) 379 [.ref 151, .int a1, .int a2, .int a3] s) := by
  refine e_enter ix_X12_chances (Nat.le_of_ble_eq_true rfl) ?_
  show qle _ (qE (qev en d) en (some .int) tb_X12_chances (0, [(0, .ref 151), (1, .int a1), (2, .int a2), (3, .int a3)], []) s)
  refine e_L 2 (f' := (2, [(0, .ref 151), (1, .int a1), (2, .int a2), (3, .int a3)], [.int a1, .ref 151])) rfl ?_
  refine e_vI 368 rfl rfl ix_X12_isExploredOutcome rfl (q_recvOf lc_151 rfl) (Nat.le_of_ble_eq_true rfl) (fun w1 s2 e3 => ?_)
  refine e_ifz 36 rfl rfl rfl (fun c4 => ?_) (fun c4 => ?_)
  · refine e_L 1 (f' := (37, [(0, .ref 151), (1, .int a1), (2, .int a2), (3, .int a3)], [.int (-1 : Int32)])) rfl ?_
    exact e_rI rfl rfl
  · refine e_L 1 (f' := (9, [(0, .ref 151), (1, .int a1), (2, .int a2), (3, .int a3)], [.ref 151])) rfl ?_
    refine e_gI 12 99 rfl rfl lc_151 ?_
    refine e_ifz 36 rfl rfl rfl (fun c5 => ?_) (fun c5 => ?_)
    · refine e_L 1 (f' := (37, [(0, .ref 151), (1, .int a1), (2, .int a2), (3, .int a3)], [.int (-1 : Int32)])) rfl ?_
      exact e_rI rfl rfl
    · refine e_L 2 (f' := (17, [(0, .ref 151), (1, .int a1), (2, .int a2), (3, .int a3)], [.int (1 : Int32), .int a2])) rfl ?_
      refine e_icmp 36 rfl rfl rfl (fun c6 => ?_) (fun c6 => ?_)
      · refine e_L 1 (f' := (37, [(0, .ref 151), (1, .int a1), (2, .int a2), (3, .int a3)], [.int (-1 : Int32)])) rfl ?_
        exact e_rI rfl rfl
      · refine e_L 2 (f' := (22, [(0, .ref 151), (1, .int a1), (2, .int a2), (3, .int a3)], [.int (3 : Int32), .int a2])) rfl ?_
        refine e_icmp 36 rfl rfl rfl (fun c7 => ?_) (fun c7 => ?_)
        · refine e_L 1 (f' := (37, [(0, .ref 151), (1, .int a1), (2, .int a2), (3, .int a3)], [.int (-1 : Int32)])) rfl ?_
          exact e_rI rfl rfl
        · refine e_L 2 (f' := (27, [(0, .ref 151), (1, .int a1), (2, .int a2), (3, .int a3)], [.int (1 : Int32), .int a3])) rfl ?_
          refine e_icmp 36 rfl rfl rfl (fun c8 => ?_) (fun c8 => ?_)
          · refine e_L 1 (f' := (37, [(0, .ref 151), (1, .int a1), (2, .int a2), (3, .int a3)], [.int (-1 : Int32)])) rfl ?_
            exact e_rI rfl rfl
          · refine e_L 2 (f' := (33, [(0, .ref 151), (1, .int a1), (2, .int a2), (3, .int a3)], [.int (12 : Int32), .int a3])) rfl ?_
            refine e_icmp 38 rfl rfl rfl (fun c9 => ?_) (fun c9 => ?_)
            · refine e_L 3 (f' := (42, [(4, .int (0 : Int32)), (0, .ref 151), (1, .int a1), (2, .int a2), (3, .int a3)], [.ref 151])) rfl ?_
              refine e_gI 12 18 rfl rfl lc_151 ?_
              refine e_L 1 (f' := (46, [(4, .int (0 : Int32)), (0, .ref 151), (1, .int a1), (2, .int a2), (3, .int a3)], [.int (2 : Int32), .int (s2.1 151 18)])) rfl ?_
              refine e_icmp 53 rfl rfl rfl (fun c10 => ?_) (fun c10 => ?_)
              · refine e_L 1 (f' := (54, [(4, .int (0 : Int32)), (0, .ref 151), (1, .int a1), (2, .int a2), (3, .int a3)], [.ref 151])) rfl ?_
                refine e_gI 12 18 rfl rfl lc_151 ?_
                refine e_L 1 (f' := (58, [(4, .int (0 : Int32)), (0, .ref 151), (1, .int a1), (2, .int a2), (3, .int a3)], [.int (2 : Int32), .int (s2.1 151 18)])) rfl ?_
                refine e_icmp 65 rfl rfl rfl (fun c11 => ?_) (fun c11 => ?_)
                · refine e_L 1 (f' := (66, [(4, .int (0 : Int32)), (0, .ref 151), (1, .int a1), (2, .int a2), (3, .int a3)], [.ref 151])) rfl ?_
                  refine e_gI 12 18 rfl rfl lc_151 ?_
                  refine e_L 1 (f' := (70, [(4, .int (0 : Int32)), (0, .ref 151), (1, .int a1), (2, .int a2), (3, .int a3)], [.int (3 : Int32), .int (s2.1 151 18)])) rfl ?_
                  refine e_icmp 78 rfl rfl rfl (fun c12 => ?_) (fun c12 => ?_)
                  · refine e_L 1 (f' := (80, [(4, .int (0 : Int32)), (0, .ref 151), (1, .int a1), (2, .int a2), (3, .int a3)], [.int (24 : Int32)])) rfl ?_
                    exact qE_sub (qsubL [1, 2, 3, 4, 0] rfl (ks := [4, 0, 1, 2, 3]) rfl (by decide))
                  · refine e_L 2 (f' := (80, [(4, .int (0 : Int32)), (0, .ref 151), (1, .int a1), (2, .int a2), (3, .int a3)], [.int (6 : Int32)])) rfl ?_
                    exact qE_sub (qsubL [1, 2, 3, 4, 0] rfl (ks := [4, 0, 1, 2, 3]) rfl (by decide))
                · refine e_L 2 (f' := (80, [(4, .int (0 : Int32)), (0, .ref 151), (1, .int a1), (2, .int a2), (3, .int a3)], [.int (2 : Int32)])) rfl ?_
                  exact qE_sub (qsubL [1, 2, 3, 4, 0] rfl (ks := [4, 0, 1, 2, 3]) rfl (by decide))
              · refine e_L 2 (f' := (80, [(4, .int (0 : Int32)), (0, .ref 151), (1, .int a1), (2, .int a2), (3, .int a3)], [.int (1 : Int32)])) rfl ?_
                exact qE_sub (qsubL [1, 2, 3, 4, 0] rfl (ks := [4, 0, 1, 2, 3]) rfl (by decide))
            · refine e_L 1 (f' := (37, [(0, .ref 151), (1, .int a1), (2, .int a2), (3, .int a3)], [.int (-1 : Int32)])) rfl ?_
              exact e_rI rfl rfl
noncomputable def L_X12_layOrder_7 (en : pN) (d : Nat) (v2 : Int32) (v3 : Int32) (v4 : Int32) (s : qS) : Option qR := qE (qev en d) en none tb_X12_layOrder (7, [(0, .ref 151), (2, .int v2), (3, .int v3), (4, .int v4)], []) s
noncomputable def L_X12_layOrder_40 (en : pN) (d : Nat) (v2 : Int32) (v3 : Int32) (v4 : Int32) (v5 : Int32) (v6 : Int32) (s : qS) : Option qR := qE (qev en d) en none tb_X12_layOrder (40, [(0, .ref 151), (2, .int v2), (3, .int v3), (4, .int v4), (5, .int v5), (6, .int v6)], []) s
noncomputable def L_X12_layOrder_55 (en : pN) (d : Nat) (v2 : Int32) (v3 : Int32) (v4 : Int32) (v5 : Int32) (v6 : Int32) (s : qS) : Option qR := qE (qev en d) en none tb_X12_layOrder (55, [(0, .ref 151), (2, .int v2), (3, .int v3), (4, .int v4), (5, .int v5), (6, .int v6)], []) s
set_option maxRecDepth 100000 in
set_option maxHeartbeats 4000000 in
theorem le_X12_layOrder_7 (en : pN) (d : Nat) (v2 : Int32) (v3 : Int32) (v4 : Int32) (s : qS) : qle (if (s.1 151 18) ≤ v4 then some (none, s) else gd (¬ ((s.1 151 18) - v4) = 0) (nm (v2 - v2 / ((s.1 151 18) - v4) * ((s.1 151 18) - v4)) (fun z3 => gd (¬ ((s.1 151 18) - v4) = 0) (nm (v2 / ((s.1 151 18) - v4)) (fun z5 => L_X12_layOrder_40 en d z5 v3 v4 z3 (0 : Int32) s))))) (L_X12_layOrder_7 en d v2 v3 v4 s) := by
  show qle _ (qE (qev en d) en none tb_X12_layOrder (7, [(0, .ref 151), (2, .int v2), (3, .int v3), (4, .int v4)], []) s)
  refine e_L 2 (f' := (10, [(0, .ref 151), (2, .int v2), (3, .int v3), (4, .int v4)], [.ref 151, .int v4])) rfl ?_
  refine e_gI 12 18 rfl rfl lc_151 ?_
  refine e_icmp 102 rfl rfl rfl (fun c1 => ?_) (fun c1 => ?_)
  · exact e_rV rfl rfl
  · refine e_L 2 (f' := (18, [(0, .ref 151), (2, .int v2), (3, .int v3), (4, .int v4)], [.ref 151, .int v2])) rfl ?_
    refine e_gI 12 18 rfl rfl lc_151 ?_
    refine e_L 2 (f' := (24, [(0, .ref 151), (2, .int v2), (3, .int v3), (4, .int v4)], [.int ((s.1 151 18) - v4), .int v2])) rfl ?_
    refine qle_gd fun h2 => ?_
    refine e_rem rfl h2 ?_
    refine e_nI fun z3 => ?_
    refine e_L 3 (f' := (29, [(5, .int z3), (0, .ref 151), (2, .int v2), (3, .int v3), (4, .int v4)], [.ref 151, .int v2])) rfl ?_
    refine e_gI 12 18 rfl rfl lc_151 ?_
    refine e_L 2 (f' := (35, [(5, .int z3), (0, .ref 151), (2, .int v2), (3, .int v3), (4, .int v4)], [.int ((s.1 151 18) - v4), .int v2])) rfl ?_
    refine qle_gd fun h4 => ?_
    refine e_div rfl h4 ?_
    refine e_nI fun z5 => ?_
    refine e_L 3 (f' := (40, [(6, .int (0 : Int32)), (2, .int z5), (5, .int z3), (0, .ref 151), (3, .int v3), (4, .int v4)], [])) rfl ?_
    exact qE_sub (qsubL [3, 1, 4, 5, 2, 0] rfl (ks := [6, 2, 5, 0, 3, 4]) rfl (by decide))
set_option maxRecDepth 100000 in
set_option maxHeartbeats 4000000 in
theorem le_X12_layOrder_40 (en : pN) (d : Nat) (v2 : Int32) (v3 : Int32) (v4 : Int32) (v5 : Int32) (v6 : Int32) (s : qS) : qle (if ((v3 >>> (v6 &&& 31)) &&& (1 : Int32)) = (1 : Int32) then L_X12_layOrder_55 en d v2 v3 v4 v5 v6 s else if v5 ≤ (0 : Int32) then nm (v3 ||| ((1 : Int32) <<< (v6 &&& 31))) (fun z3 => gd (p_inB v4 4 = true) (nm (uI s 231 (v4.toNatClampNeg) v6) (fun s5 => L_X12_layOrder_7 en d v2 z3 (v4 + (1 : Int32)) s5))) else L_X12_layOrder_55 en d v2 v3 v4 v5 v6 s) (L_X12_layOrder_40 en d v2 v3 v4 v5 v6 s) := by
  show qle _ (qE (qev en d) en none tb_X12_layOrder (40, [(0, .ref 151), (2, .int v2), (3, .int v3), (4, .int v4), (5, .int v5), (6, .int v6)], []) s)
  refine e_L 6 (f' := (47, [(0, .ref 151), (2, .int v2), (3, .int v3), (4, .int v4), (5, .int v5), (6, .int v6)], [.int (1 : Int32), .int ((v3 >>> (v6 &&& 31)) &&& (1 : Int32))])) rfl ?_
  refine e_icmp 55 rfl rfl rfl (fun c1 => ?_) (fun c1 => ?_)
  · exact qE_sub (qsubL [0, 1, 2, 3, 4, 5] rfl (ks := [0, 2, 3, 4, 5, 6]) rfl (by decide))
  · refine e_L 1 (f' := (52, [(0, .ref 151), (2, .int v2), (3, .int v3), (4, .int v4), (5, .int v5), (6, .int v6)], [.int v5])) rfl ?_
    refine e_ifz 80 rfl rfl rfl (fun c2 => ?_) (fun c2 => ?_)
    · refine e_L 5 (f' := (86, [(0, .ref 151), (2, .int v2), (3, .int v3), (4, .int v4), (5, .int v5), (6, .int v6)], [.int (v3 ||| ((1 : Int32) <<< (v6 &&& 31)))])) rfl ?_
      refine e_nI fun z3 => ?_
      refine e_L 2 (f' := (88, [(3, .int z3), (0, .ref 151), (2, .int v2), (4, .int v4), (5, .int v5), (6, .int v6)], [.ref 151])) rfl ?_
      refine e_gR (q := 231) 12 129 rfl rfl lc_151 lr_151_129 ?_
      refine e_L 2 (f' := (95, [(3, .int z3), (0, .ref 151), (2, .int v2), (4, .int v4), (5, .int v5), (6, .int v6)], [.int v6, .int v4, .ref 231])) rfl ?_
      refine qle_gd fun h4 => ?_
      refine e_ias (n := 4) (k := v4.toNatClampNeg) rfl lc_231 ln_231 h4 rfl ?_
      refine e_nS fun s5 => ?_
      refine e_L 2 (f' := (7, [(4, .int (v4 + (1 : Int32))), (3, .int z3), (0, .ref 151), (2, .int v2), (5, .int v5), (6, .int v6)], [])) rfl ?_
      exact qE_sub (qsubL [2, 3, 1, 0] rfl (ks := [4, 3, 0, 2, 5, 6]) rfl (by decide))
    · exact qE_sub (qsubL [0, 1, 2, 3, 4, 5] rfl (ks := [0, 2, 3, 4, 5, 6]) rfl (by decide))
set_option maxRecDepth 100000 in
set_option maxHeartbeats 4000000 in
theorem le_X12_layOrder_55 (en : pN) (d : Nat) (v2 : Int32) (v3 : Int32) (v4 : Int32) (v5 : Int32) (v6 : Int32) (s : qS) : qle (if ¬ ((v3 >>> (v6 &&& 31)) &&& (1 : Int32)) = (0 : Int32) then L_X12_layOrder_40 en d v2 v3 v4 (v5 - (0 : Int32)) (v6 + (1 : Int32)) s else L_X12_layOrder_40 en d v2 v3 v4 (v5 - (1 : Int32)) (v6 + (1 : Int32)) s) (L_X12_layOrder_55 en d v2 v3 v4 v5 v6 s) := by
  show qle _ (qE (qev en d) en none tb_X12_layOrder (55, [(0, .ref 151), (2, .int v2), (3, .int v3), (4, .int v4), (5, .int v5), (6, .int v6)], []) s)
  refine e_L 6 (f' := (63, [(0, .ref 151), (2, .int v2), (3, .int v3), (4, .int v4), (5, .int v5), (6, .int v6)], [.int ((v3 >>> (v6 &&& 31)) &&& (1 : Int32)), .int v5])) rfl ?_
  refine e_ifz 70 rfl rfl rfl (fun c1 => ?_) (fun c1 => ?_)
  · refine e_L 5 (f' := (40, [(6, .int (v6 + (1 : Int32))), (5, .int (v5 - (0 : Int32))), (0, .ref 151), (2, .int v2), (3, .int v3), (4, .int v4)], [])) rfl ?_
    exact qE_sub (qsubL [2, 3, 4, 5, 1, 0] rfl (ks := [6, 5, 0, 2, 3, 4]) rfl (by decide))
  · refine e_L 6 (f' := (40, [(6, .int (v6 + (1 : Int32))), (5, .int (v5 - (1 : Int32))), (0, .ref 151), (2, .int v2), (3, .int v3), (4, .int v4)], [])) rfl ?_
    exact qE_sub (qsubL [2, 3, 4, 5, 1, 0] rfl (ks := [6, 5, 0, 2, 3, 4]) rfl (by decide))
set_option maxRecDepth 100000 in
set_option maxHeartbeats 4000000 in
theorem le_X12_layOrder (en : pN) (d : Nat) (a1 : Int32) (s : qS) : qle (L_X12_layOrder_7 en d a1 (0 : Int32) (0 : Int32) s) (qev en (d + 1) 380 [.ref 151, .int a1] s) := by
  refine e_enter ix_X12_layOrder (Nat.le_of_ble_eq_true rfl) ?_
  show qle _ (qE (qev en d) en none tb_X12_layOrder (0, [(0, .ref 151), (1, .int a1)], []) s)
  refine e_L 6 (f' := (7, [(4, .int (0 : Int32)), (3, .int (0 : Int32)), (2, .int a1), (0, .ref 151), (1, .int a1)], [])) rfl ?_
  exact qE_sub (qsubL [3, 2, 1, 0] rfl (ks := [4, 3, 2, 0, 1]) rfl (by decide))
noncomputable def L_X12_race_28 (en : pN) (d : Nat) (v1 : Int32) (v2 : Int32) (v3 : Int32) (v4 : Int32) (s : qS) : Option qR := qE (qev en d) en (some .int) tb_X12_race (28, [(0, .ref 151), (1, .int v1), (2, .int v2), (3, .int v3), (4, .int v4)], []) s
set_option maxRecDepth 100000 in
set_option maxHeartbeats 4000000 in
theorem le_X12_race_28 (en : pN) (d : Nat) (v1 : Int32) (v2 : Int32) (v3 : Int32) (v4 : Int32) (s : qS) : qle (if (10000 : Int32) ≤ v4 then if ¬ v1 = (-1 : Int32) then some (some (.int (-1 : Int32)), s) else some (some (.int v3), s) else gd (p_inB v4 10000 = true) (if (s.1 223 v4.toNatClampNeg) = (-2 : Int32) then L_X12_race_28 en d v1 v2 v3 (v4 + (1 : Int32)) s else if ¬ v3 = v1 then L_X12_race_28 en d v1 v2 (v3 + (1 : Int32)) (v4 + (1 : Int32)) s else if ¬ v2 = (0 : Int32) then if ¬ v2 = (1 : Int32) then some (some (.int (s.1 223 v4.toNatClampNeg)), s) else some (some (.int (v4 - v4 / (100 : Int32) * (100 : Int32))), s) else some (some (.int (v4 / (100 : Int32))), s))) (L_X12_race_28 en d v1 v2 v3 v4 s) := by
  show qle _ (qE (qev en d) en (some .int) tb_X12_race (28, [(0, .ref 151), (1, .int v1), (2, .int v2), (3, .int v3), (4, .int v4)], []) s)
  refine e_L 2 (f' := (33, [(0, .ref 151), (1, .int v1), (2, .int v2), (3, .int v3), (4, .int v4)], [.int (10000 : Int32), .int v4])) rfl ?_
  refine e_icmp 95 rfl rfl rfl (fun c1 => ?_) (fun c1 => ?_)
  · refine e_L 2 (f' := (97, [(0, .ref 151), (1, .int v1), (2, .int v2), (3, .int v3), (4, .int v4)], [.int (-1 : Int32), .int v1])) rfl ?_
    refine e_icmp 104 rfl rfl rfl (fun c2 => ?_) (fun c2 => ?_)
    · refine e_L 1 (f' := (105, [(0, .ref 151), (1, .int v1), (2, .int v2), (3, .int v3), (4, .int v4)], [.int (-1 : Int32)])) rfl ?_
      exact e_rI rfl rfl
    · refine e_L 2 (f' := (105, [(0, .ref 151), (1, .int v1), (2, .int v2), (3, .int v3), (4, .int v4)], [.int v3])) rfl ?_
      exact e_rI rfl rfl
  · refine e_L 1 (f' := (37, [(0, .ref 151), (1, .int v1), (2, .int v2), (3, .int v3), (4, .int v4)], [.ref 151])) rfl ?_
    refine e_gR (q := 223) 12 118 rfl rfl lc_151 lr_151_118 ?_
    refine e_L 1 (f' := (42, [(0, .ref 151), (1, .int v1), (2, .int v2), (3, .int v3), (4, .int v4)], [.int v4, .ref 223])) rfl ?_
    refine qle_gd fun h3 => ?_
    refine e_ial (n := 10000) (k := v4.toNatClampNeg) rfl lc_223 ln_223 h3 rfl ?_
    refine e_L 1 (f' := (45, [(0, .ref 151), (1, .int v1), (2, .int v2), (3, .int v3), (4, .int v4)], [.int (-2 : Int32), .int (s.1 223 v4.toNatClampNeg)])) rfl ?_
    refine e_icmp 89 rfl rfl rfl (fun c4 => ?_) (fun c4 => ?_)
    · refine e_L 2 (f' := (28, [(4, .int (v4 + (1 : Int32))), (0, .ref 151), (1, .int v1), (2, .int v2), (3, .int v3)], [])) rfl ?_
      exact qE_sub (qsubL [1, 2, 3, 4, 0] rfl (ks := [4, 0, 1, 2, 3]) rfl (by decide))
    · refine e_L 2 (f' := (50, [(0, .ref 151), (1, .int v1), (2, .int v2), (3, .int v3), (4, .int v4)], [.int v1, .int v3])) rfl ?_
      refine e_icmp 86 rfl rfl rfl (fun c5 => ?_) (fun c5 => ?_)
      · refine e_L 3 (f' := (28, [(4, .int (v4 + (1 : Int32))), (3, .int (v3 + (1 : Int32))), (0, .ref 151), (1, .int v1), (2, .int v2)], [])) rfl ?_
        exact qE_sub (qsubL [2, 3, 4, 1, 0] rfl (ks := [4, 3, 0, 1, 2]) rfl (by decide))
      · refine e_L 1 (f' := (54, [(0, .ref 151), (1, .int v1), (2, .int v2), (3, .int v3), (4, .int v4)], [.int v2])) rfl ?_
        refine e_ifz 65 rfl rfl rfl (fun c6 => ?_) (fun c6 => ?_)
        · refine e_L 2 (f' := (67, [(0, .ref 151), (1, .int v1), (2, .int v2), (3, .int v3), (4, .int v4)], [.int (1 : Int32), .int v2])) rfl ?_
          refine e_icmp 78 rfl rfl rfl (fun c7 => ?_) (fun c7 => ?_)
          · refine e_L 1 (f' := (79, [(0, .ref 151), (1, .int v1), (2, .int v2), (3, .int v3), (4, .int v4)], [.ref 151])) rfl ?_
            refine e_gR (q := 223) 12 118 rfl rfl lc_151 lr_151_118 ?_
            refine e_L 1 (f' := (84, [(0, .ref 151), (1, .int v1), (2, .int v2), (3, .int v3), (4, .int v4)], [.int v4, .ref 223])) rfl ?_
            refine e_ial (n := 10000) (k := v4.toNatClampNeg) rfl lc_223 ln_223 h3 rfl ?_
            exact e_rI rfl rfl
          · refine e_L 2 (f' := (74, [(0, .ref 151), (1, .int v1), (2, .int v2), (3, .int v3), (4, .int v4)], [.int (100 : Int32), .int v4])) rfl ?_
            refine e_rem rfl (by decide) ?_
            refine e_L 1 (f' := (85, [(0, .ref 151), (1, .int v1), (2, .int v2), (3, .int v3), (4, .int v4)], [.int (v4 - v4 / (100 : Int32) * (100 : Int32))])) rfl ?_
            exact e_rI rfl rfl
        · refine e_L 2 (f' := (61, [(0, .ref 151), (1, .int v1), (2, .int v2), (3, .int v3), (4, .int v4)], [.int (100 : Int32), .int v4])) rfl ?_
          refine e_div rfl (by decide) ?_
          refine e_L 1 (f' := (85, [(0, .ref 151), (1, .int v1), (2, .int v2), (3, .int v3), (4, .int v4)], [.int (v4 / (100 : Int32))])) rfl ?_
          exact e_rI rfl rfl
set_option maxRecDepth 100000 in
set_option maxHeartbeats 4000000 in
theorem le_X12_race (en : pN) (d : Nat) (a1 : Int32) (a2 : Int32) (s : qS) : qle (if (s.1 151 98) = (0 : Int32) then some (some (.int (-1 : Int32)), s) else if a1 < (-1 : Int32) then some (some (.int (-1 : Int32)), s) else if a2 < (0 : Int32) then some (some (.int (-1 : Int32)), s) else if a2 ≤ (2 : Int32) then L_X12_race_28 en d a1 a2 (0 : Int32) (0 : Int32) s else some (some (.int (-1 : Int32)), s)) (qev en (d + 1) 381 [.ref 151, .int a1, .int a2] s) := by
  refine e_enter ix_X12_race (Nat.le_of_ble_eq_true rfl) ?_
  show qle _ (qE (qev en d) en (some .int) tb_X12_race (0, [(0, .ref 151), (1, .int a1), (2, .int a2)], []) s)
  refine e_L 1 (f' := (1, [(0, .ref 151), (1, .int a1), (2, .int a2)], [.ref 151])) rfl ?_
  refine e_gI 12 98 rfl rfl lc_151 ?_
  refine e_ifz 21 rfl rfl rfl (fun c1 => ?_) (fun c1 => ?_)
  · refine e_L 1 (f' := (22, [(0, .ref 151), (1, .int a1), (2, .int a2)], [.int (-1 : Int32)])) rfl ?_
    exact e_rI rfl rfl
  · refine e_L 2 (f' := (9, [(0, .ref 151), (1, .int a1), (2, .int a2)], [.int (-1 : Int32), .int a1])) rfl ?_
    refine e_icmp 21 rfl rfl rfl (fun c2 => ?_) (fun c2 => ?_)
    · refine e_L 1 (f' := (22, [(0, .ref 151), (1, .int a1), (2, .int a2)], [.int (-1 : Int32)])) rfl ?_
      exact e_rI rfl rfl
    · refine e_L 1 (f' := (13, [(0, .ref 151), (1, .int a1), (2, .int a2)], [.int a2])) rfl ?_
      refine e_ifz 21 rfl rfl rfl (fun c3 => ?_) (fun c3 => ?_)
      · refine e_L 1 (f' := (22, [(0, .ref 151), (1, .int a1), (2, .int a2)], [.int (-1 : Int32)])) rfl ?_
        exact e_rI rfl rfl
      · refine e_L 2 (f' := (18, [(0, .ref 151), (1, .int a1), (2, .int a2)], [.int (2 : Int32), .int a2])) rfl ?_
        refine e_icmp 23 rfl rfl rfl (fun c4 => ?_) (fun c4 => ?_)
        · refine e_L 4 (f' := (28, [(4, .int (0 : Int32)), (3, .int (0 : Int32)), (0, .ref 151), (1, .int a1), (2, .int a2)], [])) rfl ?_
          exact qE_sub (qsubL [2, 3, 4, 1, 0] rfl (ks := [4, 3, 0, 1, 2]) rfl (by decide))
        · refine e_L 1 (f' := (22, [(0, .ref 151), (1, .int a1), (2, .int a2)], [.int (-1 : Int32)])) rfl ?_
          exact e_rI rfl rfl
set_option maxRecDepth 100000 in
set_option maxHeartbeats 4000000 in
theorem le_X12_guard (en : pN) (d : Nat) (a1 : Int32) (s : qS) : qle (if (s.1 151 98) = (0 : Int32) then some (some (.int (-1 : Int32)), s) else if a1 < (0 : Int32) then some (some (.int (-1 : Int32)), s) else if a1 < (s.1 151 12) then gd (p_inB a1 8 = true) (some (some (.int (s.1 224 a1.toNatClampNeg)), s)) else some (some (.int (-1 : Int32)), s)) (qev en (d + 1) 382 [.ref 151, .int a1] s) := by
  refine e_enter ix_X12_guard (Nat.le_of_ble_eq_true rfl) ?_
  show qle _ (qE (qev en d) en (some .int) tb_X12_guard (0, [(0, .ref 151), (1, .int a1)], []) s)
  refine e_L 1 (f' := (1, [(0, .ref 151), (1, .int a1)], [.ref 151])) rfl ?_
  refine e_gI 12 98 rfl rfl lc_151 ?_
  refine e_ifz 19 rfl rfl rfl (fun c1 => ?_) (fun c1 => ?_)
  · refine e_L 2 (f' := (29, [(0, .ref 151), (1, .int a1)], [.int (-1 : Int32)])) rfl ?_
    exact e_rI rfl rfl
  · refine e_L 1 (f' := (8, [(0, .ref 151), (1, .int a1)], [.int a1])) rfl ?_
    refine e_ifz 19 rfl rfl rfl (fun c2 => ?_) (fun c2 => ?_)
    · refine e_L 2 (f' := (29, [(0, .ref 151), (1, .int a1)], [.int (-1 : Int32)])) rfl ?_
      exact e_rI rfl rfl
    · refine e_L 2 (f' := (13, [(0, .ref 151), (1, .int a1)], [.ref 151, .int a1])) rfl ?_
      refine e_gI 12 12 rfl rfl lc_151 ?_
      refine e_icmp 23 rfl rfl rfl (fun c3 => ?_) (fun c3 => ?_)
      · refine e_L 1 (f' := (24, [(0, .ref 151), (1, .int a1)], [.ref 151])) rfl ?_
        refine e_gR (q := 224) 12 119 rfl rfl lc_151 lr_151_119 ?_
        refine e_L 1 (f' := (28, [(0, .ref 151), (1, .int a1)], [.int a1, .ref 224])) rfl ?_
        refine qle_gd fun h4 => ?_
        refine e_ial (n := 8) (k := a1.toNatClampNeg) rfl lc_224 ln_224 h4 rfl ?_
        exact e_rI rfl rfl
      · refine e_L 2 (f' := (29, [(0, .ref 151), (1, .int a1)], [.int (-1 : Int32)])) rfl ?_
        exact e_rI rfl rfl
set_option maxRecDepth 100000 in
set_option maxHeartbeats 4000000 in
theorem le_X12_takeState (en : pN) (d : Nat) (a1 : Int32) (s : qS) : qle (nm (uI s 151 59 (2 : Int32)) (fun s1 => nm (uI s1 151 58 (s1.1 151 99)) (fun s2 => bI (qev en d 299 [.int (s2.1 151 58)] s2) (fun w3 s4 => nm (uI s4 151 60 w3) (fun s6 => bV (qev en d 357 [.ref 151, .int a1] s6) (fun s8 => some (none, s8))))))) (qev en (d + 1) 383 [.ref 151, .int a1] s) := by
  refine e_enter ix_X12_takeState (Nat.le_of_ble_eq_true rfl) ?_
  show qle _ (qE (qev en d) en none tb_X12_takeState (0, [(0, .ref 151), (1, .int a1)], []) s)
  refine e_L 2 (f' := (2, [(0, .ref 151), (1, .int a1)], [.int (2 : Int32), .ref 151])) rfl ?_
  refine e_pI 12 59 rfl rfl lc_151 rfl ?_
  refine e_nS fun s1 => ?_
  refine e_L 2 (f' := (7, [(0, .ref 151), (1, .int a1)], [.ref 151, .ref 151])) rfl ?_
  refine e_gI 12 99 rfl rfl lc_151 ?_
  refine e_pI 12 58 rfl rfl lc_151 rfl ?_
  refine e_nS fun s2 => ?_
  refine e_L 2 (f' := (15, [(0, .ref 151), (1, .int a1)], [.ref 151, .ref 151])) rfl ?_
  refine e_gI 12 58 rfl rfl lc_151 ?_
  refine e_sI 299 rfl rfl rfl ix_X12_widthOf rfl (Nat.le_of_ble_eq_true rfl) (fun w3 s4 e5 => ?_)
  refine e_pI 12 60 rfl rfl lc_151 rfl ?_
  refine e_nS fun s6 => ?_
  refine e_L 2 (f' := (26, [(0, .ref 151), (1, .int a1)], [.int a1, .ref 151])) rfl ?_
  refine e_vV 357 rfl rfl ix_X12_loadState rfl (q_recvOf lc_151 rfl) (Nat.le_of_ble_eq_true rfl) (fun s8 e9 => ?_)
  exact e_rV rfl rfl
noncomputable def L_X12_blockedBy_43 (en : pN) (d : Nat) (v1 : Int32) (vs0 : Int32) (s : qS) : Option qR := qE (qev en d) en (some .int) tb_X12_blockedBy (43, [(0, .ref 151), (1, .int v1)], [.int vs0]) s
noncomputable def L_X12_blockedBy_73 (en : pN) (d : Nat) (v1 : Int32) (vs0 : Int32) (s : qS) : Option qR := qE (qev en d) en (some .int) tb_X12_blockedBy (73, [(1, .int v1)], [.int vs0]) s
set_option maxRecDepth 100000 in
set_option maxHeartbeats 4000000 in
theorem le_X12_blockedBy_43 (en : pN) (d : Nat) (v1 : Int32) (vs0 : Int32) (s : qS) : qle (if vs0 = (0 : Int32) then L_X12_blockedBy_73 en d v1 (-2 : Int32) s else bI (qev en d 303 [.ref 151, .int v1] s) (fun w2 s3 => gd (p_inB w2 400 = true) (gd (p_inB ((36 : Int32) + (s3.1 166 w2.toNatClampNeg)) 216 = true) (L_X12_blockedBy_73 en d v1 ((s3.1 187 ((36 : Int32) + (s3.1 166 w2.toNatClampNeg)).toNatClampNeg) - (1 : Int32)) s3)))) (L_X12_blockedBy_43 en d v1 vs0 s) := by
  show qle _ (qE (qev en d) en (some .int) tb_X12_blockedBy (43, [(0, .ref 151), (1, .int v1)], [.int vs0]) s)
  refine e_L 2 (f' := (45, [(2, .int vs0), (0, .ref 151), (1, .int v1)], [.int vs0])) rfl ?_
  refine e_ifz 71 rfl rfl rfl (fun c1 => ?_) (fun c1 => ?_)
  · refine e_L 1 (f' := (73, [(2, .int vs0), (0, .ref 151), (1, .int v1)], [.int (-2 : Int32)])) rfl ?_
    exact qE_sub (qsubL [2] rfl (ks := [2, 0, 1]) rfl (by decide))
  · refine e_L 1 (f' := (49, [(2, .int vs0), (0, .ref 151), (1, .int v1)], [.ref 151])) rfl ?_
    refine e_gR (q := 187) 12 57 rfl rfl lc_151 lr_151_57 ?_
    refine e_L 2 (f' := (55, [(2, .int vs0), (0, .ref 151), (1, .int v1)], [.ref 151, .int (36 : Int32), .ref 187])) rfl ?_
    refine e_gR (q := 166) 12 35 rfl rfl lc_151 lr_151_35 ?_
    refine e_L 2 (f' := (60, [(2, .int vs0), (0, .ref 151), (1, .int v1)], [.int v1, .ref 151, .ref 166, .int (36 : Int32), .ref 187])) rfl ?_
    refine e_vI 303 rfl rfl ix_X12_lineOf rfl (q_recvOf lc_151 rfl) (Nat.le_of_ble_eq_true rfl) (fun w2 s3 e4 => ?_)
    refine qle_gd fun h5 => ?_
    refine e_ial (n := 400) (k := w2.toNatClampNeg) rfl lc_166 ln_166 h5 rfl ?_
    refine e_L 1 (f' := (65, [(2, .int vs0), (0, .ref 151), (1, .int v1)], [.int ((36 : Int32) + (s3.1 166 w2.toNatClampNeg)), .ref 187])) rfl ?_
    refine qle_gd fun h6 => ?_
    refine e_ial (n := 216) (k := ((36 : Int32) + (s3.1 166 w2.toNatClampNeg)).toNatClampNeg) rfl lc_187 ln_187 h6 rfl ?_
    refine e_L 3 (f' := (73, [(2, .int vs0), (0, .ref 151), (1, .int v1)], [.int ((s3.1 187 ((36 : Int32) + (s3.1 166 w2.toNatClampNeg)).toNatClampNeg) - (1 : Int32))])) rfl ?_
    exact qE_sub (qsubL [2] rfl (ks := [2, 0, 1]) rfl (by decide))
set_option maxRecDepth 100000 in
set_option maxHeartbeats 4000000 in
theorem le_X12_blockedBy_73 (en : pN) (d : Nat) (v1 : Int32) (vs0 : Int32) (s : qS) : qle (if vs0 < (0 : Int32) then some (some (.int (-2 : Int32)), s) else if ¬ vs0 = v1 then some (some (.int vs0), s) else some (some (.int (-2 : Int32)), s)) (L_X12_blockedBy_73 en d v1 vs0 s) := by
  show qle _ (qE (qev en d) en (some .int) tb_X12_blockedBy (73, [(1, .int v1)], [.int vs0]) s)
  refine e_L 2 (f' := (75, [(3, .int vs0), (1, .int v1)], [.int vs0])) rfl ?_
  refine e_ifz 83 rfl rfl rfl (fun c1 => ?_) (fun c1 => ?_)
  · refine e_L 2 (f' := (89, [(3, .int vs0), (1, .int v1)], [.int (-2 : Int32)])) rfl ?_
    exact e_rI rfl rfl
  · refine e_L 2 (f' := (80, [(3, .int vs0), (1, .int v1)], [.int v1, .int vs0])) rfl ?_
    refine e_icmp 88 rfl rfl rfl (fun c2 => ?_) (fun c2 => ?_)
    · refine e_L 1 (f' := (89, [(3, .int vs0), (1, .int v1)], [.int vs0])) rfl ?_
      exact e_rI rfl rfl
    · refine e_L 2 (f' := (89, [(3, .int vs0), (1, .int v1)], [.int (-2 : Int32)])) rfl ?_
      exact e_rI rfl rfl
set_option maxRecDepth 100000 in
set_option maxHeartbeats 4000000 in
theorem le_X12_blockedBy (en : pN) (d : Nat) (a1 : Int32) (s : qS) : qle (gd (p_inB ((0 : Int32) + a1) 216 = true) (if (s.1 187 ((0 : Int32) + a1).toNatClampNeg) = (3 : Int32) then L_X12_blockedBy_43 en d a1 (1 : Int32) s else if ¬ (s.1 187 ((0 : Int32) + a1).toNatClampNeg) = (1 : Int32) then L_X12_blockedBy_43 en d a1 (0 : Int32) s else bI (qev en d 303 [.ref 151, .int a1] s) (fun w4 s5 => gd (p_inB w4 400 = true) (if ¬ (s5.1 164 w4.toNatClampNeg) = (5 : Int32) then L_X12_blockedBy_43 en d a1 (0 : Int32) s5 else L_X12_blockedBy_43 en d a1 (1 : Int32) s5)))) (qev en (d + 1) 384 [.ref 151, .int a1] s) := by
  refine e_enter ix_X12_blockedBy (Nat.le_of_ble_eq_true rfl) ?_
  show qle _ (qE (qev en d) en (some .int) tb_X12_blockedBy (0, [(0, .ref 151), (1, .int a1)], []) s)
  refine e_L 1 (f' := (1, [(0, .ref 151), (1, .int a1)], [.ref 151])) rfl ?_
  refine e_gR (q := 187) 12 57 rfl rfl lc_151 lr_151_57 ?_
  refine e_L 3 (f' := (7, [(0, .ref 151), (1, .int a1)], [.int ((0 : Int32) + a1), .ref 187])) rfl ?_
  refine qle_gd fun h1 => ?_
  refine e_ial (n := 216) (k := ((0 : Int32) + a1).toNatClampNeg) rfl lc_187 ln_187 h1 rfl ?_
  refine e_L 1 (f' := (9, [(0, .ref 151), (1, .int a1)], [.int (3 : Int32), .int (s.1 187 ((0 : Int32) + a1).toNatClampNeg)])) rfl ?_
  refine e_icmp 38 rfl rfl rfl (fun c2 => ?_) (fun c2 => ?_)
  · refine e_L 2 (f' := (43, [(0, .ref 151), (1, .int a1)], [.int (1 : Int32)])) rfl ?_
    exact qE_sub (qsubL [0, 1] rfl (ks := [0, 1]) rfl (by decide))
  · refine e_L 1 (f' := (13, [(0, .ref 151), (1, .int a1)], [.ref 151])) rfl ?_
    refine e_gR (q := 187) 12 57 rfl rfl lc_151 lr_151_57 ?_
    refine e_L 3 (f' := (19, [(0, .ref 151), (1, .int a1)], [.int ((0 : Int32) + a1), .ref 187])) rfl ?_
    refine e_ial (n := 216) (k := ((0 : Int32) + a1).toNatClampNeg) rfl lc_187 ln_187 h1 rfl ?_
    refine e_L 1 (f' := (21, [(0, .ref 151), (1, .int a1)], [.int (1 : Int32), .int (s.1 187 ((0 : Int32) + a1).toNatClampNeg)])) rfl ?_
    refine e_icmp 42 rfl rfl rfl (fun c3 => ?_) (fun c3 => ?_)
    · refine e_L 1 (f' := (43, [(0, .ref 151), (1, .int a1)], [.int (0 : Int32)])) rfl ?_
      exact qE_sub (qsubL [0, 1] rfl (ks := [0, 1]) rfl (by decide))
    · refine e_L 1 (f' := (25, [(0, .ref 151), (1, .int a1)], [.ref 151])) rfl ?_
      refine e_gR (q := 164) 12 33 rfl rfl lc_151 lr_151_33 ?_
      refine e_L 2 (f' := (30, [(0, .ref 151), (1, .int a1)], [.int a1, .ref 151, .ref 164])) rfl ?_
      refine e_vI 303 rfl rfl ix_X12_lineOf rfl (q_recvOf lc_151 rfl) (Nat.le_of_ble_eq_true rfl) (fun w4 s5 e6 => ?_)
      refine qle_gd fun h7 => ?_
      refine e_ial (n := 400) (k := w4.toNatClampNeg) rfl lc_164 ln_164 h7 rfl ?_
      refine e_L 1 (f' := (35, [(0, .ref 151), (1, .int a1)], [.int (5 : Int32), .int (s5.1 164 w4.toNatClampNeg)])) rfl ?_
      refine e_icmp 42 rfl rfl rfl (fun c8 => ?_) (fun c8 => ?_)
      · refine e_L 1 (f' := (43, [(0, .ref 151), (1, .int a1)], [.int (0 : Int32)])) rfl ?_
        exact qE_sub (qsubL [0, 1] rfl (ks := [0, 1]) rfl (by decide))
      · refine e_L 2 (f' := (43, [(0, .ref 151), (1, .int a1)], [.int (1 : Int32)])) rfl ?_
        exact qE_sub (qsubL [0, 1] rfl (ks := [0, 1]) rfl (by decide))
noncomputable def L_X12_leastInRing_2 (en : pN) (d : Nat) (v1 : Int32) (s : qS) : Option qR := qE (qev en d) en (some .int) tb_X12_leastInRing (2, [(0, .ref 151), (1, .int v1)], []) s
noncomputable def L_X12_leastInRing_18 (en : pN) (d : Nat) (v1 : Int32) (v2 : Int32) (v3 : Int32) (s : qS) : Option qR := qE (qev en d) en (some .int) tb_X12_leastInRing (18, [(0, .ref 151), (1, .int v1), (2, .int v2), (3, .int v3)], []) s
noncomputable def L_X12_leastInRing_46 (en : pN) (d : Nat) (v1 : Int32) (v2 : Int32) (s : qS) : Option qR := qE (qev en d) en (some .int) tb_X12_leastInRing (46, [(0, .ref 151), (1, .int v1), (2, .int v2)], []) s
set_option maxRecDepth 100000 in
set_option maxHeartbeats 4000000 in
theorem le_X12_leastInRing_2 (en : pN) (d : Nat) (v1 : Int32) (s : qS) : qle (if (s.1 151 18) ≤ v1 then some (some (.int (-2 : Int32)), s) else bI (qev en d 384 [.ref 151, .int v1] s) (fun w2 s3 => L_X12_leastInRing_18 en d v1 w2 (0 : Int32) s3)) (L_X12_leastInRing_2 en d v1 s) := by
  show qle _ (qE (qev en d) en (some .int) tb_X12_leastInRing (2, [(0, .ref 151), (1, .int v1)], []) s)
  refine e_L 2 (f' := (4, [(0, .ref 151), (1, .int v1)], [.ref 151, .int v1])) rfl ?_
  refine e_gI 12 18 rfl rfl lc_151 ?_
  refine e_icmp 59 rfl rfl rfl (fun c1 => ?_) (fun c1 => ?_)
  · refine e_L 1 (f' := (61, [(0, .ref 151), (1, .int v1)], [.int (-2 : Int32)])) rfl ?_
    exact e_rI rfl rfl
  · refine e_L 2 (f' := (12, [(0, .ref 151), (1, .int v1)], [.int v1, .ref 151])) rfl ?_
    refine e_vI 384 rfl rfl ix_X12_blockedBy rfl (q_recvOf lc_151 rfl) (Nat.le_of_ble_eq_true rfl) (fun w2 s3 e4 => ?_)
    refine e_L 3 (f' := (18, [(3, .int (0 : Int32)), (2, .int w2), (0, .ref 151), (1, .int v1)], [])) rfl ?_
    exact qE_sub (qsubL [2, 3, 1, 0] rfl (ks := [3, 2, 0, 1]) rfl (by decide))
set_option maxRecDepth 100000 in
set_option maxHeartbeats 4000000 in
theorem le_X12_leastInRing_18 (en : pN) (d : Nat) (v1 : Int32) (v2 : Int32) (v3 : Int32) (s : qS) : qle (if (4 : Int32) ≤ v3 then L_X12_leastInRing_46 en d v1 v2 s else if v2 = (-2 : Int32) then L_X12_leastInRing_46 en d v1 v2 s else if v2 = v1 then L_X12_leastInRing_46 en d v1 v2 s else bI (qev en d 384 [.ref 151, .int v2] s) (fun w4 s5 => L_X12_leastInRing_18 en d v1 w4 (v3 + (1 : Int32)) s5)) (L_X12_leastInRing_18 en d v1 v2 v3 s) := by
  show qle _ (qE (qev en d) en (some .int) tb_X12_leastInRing (18, [(0, .ref 151), (1, .int v1), (2, .int v2), (3, .int v3)], []) s)
  refine e_L 2 (f' := (20, [(0, .ref 151), (1, .int v1), (2, .int v2), (3, .int v3)], [.int (4 : Int32), .int v3])) rfl ?_
  refine e_icmp 46 rfl rfl rfl (fun c1 => ?_) (fun c1 => ?_)
  · exact qE_sub (qsubL [0, 1, 2] rfl (ks := [0, 1, 2, 3]) rfl (by decide))
  · refine e_L 2 (f' := (26, [(0, .ref 151), (1, .int v1), (2, .int v2), (3, .int v3)], [.int (-2 : Int32), .int v2])) rfl ?_
    refine e_icmp 46 rfl rfl rfl (fun c2 => ?_) (fun c2 => ?_)
    · exact qE_sub (qsubL [0, 1, 2] rfl (ks := [0, 1, 2, 3]) rfl (by decide))
    · refine e_L 2 (f' := (31, [(0, .ref 151), (1, .int v1), (2, .int v2), (3, .int v3)], [.int v1, .int v2])) rfl ?_
      refine e_icmp 46 rfl rfl rfl (fun c3 => ?_) (fun c3 => ?_)
      · exact qE_sub (qsubL [0, 1, 2] rfl (ks := [0, 1, 2, 3]) rfl (by decide))
      · refine e_L 2 (f' := (36, [(0, .ref 151), (1, .int v1), (2, .int v2), (3, .int v3)], [.int v2, .ref 151])) rfl ?_
        refine e_vI 384 rfl rfl ix_X12_blockedBy rfl (q_recvOf lc_151 rfl) (Nat.le_of_ble_eq_true rfl) (fun w4 s5 e6 => ?_)
        refine e_L 3 (f' := (18, [(3, .int (v3 + (1 : Int32))), (2, .int w4), (0, .ref 151), (1, .int v1)], [])) rfl ?_
        exact qE_sub (qsubL [2, 3, 1, 0] rfl (ks := [3, 2, 0, 1]) rfl (by decide))
set_option maxRecDepth 100000 in
set_option maxHeartbeats 4000000 in
theorem le_X12_leastInRing_46 (en : pN) (d : Nat) (v1 : Int32) (v2 : Int32) (s : qS) : qle (if ¬ v2 = v1 then L_X12_leastInRing_2 en d (v1 + (1 : Int32)) s else some (some (.int v1), s)) (L_X12_leastInRing_46 en d v1 v2 s) := by
  show qle _ (qE (qev en d) en (some .int) tb_X12_leastInRing (46, [(0, .ref 151), (1, .int v1), (2, .int v2)], []) s)
  refine e_L 2 (f' := (48, [(0, .ref 151), (1, .int v1), (2, .int v2)], [.int v1, .int v2])) rfl ?_
  refine e_icmp 53 rfl rfl rfl (fun c1 => ?_) (fun c1 => ?_)
  · refine e_L 2 (f' := (2, [(1, .int (v1 + (1 : Int32))), (0, .ref 151), (2, .int v2)], [])) rfl ?_
    exact qE_sub (qsubL [1, 0] rfl (ks := [1, 0, 2]) rfl (by decide))
  · refine e_L 1 (f' := (52, [(0, .ref 151), (1, .int v1), (2, .int v2)], [.int v1])) rfl ?_
    exact e_rI rfl rfl
set_option maxRecDepth 100000 in
set_option maxHeartbeats 4000000 in
theorem le_X12_leastInRing (en : pN) (d : Nat) (s : qS) : qle (L_X12_leastInRing_2 en d (0 : Int32) s) (qev en (d + 1) 385 [.ref 151] s) := by
  refine e_enter ix_X12_leastInRing (Nat.le_of_ble_eq_true rfl) ?_
  show qle _ (qE (qev en d) en (some .int) tb_X12_leastInRing (0, [(0, .ref 151)], []) s)
  refine e_L 2 (f' := (2, [(1, .int (0 : Int32)), (0, .ref 151)], [])) rfl ?_
  exact qE_sub (qsubL [1, 0] rfl (ks := [1, 0]) rfl (by decide))
noncomputable def L_X12_isLostEnd_4 (en : pN) (d : Nat) (v1 : Int32) (v2 : Int32) (s : qS) : Option qR := qE (qev en d) en (some .boolean) tb_X12_isLostEnd (4, [(0, .ref 151), (1, .int v1), (2, .int v2)], []) s
set_option maxRecDepth 100000 in
set_option maxHeartbeats 4000000 in
theorem le_X12_isLostEnd_4 (en : pN) (d : Nat) (v1 : Int32) (v2 : Int32) (s : qS) : qle (if (s.1 151 18) ≤ v2 then gd (v1 = 0 ∨ v1 = 1) (some (some (.int v1), s)) else if ¬ v1 = (0 : Int32) then L_X12_isLostEnd_4 en d (1 : Int32) (v2 + (1 : Int32)) s else gd (p_inB ((0 : Int32) + v2) 216 = true) (if ¬ (s.1 187 ((0 : Int32) + v2).toNatClampNeg) = (2 : Int32) then L_X12_isLostEnd_4 en d (0 : Int32) (v2 + (1 : Int32)) s else L_X12_isLostEnd_4 en d (1 : Int32) (v2 + (1 : Int32)) s)) (L_X12_isLostEnd_4 en d v1 v2 s) := by
  show qle _ (qE (qev en d) en (some .boolean) tb_X12_isLostEnd (4, [(0, .ref 151), (1, .int v1), (2, .int v2)], []) s)
  refine e_L 2 (f' := (6, [(0, .ref 151), (1, .int v1), (2, .int v2)], [.ref 151, .int v2])) rfl ?_
  refine e_gI 12 18 rfl rfl lc_151 ?_
  refine e_icmp 40 rfl rfl rfl (fun c1 => ?_) (fun c1 => ?_)
  · refine e_L 1 (f' := (41, [(0, .ref 151), (1, .int v1), (2, .int v2)], [.int v1])) rfl ?_
    exact qle_gd fun h2 => e_rZ rfl rfl h2
  · refine e_L 1 (f' := (13, [(0, .ref 151), (1, .int v1), (2, .int v2)], [.int v1])) rfl ?_
    refine e_ifz 28 rfl rfl rfl (fun c3 => ?_) (fun c3 => ?_)
    · refine e_L 5 (f' := (4, [(2, .int (v2 + (1 : Int32))), (1, .int (1 : Int32)), (0, .ref 151)], [])) rfl ?_
      exact qE_sub (qsubL [2, 1, 0] rfl (ks := [2, 1, 0]) rfl (by decide))
    · refine e_L 1 (f' := (17, [(0, .ref 151), (1, .int v1), (2, .int v2)], [.ref 151])) rfl ?_
      refine e_gR (q := 187) 12 57 rfl rfl lc_151 lr_151_57 ?_
      refine e_L 3 (f' := (23, [(0, .ref 151), (1, .int v1), (2, .int v2)], [.int ((0 : Int32) + v2), .ref 187])) rfl ?_
      refine qle_gd fun h4 => ?_
      refine e_ial (n := 216) (k := ((0 : Int32) + v2).toNatClampNeg) rfl lc_187 ln_187 h4 rfl ?_
      refine e_L 1 (f' := (25, [(0, .ref 151), (1, .int v1), (2, .int v2)], [.int (2 : Int32), .int (s.1 187 ((0 : Int32) + v2).toNatClampNeg)])) rfl ?_
      refine e_icmp 32 rfl rfl rfl (fun c5 => ?_) (fun c5 => ?_)
      · refine e_L 4 (f' := (4, [(2, .int (v2 + (1 : Int32))), (1, .int (0 : Int32)), (0, .ref 151)], [])) rfl ?_
        exact qE_sub (qsubL [2, 1, 0] rfl (ks := [2, 1, 0]) rfl (by decide))
      · refine e_L 5 (f' := (4, [(2, .int (v2 + (1 : Int32))), (1, .int (1 : Int32)), (0, .ref 151)], [])) rfl ?_
        exact qE_sub (qsubL [2, 1, 0] rfl (ks := [2, 1, 0]) rfl (by decide))
set_option maxRecDepth 100000 in
set_option maxHeartbeats 4000000 in
theorem le_X12_isLostEnd (en : pN) (d : Nat) (s : qS) : qle (L_X12_isLostEnd_4 en d (0 : Int32) (0 : Int32) s) (qev en (d + 1) 386 [.ref 151] s) := by
  refine e_enter ix_X12_isLostEnd (Nat.le_of_ble_eq_true rfl) ?_
  show qle _ (qE (qev en d) en (some .boolean) tb_X12_isLostEnd (0, [(0, .ref 151)], []) s)
  refine e_L 4 (f' := (4, [(2, .int (0 : Int32)), (1, .int (0 : Int32)), (0, .ref 151)], [])) rfl ?_
  exact qE_sub (qsubL [2, 1, 0] rfl (ks := [2, 1, 0]) rfl (by decide))
noncomputable def L_X12_areCrossed_7 (en : pN) (d : Nat) (v1 : Int32) (v2 : Int32) (s : qS) : Option qR := qE (qev en d) en (some .boolean) tb_X12_areCrossed (7, [(1, .int v1), (2, .int v2)], []) s
noncomputable def L_X12_areCrossed_14 (en : pN) (d : Nat) (v1 : Int32) (v2 : Int32) (v3 : Int32) (s : qS) : Option qR := qE (qev en d) en (some .boolean) tb_X12_areCrossed (14, [(1, .int v1), (2, .int v2), (3, .int v3)], []) s
noncomputable def L_X12_areCrossed_22 (en : pN) (d : Nat) (v1 : Int32) (v2 : Int32) (v3 : Int32) (v4 : Int32) (s : qS) : Option qR := qE (qev en d) en (some .boolean) tb_X12_areCrossed (22, [(1, .int v1), (2, .int v2), (3, .int v3), (4, .int v4)], []) s
noncomputable def L_X12_areCrossed_60 (en : pN) (d : Nat) (v1 : Int32) (v2 : Int32) (v3 : Int32) (v4 : Int32) (vs0 : Int32) (s : qS) : Option qR := qE (qev en d) en (some .boolean) tb_X12_areCrossed (60, [(1, .int v1), (2, .int v2), (3, .int v3), (4, .int v4)], [.int vs0]) s
set_option maxRecDepth 100000 in
set_option maxHeartbeats 4000000 in
theorem le_X12_areCrossed_7 (en : pN) (d : Nat) (v1 : Int32) (v2 : Int32) (s : qS) : qle (if (4 : Int32) ≤ v2 then if (v1 &&& (1 : Int32)) = (1 : Int32) then some (some (.int (1 : Int32)), s) else if ((v1 >>> ((5 : Int32) &&& 31)) &&& (1 : Int32)) = (1 : Int32) then some (some (.int (1 : Int32)), s) else if ((v1 >>> ((10 : Int32) &&& 31)) &&& (1 : Int32)) = (1 : Int32) then some (some (.int (1 : Int32)), s) else if ¬ ((v1 >>> ((15 : Int32) &&& 31)) &&& (1 : Int32)) = (1 : Int32) then some (some (.int (0 : Int32)), s) else some (some (.int (1 : Int32)), s) else L_X12_areCrossed_14 en d v1 v2 (0 : Int32) s) (L_X12_areCrossed_7 en d v1 v2 s) := by
  show qle _ (qE (qev en d) en (some .boolean) tb_X12_areCrossed (7, [(1, .int v1), (2, .int v2)], []) s)
  refine e_L 2 (f' := (9, [(1, .int v1), (2, .int v2)], [.int (4 : Int32), .int v2])) rfl ?_
  refine e_icmp 100 rfl rfl rfl (fun c1 => ?_) (fun c1 => ?_)
  · refine e_L 4 (f' := (104, [(1, .int v1), (2, .int v2)], [.int (1 : Int32), .int (v1 &&& (1 : Int32))])) rfl ?_
    refine e_icmp 136 rfl rfl rfl (fun c2 => ?_) (fun c2 => ?_)
    · refine e_L 2 (f' := (141, [(1, .int v1), (2, .int v2)], [.int (1 : Int32)])) rfl ?_
      exact e_rZ rfl rfl (by decide)
    · refine e_L 6 (f' := (113, [(1, .int v1), (2, .int v2)], [.int (1 : Int32), .int ((v1 >>> ((5 : Int32) &&& 31)) &&& (1 : Int32))])) rfl ?_
      refine e_icmp 136 rfl rfl rfl (fun c3 => ?_) (fun c3 => ?_)
      · refine e_L 2 (f' := (141, [(1, .int v1), (2, .int v2)], [.int (1 : Int32)])) rfl ?_
        exact e_rZ rfl rfl (by decide)
      · refine e_L 6 (f' := (123, [(1, .int v1), (2, .int v2)], [.int (1 : Int32), .int ((v1 >>> ((10 : Int32) &&& 31)) &&& (1 : Int32))])) rfl ?_
        refine e_icmp 136 rfl rfl rfl (fun c4 => ?_) (fun c4 => ?_)
        · refine e_L 2 (f' := (141, [(1, .int v1), (2, .int v2)], [.int (1 : Int32)])) rfl ?_
          exact e_rZ rfl rfl (by decide)
        · refine e_L 6 (f' := (133, [(1, .int v1), (2, .int v2)], [.int (1 : Int32), .int ((v1 >>> ((15 : Int32) &&& 31)) &&& (1 : Int32))])) rfl ?_
          refine e_icmp 140 rfl rfl rfl (fun c5 => ?_) (fun c5 => ?_)
          · refine e_L 1 (f' := (141, [(1, .int v1), (2, .int v2)], [.int (0 : Int32)])) rfl ?_
            exact e_rZ rfl rfl (by decide)
          · refine e_L 2 (f' := (141, [(1, .int v1), (2, .int v2)], [.int (1 : Int32)])) rfl ?_
            exact e_rZ rfl rfl (by decide)
  · refine e_L 2 (f' := (14, [(3, .int (0 : Int32)), (1, .int v1), (2, .int v2)], [])) rfl ?_
    exact qE_sub (qsubL [1, 2, 0] rfl (ks := [3, 1, 2]) rfl (by decide))
set_option maxRecDepth 100000 in
set_option maxHeartbeats 4000000 in
theorem le_X12_areCrossed_14 (en : pN) (d : Nat) (v1 : Int32) (v2 : Int32) (v3 : Int32) (s : qS) : qle (if (4 : Int32) ≤ v3 then L_X12_areCrossed_7 en d v1 (v2 + (1 : Int32)) s else L_X12_areCrossed_22 en d v1 v2 v3 (0 : Int32) s) (L_X12_areCrossed_14 en d v1 v2 v3 s) := by
  show qle _ (qE (qev en d) en (some .boolean) tb_X12_areCrossed (14, [(1, .int v1), (2, .int v2), (3, .int v3)], []) s)
  refine e_L 2 (f' := (16, [(1, .int v1), (2, .int v2), (3, .int v3)], [.int (4 : Int32), .int v3])) rfl ?_
  refine e_icmp 94 rfl rfl rfl (fun c1 => ?_) (fun c1 => ?_)
  · refine e_L 2 (f' := (7, [(2, .int (v2 + (1 : Int32))), (1, .int v1), (3, .int v3)], [])) rfl ?_
    exact qE_sub (qsubL [1, 0] rfl (ks := [2, 1, 3]) rfl (by decide))
  · refine e_L 2 (f' := (22, [(4, .int (0 : Int32)), (1, .int v1), (2, .int v2), (3, .int v3)], [])) rfl ?_
    exact qE_sub (qsubL [1, 2, 3, 0] rfl (ks := [4, 1, 2, 3]) rfl (by decide))
set_option maxRecDepth 100000 in
set_option maxHeartbeats 4000000 in
theorem le_X12_areCrossed_22 (en : pN) (d : Nat) (v1 : Int32) (v2 : Int32) (v3 : Int32) (v4 : Int32) (s : qS) : qle (if (4 : Int32) ≤ v4 then L_X12_areCrossed_14 en d v1 v2 (v3 + (1 : Int32)) s else if ¬ ((v1 >>> ((((4 : Int32) * v3) + v2) &&& 31)) &&& (1 : Int32)) = (1 : Int32) then L_X12_areCrossed_60 en d v1 v2 v3 v4 (0 : Int32) s else if ¬ ((v1 >>> ((((4 : Int32) * v2) + v4) &&& 31)) &&& (1 : Int32)) = (1 : Int32) then L_X12_areCrossed_60 en d v1 v2 v3 v4 (0 : Int32) s else L_X12_areCrossed_60 en d v1 v2 v3 v4 (1 : Int32) s) (L_X12_areCrossed_22 en d v1 v2 v3 v4 s) := by
  show qle _ (qE (qev en d) en (some .boolean) tb_X12_areCrossed (22, [(1, .int v1), (2, .int v2), (3, .int v3), (4, .int v4)], []) s)
  refine e_L 2 (f' := (25, [(1, .int v1), (2, .int v2), (3, .int v3), (4, .int v4)], [.int (4 : Int32), .int v4])) rfl ?_
  refine e_icmp 88 rfl rfl rfl (fun c1 => ?_) (fun c1 => ?_)
  · refine e_L 2 (f' := (14, [(3, .int (v3 + (1 : Int32))), (1, .int v1), (2, .int v2), (4, .int v4)], [])) rfl ?_
    exact qE_sub (qsubL [1, 2, 0] rfl (ks := [3, 1, 2, 4]) rfl (by decide))
  · refine e_L 10 (f' := (38, [(1, .int v1), (2, .int v2), (3, .int v3), (4, .int v4)], [.int (1 : Int32), .int ((v1 >>> ((((4 : Int32) * v3) + v2) &&& 31)) &&& (1 : Int32))])) rfl ?_
    refine e_icmp 59 rfl rfl rfl (fun c2 => ?_) (fun c2 => ?_)
    · refine e_L 1 (f' := (60, [(1, .int v1), (2, .int v2), (3, .int v3), (4, .int v4)], [.int (0 : Int32)])) rfl ?_
      exact qE_sub (qsubL [0, 1, 2, 3] rfl (ks := [1, 2, 3, 4]) rfl (by decide))
    · refine e_L 10 (f' := (52, [(1, .int v1), (2, .int v2), (3, .int v3), (4, .int v4)], [.int (1 : Int32), .int ((v1 >>> ((((4 : Int32) * v2) + v4) &&& 31)) &&& (1 : Int32))])) rfl ?_
      refine e_icmp 59 rfl rfl rfl (fun c3 => ?_) (fun c3 => ?_)
      · refine e_L 1 (f' := (60, [(1, .int v1), (2, .int v2), (3, .int v3), (4, .int v4)], [.int (0 : Int32)])) rfl ?_
        exact qE_sub (qsubL [0, 1, 2, 3] rfl (ks := [1, 2, 3, 4]) rfl (by decide))
      · refine e_L 2 (f' := (60, [(1, .int v1), (2, .int v2), (3, .int v3), (4, .int v4)], [.int (1 : Int32)])) rfl ?_
        exact qE_sub (qsubL [0, 1, 2, 3] rfl (ks := [1, 2, 3, 4]) rfl (by decide))
set_option maxRecDepth 100000 in
set_option maxHeartbeats 4000000 in
theorem le_X12_areCrossed_60 (en : pN) (d : Nat) (v1 : Int32) (v2 : Int32) (v3 : Int32) (v4 : Int32) (vs0 : Int32) (s : qS) : qle (if vs0 = (0 : Int32) then L_X12_areCrossed_22 en d (v1 ||| (0 : Int32)) v2 v3 (v4 + (1 : Int32)) s else nm (v1 ||| ((1 : Int32) <<< ((((4 : Int32) * v3) + v4) &&& 31))) (fun z2 => L_X12_areCrossed_22 en d z2 v2 v3 (v4 + (1 : Int32)) s)) (L_X12_areCrossed_60 en d v1 v2 v3 v4 vs0 s) := by
  show qle _ (qE (qev en d) en (some .boolean) tb_X12_areCrossed (60, [(1, .int v1), (2, .int v2), (3, .int v3), (4, .int v4)], [.int vs0]) s)
  refine e_L 3 (f' := (65, [(5, .int vs0), (1, .int v1), (2, .int v2), (3, .int v3), (4, .int v4)], [.int vs0, .int v1])) rfl ?_
  refine e_ifz 79 rfl rfl rfl (fun c1 => ?_) (fun c1 => ?_)
  · refine e_L 5 (f' := (22, [(4, .int (v4 + (1 : Int32))), (1, .int (v1 ||| (0 : Int32))), (5, .int vs0), (2, .int v2), (3, .int v3)], [])) rfl ?_
    exact qE_sub (qsubL [1, 3, 4, 0] rfl (ks := [4, 1, 5, 2, 3]) rfl (by decide))
  · refine e_L 9 (f' := (81, [(5, .int vs0), (1, .int v1), (2, .int v2), (3, .int v3), (4, .int v4)], [.int (v1 ||| ((1 : Int32) <<< ((((4 : Int32) * v3) + v4) &&& 31)))])) rfl ?_
    refine e_nI fun z2 => ?_
    refine e_L 3 (f' := (22, [(4, .int (v4 + (1 : Int32))), (1, .int z2), (5, .int vs0), (2, .int v2), (3, .int v3)], [])) rfl ?_
    exact qE_sub (qsubL [1, 3, 4, 0] rfl (ks := [4, 1, 5, 2, 3]) rfl (by decide))
set_option maxRecDepth 100000 in
set_option maxHeartbeats 4000000 in
theorem le_X12_areCrossed (en : pN) (d : Nat) (s : qS) : qle (L_X12_areCrossed_7 en d (s.1 151 120) (0 : Int32) s) (qev en (d + 1) 387 [.ref 151] s) := by
  refine e_enter ix_X12_areCrossed (Nat.le_of_ble_eq_true rfl) ?_
  show qle _ (qE (qev en d) en (some .boolean) tb_X12_areCrossed (0, [(0, .ref 151)], []) s)
  refine e_L 1 (f' := (1, [(0, .ref 151)], [.ref 151])) rfl ?_
  refine e_gI 12 120 rfl rfl lc_151 ?_
  refine e_L 3 (f' := (7, [(2, .int (0 : Int32)), (1, .int (s.1 151 120)), (0, .ref 151)], [])) rfl ?_
  exact qE_sub (qsubL [1, 0] rfl (ks := [2, 1, 0]) rfl (by decide))
noncomputable def L_X12_ring_50 (en : pN) (d : Nat) (v1 : Int32) (v2 : Int32) (v3 : Int32) (v4 : Int32) (v5 : Int32) (v6 : Int32) (v7 : Int32) (s : qS) : Option qR := qE (qev en d) en (some .int) tb_X12_ring (50, [(0, .ref 151), (1, .int v1), (2, .int v2), (3, .int v3), (4, .int v4), (5, .int v5), (6, .int v6), (7, .int v7)], []) s
noncomputable def L_X12_ring_113 (en : pN) (d : Nat) (v1 : Int32) (v2 : Int32) (v4 : Int32) (v5 : Int32) (v6 : Int32) (v7 : Int32) (v8 : Int32) (vs0 : Int32) (s : qS) : Option qR := qE (qev en d) en (some .int) tb_X12_ring (113, [(0, .ref 151), (1, .int v1), (2, .int v2), (4, .int v4), (5, .int v5), (6, .int v6), (7, .int v7), (8, .int v8)], [.int vs0]) s
noncomputable def L_X12_ring_130 (en : pN) (d : Nat) (v1 : Int32) (v2 : Int32) (v3 : Int32) (v4 : Int32) (v5 : Int32) (v6 : Int32) (v7 : Int32) (s : qS) : Option qR := qE (qev en d) en (some .int) tb_X12_ring (130, [(0, .ref 151), (1, .int v1), (2, .int v2), (3, .int v3), (4, .int v4), (5, .int v5), (6, .int v6), (7, .int v7)], []) s
set_option maxRecDepth 100000 in
set_option maxHeartbeats 4000000 in
theorem le_X12_ring_50 (en : pN) (d : Nat) (v1 : Int32) (v2 : Int32) (v3 : Int32) (v4 : Int32) (v5 : Int32) (v6 : Int32) (v7 : Int32) (s : qS) : qle (if (s.1 151 101) ≤ v7 then if ¬ v1 = (0 : Int32) then if ¬ v1 = (1 : Int32) then if ¬ v1 = (2 : Int32) then if ¬ v1 = (3 : Int32) then some (some (.int v6), s) else some (some (.int v5), s) else some (some (.int v4), s) else some (some (.int v3), s) else some (some (.int v2), s) else gd (p_inB v7 20001 = true) (if (s.1 216 v7.toNatClampNeg) = (0 : Int32) then L_X12_ring_50 en d v1 v2 v3 v4 v5 v6 (v7 + (1 : Int32)) s else gd (p_inB (s.1 217 v7.toNatClampNeg) 20001 = true) (if (s.1 225 (s.1 217 v7.toNatClampNeg).toNatClampNeg) = (0 : Int32) then L_X12_ring_50 en d v1 v2 v3 v4 v5 v6 (v7 + (1 : Int32)) s else bV (qev en d 383 [.ref 151, .int v7] s) (fun s11 => bI (qev en d 385 [.ref 151] s11) (fun w13 s14 => if w13 = (-2 : Int32) then L_X12_ring_130 en d v1 v2 v3 v4 v5 v6 v7 s14 else if ¬ v2 = (0 : Int32) then L_X12_ring_113 en d v1 v2 v4 v5 v6 v7 w13 v3 s14 else L_X12_ring_113 en d v1 v2 v4 v5 v6 v7 w13 v7 s14))))) (L_X12_ring_50 en d v1 v2 v3 v4 v5 v6 v7 s) := by
  show qle _ (qE (qev en d) en (some .int) tb_X12_ring (50, [(0, .ref 151), (1, .int v1), (2, .int v2), (3, .int v3), (4, .int v4), (5, .int v5), (6, .int v6), (7, .int v7)], []) s)
  refine e_L 2 (f' := (53, [(0, .ref 151), (1, .int v1), (2, .int v2), (3, .int v3), (4, .int v4), (5, .int v5), (6, .int v6), (7, .int v7)], [.ref 151, .int v7])) rfl ?_
  refine e_gI 12 101 rfl rfl lc_151 ?_
  refine e_icmp 160 rfl rfl rfl (fun c1 => ?_) (fun c1 => ?_)
  · refine e_L 1 (f' := (161, [(0, .ref 151), (1, .int v1), (2, .int v2), (3, .int v3), (4, .int v4), (5, .int v5), (6, .int v6), (7, .int v7)], [.int v1])) rfl ?_
    refine e_ifz 168 rfl rfl rfl (fun c2 => ?_) (fun c2 => ?_)
    · refine e_L 2 (f' := (170, [(0, .ref 151), (1, .int v1), (2, .int v2), (3, .int v3), (4, .int v4), (5, .int v5), (6, .int v6), (7, .int v7)], [.int (1 : Int32), .int v1])) rfl ?_
      refine e_icmp 177 rfl rfl rfl (fun c3 => ?_) (fun c3 => ?_)
      · refine e_L 2 (f' := (179, [(0, .ref 151), (1, .int v1), (2, .int v2), (3, .int v3), (4, .int v4), (5, .int v5), (6, .int v6), (7, .int v7)], [.int (2 : Int32), .int v1])) rfl ?_
        refine e_icmp 187 rfl rfl rfl (fun c4 => ?_) (fun c4 => ?_)
        · refine e_L 2 (f' := (189, [(0, .ref 151), (1, .int v1), (2, .int v2), (3, .int v3), (4, .int v4), (5, .int v5), (6, .int v6), (7, .int v7)], [.int (3 : Int32), .int v1])) rfl ?_
          refine e_icmp 197 rfl rfl rfl (fun c5 => ?_) (fun c5 => ?_)
          · refine e_L 1 (f' := (199, [(0, .ref 151), (1, .int v1), (2, .int v2), (3, .int v3), (4, .int v4), (5, .int v5), (6, .int v6), (7, .int v7)], [.int v6])) rfl ?_
            exact e_rI rfl rfl
          · refine e_L 2 (f' := (199, [(0, .ref 151), (1, .int v1), (2, .int v2), (3, .int v3), (4, .int v4), (5, .int v5), (6, .int v6), (7, .int v7)], [.int v5])) rfl ?_
            exact e_rI rfl rfl
        · refine e_L 2 (f' := (199, [(0, .ref 151), (1, .int v1), (2, .int v2), (3, .int v3), (4, .int v4), (5, .int v5), (6, .int v6), (7, .int v7)], [.int v4])) rfl ?_
          exact e_rI rfl rfl
      · refine e_L 2 (f' := (199, [(0, .ref 151), (1, .int v1), (2, .int v2), (3, .int v3), (4, .int v4), (5, .int v5), (6, .int v6), (7, .int v7)], [.int v3])) rfl ?_
        exact e_rI rfl rfl
    · refine e_L 2 (f' := (199, [(0, .ref 151), (1, .int v1), (2, .int v2), (3, .int v3), (4, .int v4), (5, .int v5), (6, .int v6), (7, .int v7)], [.int v2])) rfl ?_
      exact e_rI rfl rfl
  · refine e_L 1 (f' := (60, [(0, .ref 151), (1, .int v1), (2, .int v2), (3, .int v3), (4, .int v4), (5, .int v5), (6, .int v6), (7, .int v7)], [.ref 151])) rfl ?_
    refine e_gR (q := 216) 12 110 rfl rfl lc_151 lr_151_110 ?_
    refine e_L 1 (f' := (65, [(0, .ref 151), (1, .int v1), (2, .int v2), (3, .int v3), (4, .int v4), (5, .int v5), (6, .int v6), (7, .int v7)], [.int v7, .ref 216])) rfl ?_
    refine qle_gd fun h6 => ?_
    refine e_bal (n := 20001) (k := v7.toNatClampNeg) rfl (Or.inl lc_216) ln_216 h6 rfl ?_
    refine e_ifz 154 rfl rfl rfl (fun c7 => ?_) (fun c7 => ?_)
    · refine e_L 2 (f' := (50, [(7, .int (v7 + (1 : Int32))), (0, .ref 151), (1, .int v1), (2, .int v2), (3, .int v3), (4, .int v4), (5, .int v5), (6, .int v6)], [])) rfl ?_
      exact qE_sub (qsubL [1, 2, 3, 4, 5, 6, 7, 0] rfl (ks := [7, 0, 1, 2, 3, 4, 5, 6]) rfl (by decide))
    · refine e_L 1 (f' := (70, [(0, .ref 151), (1, .int v1), (2, .int v2), (3, .int v3), (4, .int v4), (5, .int v5), (6, .int v6), (7, .int v7)], [.ref 151])) rfl ?_
      refine e_gR (q := 225) 12 122 rfl rfl lc_151 lr_151_122 ?_
      refine e_L 1 (f' := (74, [(0, .ref 151), (1, .int v1), (2, .int v2), (3, .int v3), (4, .int v4), (5, .int v5), (6, .int v6), (7, .int v7)], [.ref 151, .ref 225])) rfl ?_
      refine e_gR (q := 217) 12 111 rfl rfl lc_151 lr_151_111 ?_
      refine e_L 1 (f' := (79, [(0, .ref 151), (1, .int v1), (2, .int v2), (3, .int v3), (4, .int v4), (5, .int v5), (6, .int v6), (7, .int v7)], [.int v7, .ref 217, .ref 225])) rfl ?_
      refine e_ial (n := 20001) (k := v7.toNatClampNeg) rfl lc_217 ln_217 h6 rfl ?_
      refine qle_gd fun h8 => ?_
      refine e_ial (n := 20001) (k := (s.1 217 v7.toNatClampNeg).toNatClampNeg) rfl lc_225 ln_225 h8 rfl ?_
      refine e_ifz 154 rfl rfl rfl (fun c9 => ?_) (fun c9 => ?_)
      · refine e_L 2 (f' := (50, [(7, .int (v7 + (1 : Int32))), (0, .ref 151), (1, .int v1), (2, .int v2), (3, .int v3), (4, .int v4), (5, .int v5), (6, .int v6)], [])) rfl ?_
        exact qE_sub (qsubL [1, 2, 3, 4, 5, 6, 7, 0] rfl (ks := [7, 0, 1, 2, 3, 4, 5, 6]) rfl (by decide))
      · refine e_L 2 (f' := (87, [(0, .ref 151), (1, .int v1), (2, .int v2), (3, .int v3), (4, .int v4), (5, .int v5), (6, .int v6), (7, .int v7)], [.int v7, .ref 151])) rfl ?_
        refine e_vV 383 rfl rfl ix_X12_takeState rfl (q_recvOf lc_151 rfl) (Nat.le_of_ble_eq_true rfl) (fun s11 e12 => ?_)
        refine e_L 1 (f' := (91, [(0, .ref 151), (1, .int v1), (2, .int v2), (3, .int v3), (4, .int v4), (5, .int v5), (6, .int v6), (7, .int v7)], [.ref 151])) rfl ?_
        refine e_vI 385 rfl rfl ix_X12_leastInRing rfl (q_recvOf lc_151 rfl) (Nat.le_of_ble_eq_true rfl) (fun w13 s14 e15 => ?_)
        refine e_L 3 (f' := (100, [(8, .int w13), (0, .ref 151), (1, .int v1), (2, .int v2), (3, .int v3), (4, .int v4), (5, .int v5), (6, .int v6), (7, .int v7)], [.int (-2 : Int32), .int w13])) rfl ?_
        refine e_icmp 130 rfl rfl rfl (fun c16 => ?_) (fun c16 => ?_)
        · exact qE_sub (qsubL [1, 2, 3, 4, 5, 6, 7, 8] rfl (ks := [8, 0, 1, 2, 3, 4, 5, 6, 7]) rfl (by decide))
        · refine e_L 1 (f' := (104, [(8, .int w13), (0, .ref 151), (1, .int v1), (2, .int v2), (3, .int v3), (4, .int v4), (5, .int v5), (6, .int v6), (7, .int v7)], [.int v2])) rfl ?_
          refine e_ifz 112 rfl rfl rfl (fun c17 => ?_) (fun c17 => ?_)
          · refine e_L 1 (f' := (113, [(8, .int w13), (0, .ref 151), (1, .int v1), (2, .int v2), (3, .int v3), (4, .int v4), (5, .int v5), (6, .int v6), (7, .int v7)], [.int v3])) rfl ?_
            exact qE_sub (qsubL [1, 2, 3, 5, 6, 7, 8, 0] rfl (ks := [8, 0, 1, 2, 3, 4, 5, 6, 7]) rfl (by decide))
          · refine e_L 2 (f' := (113, [(8, .int w13), (0, .ref 151), (1, .int v1), (2, .int v2), (3, .int v3), (4, .int v4), (5, .int v5), (6, .int v6), (7, .int v7)], [.int v7])) rfl ?_
            exact qE_sub (qsubL [1, 2, 3, 5, 6, 7, 8, 0] rfl (ks := [8, 0, 1, 2, 3, 4, 5, 6, 7]) rfl (by decide))
set_option maxRecDepth 100000 in
set_option maxHeartbeats 4000000 in
theorem le_X12_ring_113 (en : pN) (d : Nat) (v1 : Int32) (v2 : Int32) (v4 : Int32) (v5 : Int32) (v6 : Int32) (v7 : Int32) (v8 : Int32) (vs0 : Int32) (s : qS) : qle (if ¬ v2 = (0 : Int32) then L_X12_ring_130 en d v1 (v2 + (1 : Int32)) vs0 v4 v5 v6 v7 s else L_X12_ring_130 en d v1 (v2 + (1 : Int32)) vs0 v8 v5 v6 v7 s) (L_X12_ring_113 en d v1 v2 v4 v5 v6 v7 v8 vs0 s) := by
  show qle _ (qE (qev en d) en (some .int) tb_X12_ring (113, [(0, .ref 151), (1, .int v1), (2, .int v2), (4, .int v4), (5, .int v5), (6, .int v6), (7, .int v7), (8, .int v8)], [.int vs0]) s)
  refine e_L 2 (f' := (115, [(3, .int vs0), (0, .ref 151), (1, .int v1), (2, .int v2), (4, .int v4), (5, .int v5), (6, .int v6), (7, .int v7), (8, .int v8)], [.int v2])) rfl ?_
  refine e_ifz 123 rfl rfl rfl (fun c1 => ?_) (fun c1 => ?_)
  · refine e_L 3 (f' := (130, [(2, .int (v2 + (1 : Int32))), (4, .int v4), (3, .int vs0), (0, .ref 151), (1, .int v1), (5, .int v5), (6, .int v6), (7, .int v7), (8, .int v8)], [])) rfl ?_
    exact qE_sub (qsubL [3, 4, 0, 2, 1, 5, 6, 7] rfl (ks := [2, 4, 3, 0, 1, 5, 6, 7, 8]) rfl (by decide))
  · refine e_L 4 (f' := (130, [(2, .int (v2 + (1 : Int32))), (4, .int v8), (3, .int vs0), (0, .ref 151), (1, .int v1), (5, .int v5), (6, .int v6), (7, .int v7), (8, .int v8)], [])) rfl ?_
    exact qE_sub (qsubL [3, 4, 0, 2, 1, 5, 6, 7] rfl (ks := [2, 4, 3, 0, 1, 5, 6, 7, 8]) rfl (by decide))
set_option maxRecDepth 100000 in
set_option maxHeartbeats 4000000 in
theorem le_X12_ring_130 (en : pN) (d : Nat) (v1 : Int32) (v2 : Int32) (v3 : Int32) (v4 : Int32) (v5 : Int32) (v6 : Int32) (v7 : Int32) (s : qS) : qle (bI (qev en d 386 [.ref 151] s) (fun w1 s2 => if w1 = (0 : Int32) then L_X12_ring_50 en d v1 v2 v3 v4 v5 v6 (v7 + (1 : Int32)) s2 else if ¬ v5 = (0 : Int32) then L_X12_ring_50 en d v1 v2 v3 v4 (v5 + (1 : Int32)) v6 (v7 + (1 : Int32)) s2 else L_X12_ring_50 en d v1 v2 v3 v4 (v5 + (1 : Int32)) v7 (v7 + (1 : Int32)) s2)) (L_X12_ring_130 en d v1 v2 v3 v4 v5 v6 v7 s) := by
  show qle _ (qE (qev en d) en (some .int) tb_X12_ring (130, [(0, .ref 151), (1, .int v1), (2, .int v2), (3, .int v3), (4, .int v4), (5, .int v5), (6, .int v6), (7, .int v7)], []) s)
  refine e_L 1 (f' := (131, [(0, .ref 151), (1, .int v1), (2, .int v2), (3, .int v3), (4, .int v4), (5, .int v5), (6, .int v6), (7, .int v7)], [.ref 151])) rfl ?_
  refine e_vI 386 rfl rfl ix_X12_isLostEnd rfl (q_recvOf lc_151 rfl) (Nat.le_of_ble_eq_true rfl) (fun w1 s2 e3 => ?_)
  refine e_ifz 154 rfl rfl rfl (fun c4 => ?_) (fun c4 => ?_)
  · refine e_L 2 (f' := (50, [(7, .int (v7 + (1 : Int32))), (0, .ref 151), (1, .int v1), (2, .int v2), (3, .int v3), (4, .int v4), (5, .int v5), (6, .int v6)], [])) rfl ?_
    exact qE_sub (qsubL [1, 2, 3, 4, 5, 6, 7, 0] rfl (ks := [7, 0, 1, 2, 3, 4, 5, 6]) rfl (by decide))
  · refine e_L 1 (f' := (139, [(0, .ref 151), (1, .int v1), (2, .int v2), (3, .int v3), (4, .int v4), (5, .int v5), (6, .int v6), (7, .int v7)], [.int v5])) rfl ?_
    refine e_ifz 147 rfl rfl rfl (fun c5 => ?_) (fun c5 => ?_)
    · refine e_L 5 (f' := (50, [(7, .int (v7 + (1 : Int32))), (5, .int (v5 + (1 : Int32))), (6, .int v6), (0, .ref 151), (1, .int v1), (2, .int v2), (3, .int v3), (4, .int v4)], [])) rfl ?_
      exact qE_sub (qsubL [3, 4, 5, 6, 7, 1, 2, 0] rfl (ks := [7, 5, 6, 0, 1, 2, 3, 4]) rfl (by decide))
    · refine e_L 6 (f' := (50, [(7, .int (v7 + (1 : Int32))), (5, .int (v5 + (1 : Int32))), (6, .int v7), (0, .ref 151), (1, .int v1), (2, .int v2), (3, .int v3), (4, .int v4)], [])) rfl ?_
      exact qE_sub (qsubL [3, 4, 5, 6, 7, 1, 2, 0] rfl (ks := [7, 5, 6, 0, 1, 2, 3, 4]) rfl (by decide))
set_option maxRecDepth 100000 in
set_option maxHeartbeats 4000000 in
theorem le_X12_ring (en : pN) (d : Nat) (a1 : Int32) (s : qS) : qle (if (s.1 151 98) = (0 : Int32) then some (some (.int (-1 : Int32)), s) else if a1 < (0 : Int32) then some (some (.int (-1 : Int32)), s) else if a1 ≤ (5 : Int32) then if ¬ a1 = (5 : Int32) then L_X12_ring_50 en d a1 (0 : Int32) (-2 : Int32) (-2 : Int32) (0 : Int32) (-2 : Int32) (0 : Int32) s else bI (qev en d 387 [.ref 151] s) (fun w5 s6 => bI (qev en d 294 [.int w5] s6) (fun w8 s9 => some (some (.int w8), s9))) else some (some (.int (-1 : Int32)), s)) (qev en (d + 1) 388 [.ref 151, .int a1] s) := by
  refine e_enter ix_X12_ring (Nat.le_of_ble_eq_true rfl) ?_
  show qle _ (qE (qev en d) en (some .int) tb_X12_ring (0, [(0, .ref 151), (1, .int a1)], []) s)
  refine e_L 1 (f' := (1, [(0, .ref 151), (1, .int a1)], [.ref 151])) rfl ?_
  refine e_gI 12 98 rfl rfl lc_151 ?_
  refine e_ifz 16 rfl rfl rfl (fun c1 => ?_) (fun c1 => ?_)
  · refine e_L 1 (f' := (17, [(0, .ref 151), (1, .int a1)], [.int (-1 : Int32)])) rfl ?_
    exact e_rI rfl rfl
  · refine e_L 1 (f' := (8, [(0, .ref 151), (1, .int a1)], [.int a1])) rfl ?_
    refine e_ifz 16 rfl rfl rfl (fun c2 => ?_) (fun c2 => ?_)
    · refine e_L 1 (f' := (17, [(0, .ref 151), (1, .int a1)], [.int (-1 : Int32)])) rfl ?_
      exact e_rI rfl rfl
    · refine e_L 2 (f' := (13, [(0, .ref 151), (1, .int a1)], [.int (5 : Int32), .int a1])) rfl ?_
      refine e_icmp 18 rfl rfl rfl (fun c3 => ?_) (fun c3 => ?_)
      · refine e_L 2 (f' := (20, [(0, .ref 151), (1, .int a1)], [.int (5 : Int32), .int a1])) rfl ?_
        refine e_icmp 31 rfl rfl rfl (fun c4 => ?_) (fun c4 => ?_)
        · refine e_L 12 (f' := (50, [(7, .int (0 : Int32)), (6, .int (-2 : Int32)), (5, .int (0 : Int32)), (4, .int (-2 : Int32)), (3, .int (-2 : Int32)), (2, .int (0 : Int32)), (0, .ref 151), (1, .int a1)], [])) rfl ?_
          exact qE_sub (qsubL [6, 7, 5, 4, 3, 2, 1, 0] rfl (ks := [7, 6, 5, 4, 3, 2, 0, 1]) rfl (by decide))
        · refine e_L 1 (f' := (24, [(0, .ref 151), (1, .int a1)], [.ref 151])) rfl ?_
          refine e_vI 387 rfl rfl ix_X12_areCrossed rfl (q_recvOf lc_151 rfl) (Nat.le_of_ble_eq_true rfl) (fun w5 s6 e7 => ?_)
          refine e_sI 294 rfl rfl rfl ix_X12_truth rfl (Nat.le_of_ble_eq_true rfl) (fun w8 s9 e10 => ?_)
          exact e_rI rfl rfl
      · refine e_L 1 (f' := (17, [(0, .ref 151), (1, .int a1)], [.int (-1 : Int32)])) rfl ?_
        exact e_rI rfl rfl
set_option maxRecDepth 100000 in
set_option maxHeartbeats 4000000 in
theorem le_X12_order (en : pN) (d : Nat) (a1 : Int32) (a2 : Int32) (s : qS) : qle (if (s.1 151 98) = (0 : Int32) then some (some (.int (-1 : Int32)), s) else if a1 < (0 : Int32) then some (some (.int (-1 : Int32)), s) else if (s.1 151 16) ≤ a1 then some (some (.int (-1 : Int32)), s) else if a2 < (0 : Int32) then some (some (.int (-1 : Int32)), s) else if a2 < (s.1 151 16) then some (some (.int (((s.1 151 120) >>> ((((4 : Int32) * a1) + a2) &&& 31)) &&& (1 : Int32))), s) else some (some (.int (-1 : Int32)), s)) (qev en (d + 1) 389 [.ref 151, .int a1, .int a2] s) := by
  refine e_enter ix_X12_order (Nat.le_of_ble_eq_true rfl) ?_
  show qle _ (qE (qev en d) en (some .int) tb_X12_order (0, [(0, .ref 151), (1, .int a1), (2, .int a2)], []) s)
  refine e_L 1 (f' := (1, [(0, .ref 151), (1, .int a1), (2, .int a2)], [.ref 151])) rfl ?_
  refine e_gI 12 98 rfl rfl lc_151 ?_
  refine e_ifz 31 rfl rfl rfl (fun c1 => ?_) (fun c1 => ?_)
  · refine e_L 1 (f' := (32, [(0, .ref 151), (1, .int a1), (2, .int a2)], [.int (-1 : Int32)])) rfl ?_
    exact e_rI rfl rfl
  · refine e_L 1 (f' := (8, [(0, .ref 151), (1, .int a1), (2, .int a2)], [.int a1])) rfl ?_
    refine e_ifz 31 rfl rfl rfl (fun c2 => ?_) (fun c2 => ?_)
    · refine e_L 1 (f' := (32, [(0, .ref 151), (1, .int a1), (2, .int a2)], [.int (-1 : Int32)])) rfl ?_
      exact e_rI rfl rfl
    · refine e_L 2 (f' := (13, [(0, .ref 151), (1, .int a1), (2, .int a2)], [.ref 151, .int a1])) rfl ?_
      refine e_gI 12 16 rfl rfl lc_151 ?_
      refine e_icmp 31 rfl rfl rfl (fun c3 => ?_) (fun c3 => ?_)
      · refine e_L 1 (f' := (32, [(0, .ref 151), (1, .int a1), (2, .int a2)], [.int (-1 : Int32)])) rfl ?_
        exact e_rI rfl rfl
      · refine e_L 1 (f' := (20, [(0, .ref 151), (1, .int a1), (2, .int a2)], [.int a2])) rfl ?_
        refine e_ifz 31 rfl rfl rfl (fun c4 => ?_) (fun c4 => ?_)
        · refine e_L 1 (f' := (32, [(0, .ref 151), (1, .int a1), (2, .int a2)], [.int (-1 : Int32)])) rfl ?_
          exact e_rI rfl rfl
        · refine e_L 2 (f' := (25, [(0, .ref 151), (1, .int a1), (2, .int a2)], [.ref 151, .int a2])) rfl ?_
          refine e_gI 12 16 rfl rfl lc_151 ?_
          refine e_icmp 33 rfl rfl rfl (fun c5 => ?_) (fun c5 => ?_)
          · refine e_L 1 (f' := (34, [(0, .ref 151), (1, .int a1), (2, .int a2)], [.ref 151])) rfl ?_
            refine e_gI 12 120 rfl rfl lc_151 ?_
            refine e_L 8 (f' := (45, [(0, .ref 151), (1, .int a1), (2, .int a2)], [.int (((s.1 151 120) >>> ((((4 : Int32) * a1) + a2) &&& 31)) &&& (1 : Int32))])) rfl ?_
            exact e_rI rfl rfl
          · refine e_L 1 (f' := (32, [(0, .ref 151), (1, .int a1), (2, .int a2)], [.int (-1 : Int32)])) rfl ?_
            exact e_rI rfl rfl
noncomputable def L_X12_layFacts_3 (en : pN) (d : Nat) (v1 : Int32) (v2 : Int32) (v3 : Int32) (v4 : Int32) (s : qS) : Option qR := qE (qev en d) en none tb_X12_layFacts (3, [(0, .ref 151), (1, .int v1), (2, .int v2), (3, .int v3), (4, .int v4)], []) s
noncomputable def L_X12_layFacts_49 (en : pN) (d : Nat) (v1 : Int32) (v2 : Int32) (v3 : Int32) (v4 : Int32) (vs1 : Int32) (s : qS) : Option qR := qE (qev en d) en none tb_X12_layFacts (49, [(0, .ref 151), (1, .int v1), (2, .int v2), (3, .int v3), (4, .int v4)], [.int vs1, .ref 151]) s
noncomputable def L_X12_layFacts_78 (en : pN) (d : Nat) (v1 : Int32) (v2 : Int32) (v3 : Int32) (v4 : Int32) (vs0 : Int32) (s : qS) : Option qR := qE (qev en d) en none tb_X12_layFacts (78, [(0, .ref 151), (1, .int v1), (2, .int v2), (3, .int v3), (4, .int v4)], [.int vs0]) s
set_option maxRecDepth 100000 in
set_option maxHeartbeats 4000000 in
theorem le_X12_layFacts_3 (en : pN) (d : Nat) (v1 : Int32) (v2 : Int32) (v3 : Int32) (v4 : Int32) (s : qS) : qle (if (s.1 151 101) ≤ v4 then some (none, s) else bV (qev en d 383 [.ref 151, .int v4] s) (fun s3 => gd (p_inB v4 20001 = true) (if (s3.1 216 v4.toNatClampNeg) = (0 : Int32) then L_X12_layFacts_49 en d v1 v2 v3 v4 (0 : Int32) s3 else gd (p_inB (s3.1 217 v4.toNatClampNeg) 20001 = true) (if (s3.1 225 (s3.1 217 v4.toNatClampNeg).toNatClampNeg) = (0 : Int32) then L_X12_layFacts_49 en d v1 v2 v3 v4 (0 : Int32) s3 else L_X12_layFacts_49 en d v1 v2 v3 v4 (1 : Int32) s3)))) (L_X12_layFacts_3 en d v1 v2 v3 v4 s) := by
  show qle _ (qE (qev en d) en none tb_X12_layFacts (3, [(0, .ref 151), (1, .int v1), (2, .int v2), (3, .int v3), (4, .int v4)], []) s)
  refine e_L 2 (f' := (6, [(0, .ref 151), (1, .int v1), (2, .int v2), (3, .int v3), (4, .int v4)], [.ref 151, .int v4])) rfl ?_
  refine e_gI 12 101 rfl rfl lc_151 ?_
  refine e_icmp 111 rfl rfl rfl (fun c1 => ?_) (fun c1 => ?_)
  · exact e_rV rfl rfl
  · refine e_L 2 (f' := (15, [(0, .ref 151), (1, .int v1), (2, .int v2), (3, .int v3), (4, .int v4)], [.int v4, .ref 151])) rfl ?_
    refine e_vV 383 rfl rfl ix_X12_takeState rfl (q_recvOf lc_151 rfl) (Nat.le_of_ble_eq_true rfl) (fun s3 e4 => ?_)
    refine e_L 2 (f' := (20, [(0, .ref 151), (1, .int v1), (2, .int v2), (3, .int v3), (4, .int v4)], [.ref 151, .ref 151])) rfl ?_
    refine e_gR (q := 216) 12 110 rfl rfl lc_151 lr_151_110 ?_
    refine e_L 1 (f' := (25, [(0, .ref 151), (1, .int v1), (2, .int v2), (3, .int v3), (4, .int v4)], [.int v4, .ref 216, .ref 151])) rfl ?_
    refine qle_gd fun h5 => ?_
    refine e_bal (n := 20001) (k := v4.toNatClampNeg) rfl (Or.inl lc_216) ln_216 h5 rfl ?_
    refine e_ifz 48 rfl rfl rfl (fun c6 => ?_) (fun c6 => ?_)
    · refine e_L 1 (f' := (49, [(0, .ref 151), (1, .int v1), (2, .int v2), (3, .int v3), (4, .int v4)], [.int (0 : Int32), .ref 151])) rfl ?_
      exact qE_sub (qsubL [0, 1, 2, 3, 4] rfl (ks := [0, 1, 2, 3, 4]) rfl (by decide))
    · refine e_L 1 (f' := (30, [(0, .ref 151), (1, .int v1), (2, .int v2), (3, .int v3), (4, .int v4)], [.ref 151, .ref 151])) rfl ?_
      refine e_gR (q := 225) 12 122 rfl rfl lc_151 lr_151_122 ?_
      refine e_L 1 (f' := (34, [(0, .ref 151), (1, .int v1), (2, .int v2), (3, .int v3), (4, .int v4)], [.ref 151, .ref 225, .ref 151])) rfl ?_
      refine e_gR (q := 217) 12 111 rfl rfl lc_151 lr_151_111 ?_
      refine e_L 1 (f' := (39, [(0, .ref 151), (1, .int v1), (2, .int v2), (3, .int v3), (4, .int v4)], [.int v4, .ref 217, .ref 225, .ref 151])) rfl ?_
      refine e_ial (n := 20001) (k := v4.toNatClampNeg) rfl lc_217 ln_217 h5 rfl ?_
      refine qle_gd fun h7 => ?_
      refine e_ial (n := 20001) (k := (s3.1 217 v4.toNatClampNeg).toNatClampNeg) rfl lc_225 ln_225 h7 rfl ?_
      refine e_ifz 48 rfl rfl rfl (fun c8 => ?_) (fun c8 => ?_)
      · refine e_L 1 (f' := (49, [(0, .ref 151), (1, .int v1), (2, .int v2), (3, .int v3), (4, .int v4)], [.int (0 : Int32), .ref 151])) rfl ?_
        exact qE_sub (qsubL [0, 1, 2, 3, 4] rfl (ks := [0, 1, 2, 3, 4]) rfl (by decide))
      · refine e_L 2 (f' := (49, [(0, .ref 151), (1, .int v1), (2, .int v2), (3, .int v3), (4, .int v4)], [.int (1 : Int32), .ref 151])) rfl ?_
        exact qE_sub (qsubL [0, 1, 2, 3, 4] rfl (ks := [0, 1, 2, 3, 4]) rfl (by decide))
set_option maxRecDepth 100000 in
set_option maxHeartbeats 4000000 in
theorem le_X12_layFacts_49 (en : pN) (d : Nat) (v1 : Int32) (v2 : Int32) (v3 : Int32) (v4 : Int32) (vs1 : Int32) (s : qS) : qle (gd (isB vs1 = true) (nm (uI s 151 64 vs1) (fun s2 => bI (qev en d 296 [.ref 151, .int v1, .int v2, .int (0 : Int32)] s2) (fun w3 s4 => if ¬ (s4.1 151 62) = (0 : Int32) then L_X12_layFacts_78 en d v1 v2 v3 v4 (0 : Int32) s4 else if w3 = (0 : Int32) then L_X12_layFacts_78 en d v1 v2 v3 v4 (0 : Int32) s4 else L_X12_layFacts_78 en d v1 v2 v3 v4 (1 : Int32) s4)))) (L_X12_layFacts_49 en d v1 v2 v3 v4 vs1 s) := by
  show qle _ (qE (qev en d) en none tb_X12_layFacts (49, [(0, .ref 151), (1, .int v1), (2, .int v2), (3, .int v3), (4, .int v4)], [.int vs1, .ref 151]) s)
  refine qle_gd fun h1 => ?_
  refine e_pI 12 64 rfl rfl lc_151 h1 ?_
  refine e_nS fun s2 => ?_
  refine e_L 4 (f' := (56, [(0, .ref 151), (1, .int v1), (2, .int v2), (3, .int v3), (4, .int v4)], [.int (0 : Int32), .int v2, .int v1, .ref 151])) rfl ?_
  refine e_vI 296 rfl rfl ix_X12_worked rfl (q_recvOf lc_151 rfl) (Nat.le_of_ble_eq_true rfl) (fun w3 s4 e5 => ?_)
  refine e_L 2 (f' := (62, [(5, .int w3), (0, .ref 151), (1, .int v1), (2, .int v2), (3, .int v3), (4, .int v4)], [.ref 151])) rfl ?_
  refine e_gI 12 62 rfl rfl lc_151 ?_
  refine e_ifz 77 rfl rfl rfl (fun c6 => ?_) (fun c6 => ?_)
  · refine e_L 1 (f' := (78, [(5, .int w3), (0, .ref 151), (1, .int v1), (2, .int v2), (3, .int v3), (4, .int v4)], [.int (0 : Int32)])) rfl ?_
    exact qE_sub (qsubL [1, 2, 3, 4, 5] rfl (ks := [5, 0, 1, 2, 3, 4]) rfl (by decide))
  · refine e_L 1 (f' := (70, [(5, .int w3), (0, .ref 151), (1, .int v1), (2, .int v2), (3, .int v3), (4, .int v4)], [.int w3])) rfl ?_
    refine e_ifz 77 rfl rfl rfl (fun c7 => ?_) (fun c7 => ?_)
    · refine e_L 1 (f' := (78, [(5, .int w3), (0, .ref 151), (1, .int v1), (2, .int v2), (3, .int v3), (4, .int v4)], [.int (0 : Int32)])) rfl ?_
      exact qE_sub (qsubL [1, 2, 3, 4, 5] rfl (ks := [5, 0, 1, 2, 3, 4]) rfl (by decide))
    · refine e_L 2 (f' := (78, [(5, .int w3), (0, .ref 151), (1, .int v1), (2, .int v2), (3, .int v3), (4, .int v4)], [.int (1 : Int32)])) rfl ?_
      exact qE_sub (qsubL [1, 2, 3, 4, 5] rfl (ks := [5, 0, 1, 2, 3, 4]) rfl (by decide))
set_option maxRecDepth 100000 in
set_option maxHeartbeats 4000000 in
theorem le_X12_layFacts_78 (en : pN) (d : Nat) (v1 : Int32) (v2 : Int32) (v3 : Int32) (v4 : Int32) (vs0 : Int32) (s : qS) : qle (if v3 = (0 : Int32) then gd (p_inB v4 20001 = true) (nm (uI s 233 (v4.toNatClampNeg) (vp_nar .boolean vs0)) (fun s3 => L_X12_layFacts_3 en d v1 v2 v3 (v4 + (1 : Int32)) s3)) else gd (p_inB v4 20001 = true) (nm (uI s 234 (v4.toNatClampNeg) (vp_nar .boolean vs0)) (fun s5 => L_X12_layFacts_3 en d v1 v2 v3 (v4 + (1 : Int32)) s5))) (L_X12_layFacts_78 en d v1 v2 v3 v4 vs0 s) := by
  show qle _ (qE (qev en d) en none tb_X12_layFacts (78, [(0, .ref 151), (1, .int v1), (2, .int v2), (3, .int v3), (4, .int v4)], [.int vs0]) s)
  refine e_L 2 (f' := (81, [(6, .int vs0), (0, .ref 151), (1, .int v1), (2, .int v2), (3, .int v3), (4, .int v4)], [.int v3])) rfl ?_
  refine e_ifz 96 rfl rfl rfl (fun c1 => ?_) (fun c1 => ?_)
  · refine e_L 1 (f' := (97, [(6, .int vs0), (0, .ref 151), (1, .int v1), (2, .int v2), (3, .int v3), (4, .int v4)], [.ref 151])) rfl ?_
    refine e_gR (q := 233) 12 132 rfl rfl lc_151 lr_151_132 ?_
    refine e_L 2 (f' := (104, [(6, .int vs0), (0, .ref 151), (1, .int v1), (2, .int v2), (3, .int v3), (4, .int v4)], [.int vs0, .int v4, .ref 233])) rfl ?_
    refine qle_gd fun h2 => ?_
    refine e_bas (n := 20001) (k := v4.toNatClampNeg) rfl lc_233 ln_233 h2 rfl ?_
    refine e_nS fun s3 => ?_
    refine e_L 2 (f' := (3, [(4, .int (v4 + (1 : Int32))), (6, .int vs0), (0, .ref 151), (1, .int v1), (2, .int v2), (3, .int v3)], [])) rfl ?_
    exact qE_sub (qsubL [2, 3, 4, 5, 0] rfl (ks := [4, 6, 0, 1, 2, 3]) rfl (by decide))
  · refine e_L 1 (f' := (85, [(6, .int vs0), (0, .ref 151), (1, .int v1), (2, .int v2), (3, .int v3), (4, .int v4)], [.ref 151])) rfl ?_
    refine e_gR (q := 234) 12 133 rfl rfl lc_151 lr_151_133 ?_
    refine e_L 2 (f' := (92, [(6, .int vs0), (0, .ref 151), (1, .int v1), (2, .int v2), (3, .int v3), (4, .int v4)], [.int vs0, .int v4, .ref 234])) rfl ?_
    refine qle_gd fun h4 => ?_
    refine e_bas (n := 20001) (k := v4.toNatClampNeg) rfl lc_234 ln_234 h4 rfl ?_
    refine e_nS fun s5 => ?_
    refine e_L 3 (f' := (3, [(4, .int (v4 + (1 : Int32))), (6, .int vs0), (0, .ref 151), (1, .int v1), (2, .int v2), (3, .int v3)], [])) rfl ?_
    exact qE_sub (qsubL [2, 3, 4, 5, 0] rfl (ks := [4, 6, 0, 1, 2, 3]) rfl (by decide))
set_option maxRecDepth 100000 in
set_option maxHeartbeats 4000000 in
theorem le_X12_layFacts (en : pN) (d : Nat) (a1 : Int32) (a2 : Int32) (a3 : Int32) (s : qS) : qle (L_X12_layFacts_3 en d a1 a2 a3 (0 : Int32) s) (qev en (d + 1) 390 [.ref 151, .int a1, .int a2, .int a3] s) := by
  refine e_enter ix_X12_layFacts (Nat.le_of_ble_eq_true rfl) ?_
  show qle _ (qE (qev en d) en none tb_X12_layFacts (0, [(0, .ref 151), (1, .int a1), (2, .int a2), (3, .int a3)], []) s)
  refine e_L 2 (f' := (3, [(4, .int (0 : Int32)), (0, .ref 151), (1, .int a1), (2, .int a2), (3, .int a3)], [])) rfl ?_
  exact qE_sub (qsubL [1, 2, 3, 4, 0] rfl (ks := [4, 0, 1, 2, 3]) rfl (by decide))
noncomputable def L_X12_leastWith_2 (en : pN) (d : Nat) (v1 : Int32) (v2 : Int32) (s : qS) : Option qR := qE (qev en d) en (some .int) tb_X12_leastWith (2, [(0, .ref 151), (1, .int v1), (2, .int v2)], []) s
set_option maxRecDepth 100000 in
set_option maxHeartbeats 4000000 in
theorem le_X12_leastWith_2 (en : pN) (d : Nat) (v1 : Int32) (v2 : Int32) (s : qS) : qle (if (s.1 151 101) ≤ v2 then some (some (.int (-2 : Int32)), s) else gd (p_inB v2 20001 = true) (if ¬ (s.1 233 v2.toNatClampNeg) = v1 then L_X12_leastWith_2 en d v1 (v2 + (1 : Int32)) s else some (some (.int v2), s))) (L_X12_leastWith_2 en d v1 v2 s) := by
  show qle _ (qE (qev en d) en (some .int) tb_X12_leastWith (2, [(0, .ref 151), (1, .int v1), (2, .int v2)], []) s)
  refine e_L 2 (f' := (4, [(0, .ref 151), (1, .int v1), (2, .int v2)], [.ref 151, .int v2])) rfl ?_
  refine e_gI 12 101 rfl rfl lc_151 ?_
  refine e_icmp 28 rfl rfl rfl (fun c1 => ?_) (fun c1 => ?_)
  · refine e_L 1 (f' := (30, [(0, .ref 151), (1, .int v1), (2, .int v2)], [.int (-2 : Int32)])) rfl ?_
    exact e_rI rfl rfl
  · refine e_L 1 (f' := (11, [(0, .ref 151), (1, .int v1), (2, .int v2)], [.ref 151])) rfl ?_
    refine e_gR (q := 233) 12 132 rfl rfl lc_151 lr_151_132 ?_
    refine e_L 1 (f' := (15, [(0, .ref 151), (1, .int v1), (2, .int v2)], [.int v2, .ref 233])) rfl ?_
    refine qle_gd fun h2 => ?_
    refine e_bal (n := 20001) (k := v2.toNatClampNeg) rfl (Or.inl lc_233) ln_233 h2 rfl ?_
    refine e_L 1 (f' := (17, [(0, .ref 151), (1, .int v1), (2, .int v2)], [.int v1, .int (s.1 233 v2.toNatClampNeg)])) rfl ?_
    refine e_icmp 22 rfl rfl rfl (fun c3 => ?_) (fun c3 => ?_)
    · refine e_L 2 (f' := (2, [(2, .int (v2 + (1 : Int32))), (0, .ref 151), (1, .int v1)], [])) rfl ?_
      exact qE_sub (qsubL [1, 2, 0] rfl (ks := [2, 0, 1]) rfl (by decide))
    · refine e_L 1 (f' := (21, [(0, .ref 151), (1, .int v1), (2, .int v2)], [.int v2])) rfl ?_
      exact e_rI rfl rfl
set_option maxRecDepth 100000 in
set_option maxHeartbeats 4000000 in
theorem le_X12_leastWith (en : pN) (d : Nat) (a1 : Int32) (s : qS) : qle (L_X12_leastWith_2 en d a1 (0 : Int32) s) (qev en (d + 1) 391 [.ref 151, .int a1] s) := by
  refine e_enter ix_X12_leastWith (Nat.le_of_ble_eq_true rfl) ?_
  show qle _ (qE (qev en d) en (some .int) tb_X12_leastWith (0, [(0, .ref 151), (1, .int a1)], []) s)
  refine e_L 2 (f' := (2, [(2, .int (0 : Int32)), (0, .ref 151), (1, .int a1)], [])) rfl ?_
  exact qE_sub (qsubL [1, 2, 0] rfl (ks := [2, 0, 1]) rfl (by decide))
noncomputable def L_X12_judge_87 (en : pN) (d : Nat) (vs0 : Int32) (s : qS) : Option qR := qE (qev en d) en (some .int) tb_X12_judge (87, [(0, .ref 151)], [.int vs0]) s
noncomputable def L_X12_judge_108 (en : pN) (d : Nat) (v1 : Int32) (vs0 : Int32) (s : qS) : Option qR := qE (qev en d) en (some .int) tb_X12_judge (108, [(0, .ref 151), (1, .int v1)], [.int vs0]) s
noncomputable def L_X12_judge_118 (en : pN) (d : Nat) (v1 : Int32) (v2 : Int32) (s : qS) : Option qR := qE (qev en d) en (some .int) tb_X12_judge (118, [(0, .ref 151), (1, .int v1), (2, .int v2)], []) s
noncomputable def L_X12_judge_122 (en : pN) (d : Nat) (v1 : Int32) (v2 : Int32) (s : qS) : Option qR := qE (qev en d) en (some .int) tb_X12_judge (122, [(0, .ref 151), (1, .int v1), (2, .int v2)], []) s
noncomputable def L_X12_judge_149 (en : pN) (d : Nat) (v1 : Int32) (v2 : Int32) (s : qS) : Option qR := qE (qev en d) en (some .int) tb_X12_judge (149, [(0, .ref 151), (1, .int v1), (2, .int v2)], []) s
noncomputable def L_X12_judge_167 (en : pN) (d : Nat) (v1 : Int32) (v2 : Int32) (vs0 : Int32) (s : qS) : Option qR := qE (qev en d) en (some .int) tb_X12_judge (167, [(0, .ref 151), (1, .int v1), (2, .int v2)], [.int vs0]) s
noncomputable def L_X12_judge_198 (en : pN) (d : Nat) (v1 : Int32) (v2 : Int32) (v3 : Int32) (v4 : Int32) (s : qS) : Option qR := qE (qev en d) en (some .int) tb_X12_judge (198, [(0, .ref 151), (1, .int v1), (2, .int v2), (3, .int v3), (4, .int v4)], []) s
noncomputable def L_X12_judge_220 (en : pN) (d : Nat) (v1 : Int32) (v2 : Int32) (v3 : Int32) (v4 : Int32) (vs0 : Int32) (s : qS) : Option qR := qE (qev en d) en (some .int) tb_X12_judge (220, [(0, .ref 151), (1, .int v1), (2, .int v2), (3, .int v3), (4, .int v4)], [.int vs0]) s
noncomputable def L_X12_judge_238 (en : pN) (d : Nat) (v1 : Int32) (v2 : Int32) (v3 : Int32) (v4 : Int32) (s : qS) : Option qR := qE (qev en d) en (some .int) tb_X12_judge (238, [(0, .ref 151), (1, .int v1), (2, .int v2), (3, .int v3), (4, .int v4)], []) s
noncomputable def L_X12_judge_258 (en : pN) (d : Nat) (v1 : Int32) (v2 : Int32) (v3 : Int32) (v4 : Int32) (vs1 : Int32) (s : qS) : Option qR := qE (qev en d) en (some .int) tb_X12_judge (258, [(0, .ref 151), (1, .int v1), (2, .int v2), (3, .int v3), (4, .int v4)], [.int vs1, .ref 151]) s
noncomputable def L_X12_judge_262 (en : pN) (d : Nat) (v1 : Int32) (v2 : Int32) (v3 : Int32) (v4 : Int32) (s : qS) : Option qR := qE (qev en d) en (some .int) tb_X12_judge (262, [(0, .ref 151), (1, .int v1), (2, .int v2), (3, .int v3), (4, .int v4)], []) s
noncomputable def L_X12_judge_306 (en : pN) (d : Nat) (v1 : Int32) (v2 : Int32) (v3 : Int32) (v4 : Int32) (v5 : Int32) (s : qS) : Option qR := qE (qev en d) en (some .int) tb_X12_judge (306, [(0, .ref 151), (1, .int v1), (2, .int v2), (3, .int v3), (4, .int v4), (5, .int v5)], []) s
noncomputable def L_X12_judge_320 (en : pN) (d : Nat) (v1 : Int32) (v2 : Int32) (v4 : Int32) (v5 : Int32) (vs1 : Int32) (vs2 : Int32) (s : qS) : Option qR := qE (qev en d) en (some .int) tb_X12_judge (320, [(0, .ref 151), (1, .int v1), (2, .int v2), (4, .int v4), (5, .int v5)], [.int vs2, .int vs1, .ref 151]) s
noncomputable def L_X12_judge_330 (en : pN) (d : Nat) (v1 : Int32) (v2 : Int32) (v4 : Int32) (v5 : Int32) (vs1 : Int32) (vs2 : Int32) (vs3 : Int32) (s : qS) : Option qR := qE (qev en d) en (some .int) tb_X12_judge (330, [(0, .ref 151), (1, .int v1), (2, .int v2), (4, .int v4), (5, .int v5)], [.int vs3, .int vs2, .int vs1, .ref 151]) s
noncomputable def L_X12_judge_347 (en : pN) (d : Nat) (v1 : Int32) (v2 : Int32) (s : qS) : Option qR := qE (qev en d) en (some .int) tb_X12_judge (347, [(0, .ref 151), (1, .int v1), (2, .int v2)], []) s
noncomputable def L_X12_judge_370 (en : pN) (d : Nat) (v1 : Int32) (vs2 : Int32) (s : qS) : Option qR := qE (qev en d) en (some .int) tb_X12_judge (370, [(0, .ref 151), (1, .int v1)], [.int vs2, .ref 151, .ref 151]) s
noncomputable def L_X12_judge_390 (en : pN) (d : Nat) (v1 : Int32) (vs0 : Int32) (s : qS) : Option qR := qE (qev en d) en (some .int) tb_X12_judge (390, [(1, .int v1)], [.int vs0]) s
noncomputable def L_X12_judge_400 (en : pN) (d : Nat) (vs0 : Int32) (vs1 : Int32) (s : qS) : Option qR := qE (qev en d) en (some .int) tb_X12_judge (400, [], [.int vs1, .int vs0]) s
noncomputable def L_X12_judge_425 (en : pN) (d : Nat) (v2 : Int32) (vs2 : Int32) (s : qS) : Option qR := qE (qev en d) en (some .int) tb_X12_judge (425, [(0, .ref 151), (2, .int v2)], [.int vs2, .ref 151, .ref 151]) s
noncomputable def L_X12_judge_448 (en : pN) (d : Nat) (v6 : Int32) (s : qS) : Option qR := qE (qev en d) en (some .int) tb_X12_judge (448, [(6, .int v6)], []) s
set_option maxRecDepth 100000 in
set_option maxHeartbeats 4000000 in
theorem le_X12_judge_87 (en : pN) (d : Nat) (vs0 : Int32) (s : qS) : qle (if ¬ vs0 = (5 : Int32) then L_X12_judge_108 en d vs0 (0 : Int32) s else bI (qev en d 255 [.ref 151, .long (1717660018 : Int64)] s) (fun w2 s3 => if w2 = (0 : Int32) then L_X12_judge_108 en d vs0 (0 : Int32) s3 else L_X12_judge_108 en d vs0 (1 : Int32) s3)) (L_X12_judge_87 en d vs0 s) := by
  show qle _ (qE (qev en d) en (some .int) tb_X12_judge (87, [(0, .ref 151)], [.int vs0]) s)
  refine e_L 3 (f' := (90, [(1, .int vs0), (0, .ref 151)], [.int (5 : Int32), .int vs0])) rfl ?_
  refine e_icmp 107 rfl rfl rfl (fun c1 => ?_) (fun c1 => ?_)
  · refine e_L 1 (f' := (108, [(1, .int vs0), (0, .ref 151)], [.int (0 : Int32)])) rfl ?_
    exact qE_sub (qsubL [1, 0] rfl (ks := [1, 0]) rfl (by decide))
  · refine e_L 1 (f' := (94, [(1, .int vs0), (0, .ref 151)], [.ref 151])) rfl ?_
    refine e_gs (w := .long (1717660018 : Int64)) rfl rfl ?_
    refine e_vI 255 rfl rfl ix_X12_isWord rfl (q_recvOf lc_151 rfl) (Nat.le_of_ble_eq_true rfl) (fun w2 s3 e4 => ?_)
    refine e_ifz 107 rfl rfl rfl (fun c5 => ?_) (fun c5 => ?_)
    · refine e_L 1 (f' := (108, [(1, .int vs0), (0, .ref 151)], [.int (0 : Int32)])) rfl ?_
      exact qE_sub (qsubL [1, 0] rfl (ks := [1, 0]) rfl (by decide))
    · refine e_L 2 (f' := (108, [(1, .int vs0), (0, .ref 151)], [.int (1 : Int32)])) rfl ?_
      exact qE_sub (qsubL [1, 0] rfl (ks := [1, 0]) rfl (by decide))
set_option maxRecDepth 100000 in
set_option maxHeartbeats 4000000 in
theorem le_X12_judge_108 (en : pN) (d : Nat) (v1 : Int32) (vs0 : Int32) (s : qS) : qle (if v1 < (5 : Int32) then L_X12_judge_118 en d v1 vs0 s else if vs0 = (0 : Int32) then L_X12_judge_122 en d v1 vs0 s else L_X12_judge_118 en d v1 vs0 s) (L_X12_judge_108 en d v1 vs0 s) := by
  show qle _ (qE (qev en d) en (some .int) tb_X12_judge (108, [(0, .ref 151), (1, .int v1)], [.int vs0]) s)
  refine e_L 3 (f' := (111, [(2, .int vs0), (0, .ref 151), (1, .int v1)], [.int (5 : Int32), .int v1])) rfl ?_
  refine e_icmp 118 rfl rfl rfl (fun c1 => ?_) (fun c1 => ?_)
  · exact qE_sub (qsubL [1, 2, 0] rfl (ks := [2, 0, 1]) rfl (by decide))
  · refine e_L 1 (f' := (115, [(2, .int vs0), (0, .ref 151), (1, .int v1)], [.int vs0])) rfl ?_
    refine e_ifz 122 rfl rfl rfl (fun c2 => ?_) (fun c2 => ?_)
    · exact qE_sub (qsubL [1, 2, 0] rfl (ks := [2, 0, 1]) rfl (by decide))
    · exact qE_sub (qsubL [1, 2, 0] rfl (ks := [2, 0, 1]) rfl (by decide))
set_option maxRecDepth 100000 in
set_option maxHeartbeats 4000000 in
theorem le_X12_judge_118 (en : pN) (d : Nat) (v1 : Int32) (v2 : Int32) (s : qS) : qle (bV (qev en d 249 [.ref 151] s) (fun s2 => L_X12_judge_122 en d v1 v2 s2)) (L_X12_judge_118 en d v1 v2 s) := by
  show qle _ (qE (qev en d) en (some .int) tb_X12_judge (118, [(0, .ref 151), (1, .int v1), (2, .int v2)], []) s)
  refine e_L 1 (f' := (119, [(0, .ref 151), (1, .int v1), (2, .int v2)], [.ref 151])) rfl ?_
  refine e_vV 249 rfl rfl ix_X12_next rfl (q_recvOf lc_151 rfl) (Nat.le_of_ble_eq_true rfl) (fun s2 e3 => ?_)
  exact qE_sub (qsubL [0, 1, 2] rfl (ks := [0, 1, 2]) rfl (by decide))
set_option maxRecDepth 100000 in
set_option maxHeartbeats 4000000 in
theorem le_X12_judge_122 (en : pN) (d : Nat) (v1 : Int32) (v2 : Int32) (s : qS) : qle (if v2 = (0 : Int32) then L_X12_judge_149 en d v1 v2 s else bI (qev en d 243 [.ref 151] s) (fun w2 s3 => if w2 = (0 : Int32) then L_X12_judge_149 en d v1 v2 s3 else bI (qev en d 255 [.ref 151, .long (1836413812 : Int64)] s3) (fun w6 s7 => if w6 = (0 : Int32) then L_X12_judge_149 en d v1 v2 s7 else bV (qev en d 249 [.ref 151] s7) (fun s11 => L_X12_judge_149 en d (4 : Int32) v2 s11)))) (L_X12_judge_122 en d v1 v2 s) := by
  show qle _ (qE (qev en d) en (some .int) tb_X12_judge (122, [(0, .ref 151), (1, .int v1), (2, .int v2)], []) s)
  refine e_L 1 (f' := (123, [(0, .ref 151), (1, .int v1), (2, .int v2)], [.int v2])) rfl ?_
  refine e_ifz 149 rfl rfl rfl (fun c1 => ?_) (fun c1 => ?_)
  · exact qE_sub (qsubL [0, 1, 2] rfl (ks := [0, 1, 2]) rfl (by decide))
  · refine e_L 1 (f' := (127, [(0, .ref 151), (1, .int v1), (2, .int v2)], [.ref 151])) rfl ?_
    refine e_vI 243 rfl rfl ix_X12_good rfl (q_recvOf lc_151 rfl) (Nat.le_of_ble_eq_true rfl) (fun w2 s3 e4 => ?_)
    refine e_ifz 149 rfl rfl rfl (fun c5 => ?_) (fun c5 => ?_)
    · exact qE_sub (qsubL [0, 1, 2] rfl (ks := [0, 1, 2]) rfl (by decide))
    · refine e_L 1 (f' := (134, [(0, .ref 151), (1, .int v1), (2, .int v2)], [.ref 151])) rfl ?_
      refine e_gs (w := .long (1836413812 : Int64)) rfl rfl ?_
      refine e_vI 255 rfl rfl ix_X12_isWord rfl (q_recvOf lc_151 rfl) (Nat.le_of_ble_eq_true rfl) (fun w6 s7 e8 => ?_)
      refine e_ifz 149 rfl rfl rfl (fun c9 => ?_) (fun c9 => ?_)
      · exact qE_sub (qsubL [0, 1, 2] rfl (ks := [0, 1, 2]) rfl (by decide))
      · refine e_L 3 (f' := (146, [(1, .int (4 : Int32)), (0, .ref 151), (2, .int v2)], [.ref 151])) rfl ?_
        refine e_vV 249 rfl rfl ix_X12_next rfl (q_recvOf lc_151 rfl) (Nat.le_of_ble_eq_true rfl) (fun s11 e12 => ?_)
        exact qE_sub (qsubL [1, 0, 2] rfl (ks := [1, 0, 2]) rfl (by decide))
set_option maxRecDepth 100000 in
set_option maxHeartbeats 4000000 in
theorem le_X12_judge_149 (en : pN) (d : Nat) (v1 : Int32) (v2 : Int32) (s : qS) : qle (bI (qev en d 243 [.ref 151] s) (fun w1 s2 => if w1 = (0 : Int32) then L_X12_judge_167 en d v1 v2 (s2.1 151 25) s2 else bI (qev en d 268 [.ref 151] s2) (fun w5 s6 => L_X12_judge_167 en d v1 v2 w5 s6))) (L_X12_judge_149 en d v1 v2 s) := by
  show qle _ (qE (qev en d) en (some .int) tb_X12_judge (149, [(0, .ref 151), (1, .int v1), (2, .int v2)], []) s)
  refine e_L 1 (f' := (150, [(0, .ref 151), (1, .int v1), (2, .int v2)], [.ref 151])) rfl ?_
  refine e_vI 243 rfl rfl ix_X12_good rfl (q_recvOf lc_151 rfl) (Nat.le_of_ble_eq_true rfl) (fun w1 s2 e3 => ?_)
  refine e_ifz 163 rfl rfl rfl (fun c4 => ?_) (fun c4 => ?_)
  · refine e_L 1 (f' := (164, [(0, .ref 151), (1, .int v1), (2, .int v2)], [.ref 151])) rfl ?_
    refine e_gI 12 25 rfl rfl lc_151 ?_
    exact qE_sub (qsubL [0, 1, 2] rfl (ks := [0, 1, 2]) rfl (by decide))
  · refine e_L 1 (f' := (157, [(0, .ref 151), (1, .int v1), (2, .int v2)], [.ref 151])) rfl ?_
    refine e_vI 268 rfl rfl ix_X12_readExp rfl (q_recvOf lc_151 rfl) (Nat.le_of_ble_eq_true rfl) (fun w5 s6 e7 => ?_)
    refine e_L 1 (f' := (167, [(0, .ref 151), (1, .int v1), (2, .int v2)], [.int w5])) rfl ?_
    exact qE_sub (qsubL [0, 1, 2] rfl (ks := [0, 1, 2]) rfl (by decide))
set_option maxRecDepth 100000 in
set_option maxHeartbeats 4000000 in
theorem le_X12_judge_167 (en : pN) (d : Nat) (v1 : Int32) (v2 : Int32) (vs0 : Int32) (s : qS) : qle (if ¬ v1 = (5 : Int32) then L_X12_judge_238 en d v1 v2 vs0 (s.1 151 25) s else bI (qev en d 243 [.ref 151] s) (fun w2 s3 => if w2 = (0 : Int32) then L_X12_judge_198 en d v1 v2 vs0 (s.1 151 25) s3 else bI (qev en d 255 [.ref 151, .long (465557349491 : Int64)] s3) (fun w6 s7 => bV (qev en d 245 [.ref 151, .int w6, .int (2 : Int32)] s7) (fun s10 => L_X12_judge_198 en d v1 v2 vs0 (s.1 151 25) s10)))) (L_X12_judge_167 en d v1 v2 vs0 s) := by
  show qle _ (qE (qev en d) en (some .int) tb_X12_judge (167, [(0, .ref 151), (1, .int v1), (2, .int v2)], [.int vs0]) s)
  refine e_L 2 (f' := (169, [(3, .int vs0), (0, .ref 151), (1, .int v1), (2, .int v2)], [.ref 151])) rfl ?_
  refine e_gI 12 25 rfl rfl lc_151 ?_
  refine e_L 3 (f' := (176, [(4, .int (s.1 151 25)), (3, .int vs0), (0, .ref 151), (1, .int v1), (2, .int v2)], [.int (5 : Int32), .int v1])) rfl ?_
  refine e_icmp 238 rfl rfl rfl (fun c1 => ?_) (fun c1 => ?_)
  · exact qE_sub (qsubL [2, 3, 4, 1, 0] rfl (ks := [4, 3, 0, 1, 2]) rfl (by decide))
  · refine e_L 1 (f' := (180, [(4, .int (s.1 151 25)), (3, .int vs0), (0, .ref 151), (1, .int v1), (2, .int v2)], [.ref 151])) rfl ?_
    refine e_vI 243 rfl rfl ix_X12_good rfl (q_recvOf lc_151 rfl) (Nat.le_of_ble_eq_true rfl) (fun w2 s3 e4 => ?_)
    refine e_ifz 198 rfl rfl rfl (fun c5 => ?_) (fun c5 => ?_)
    · exact qE_sub (qsubL [2, 3, 4, 1, 0] rfl (ks := [4, 3, 0, 1, 2]) rfl (by decide))
    · refine e_L 2 (f' := (188, [(4, .int (s.1 151 25)), (3, .int vs0), (0, .ref 151), (1, .int v1), (2, .int v2)], [.ref 151, .ref 151])) rfl ?_
      refine e_gs (w := .long (465557349491 : Int64)) rfl rfl ?_
      refine e_vI 255 rfl rfl ix_X12_isWord rfl (q_recvOf lc_151 rfl) (Nat.le_of_ble_eq_true rfl) (fun w6 s7 e8 => ?_)
      refine e_L 1 (f' := (195, [(4, .int (s.1 151 25)), (3, .int vs0), (0, .ref 151), (1, .int v1), (2, .int v2)], [.int (2 : Int32), .int w6, .ref 151])) rfl ?_
      refine e_vV 245 rfl rfl ix_X12_need rfl (q_recvOf lc_151 rfl) (Nat.le_of_ble_eq_true rfl) (fun s10 e11 => ?_)
      exact qE_sub (qsubL [2, 3, 4, 1, 0] rfl (ks := [4, 3, 0, 1, 2]) rfl (by decide))
set_option maxRecDepth 100000 in
set_option maxHeartbeats 4000000 in
theorem le_X12_judge_198 (en : pN) (d : Nat) (v1 : Int32) (v2 : Int32) (v3 : Int32) (v4 : Int32) (s : qS) : qle (bV (qev en d 249 [.ref 151] s) (fun s2 => bI (qev en d 243 [.ref 151] s2) (fun w4 s5 => if w4 = (0 : Int32) then L_X12_judge_220 en d v1 v2 v3 v4 (s5.1 151 25) s5 else bI (qev en d 268 [.ref 151] s5) (fun w8 s9 => L_X12_judge_220 en d v1 v2 v3 v4 w8 s9)))) (L_X12_judge_198 en d v1 v2 v3 v4 s) := by
  show qle _ (qE (qev en d) en (some .int) tb_X12_judge (198, [(0, .ref 151), (1, .int v1), (2, .int v2), (3, .int v3), (4, .int v4)], []) s)
  refine e_L 1 (f' := (199, [(0, .ref 151), (1, .int v1), (2, .int v2), (3, .int v3), (4, .int v4)], [.ref 151])) rfl ?_
  refine e_vV 249 rfl rfl ix_X12_next rfl (q_recvOf lc_151 rfl) (Nat.le_of_ble_eq_true rfl) (fun s2 e3 => ?_)
  refine e_L 1 (f' := (203, [(0, .ref 151), (1, .int v1), (2, .int v2), (3, .int v3), (4, .int v4)], [.ref 151])) rfl ?_
  refine e_vI 243 rfl rfl ix_X12_good rfl (q_recvOf lc_151 rfl) (Nat.le_of_ble_eq_true rfl) (fun w4 s5 e6 => ?_)
  refine e_ifz 216 rfl rfl rfl (fun c7 => ?_) (fun c7 => ?_)
  · refine e_L 1 (f' := (217, [(0, .ref 151), (1, .int v1), (2, .int v2), (3, .int v3), (4, .int v4)], [.ref 151])) rfl ?_
    refine e_gI 12 25 rfl rfl lc_151 ?_
    exact qE_sub (qsubL [0, 1, 2, 3, 4] rfl (ks := [0, 1, 2, 3, 4]) rfl (by decide))
  · refine e_L 1 (f' := (210, [(0, .ref 151), (1, .int v1), (2, .int v2), (3, .int v3), (4, .int v4)], [.ref 151])) rfl ?_
    refine e_vI 268 rfl rfl ix_X12_readExp rfl (q_recvOf lc_151 rfl) (Nat.le_of_ble_eq_true rfl) (fun w8 s9 e10 => ?_)
    refine e_L 1 (f' := (220, [(0, .ref 151), (1, .int v1), (2, .int v2), (3, .int v3), (4, .int v4)], [.int w8])) rfl ?_
    exact qE_sub (qsubL [0, 1, 2, 3, 4] rfl (ks := [0, 1, 2, 3, 4]) rfl (by decide))
set_option maxRecDepth 100000 in
set_option maxHeartbeats 4000000 in
theorem le_X12_judge_220 (en : pN) (d : Nat) (v1 : Int32) (v2 : Int32) (v3 : Int32) (v4 : Int32) (vs0 : Int32) (s : qS) : qle (bI (qev en d 243 [.ref 151] s) (fun w1 s2 => if w1 = (0 : Int32) then L_X12_judge_238 en d v1 v2 v3 v4 s2 else L_X12_judge_238 en d v1 v2 v3 vs0 s2)) (L_X12_judge_220 en d v1 v2 v3 v4 vs0 s) := by
  show qle _ (qE (qev en d) en (some .int) tb_X12_judge (220, [(0, .ref 151), (1, .int v1), (2, .int v2), (3, .int v3), (4, .int v4)], [.int vs0]) s)
  refine e_L 2 (f' := (223, [(5, .int vs0), (0, .ref 151), (1, .int v1), (2, .int v2), (3, .int v3), (4, .int v4)], [.ref 151])) rfl ?_
  refine e_vI 243 rfl rfl ix_X12_good rfl (q_recvOf lc_151 rfl) (Nat.le_of_ble_eq_true rfl) (fun w1 s2 e3 => ?_)
  refine e_ifz 234 rfl rfl rfl (fun c4 => ?_) (fun c4 => ?_)
  · refine e_L 2 (f' := (238, [(4, .int v4), (5, .int vs0), (0, .ref 151), (1, .int v1), (2, .int v2), (3, .int v3)], [])) rfl ?_
    exact qE_sub (qsubL [2, 3, 4, 5, 0] rfl (ks := [4, 5, 0, 1, 2, 3]) rfl (by decide))
  · refine e_L 3 (f' := (238, [(4, .int vs0), (5, .int vs0), (0, .ref 151), (1, .int v1), (2, .int v2), (3, .int v3)], [])) rfl ?_
    exact qE_sub (qsubL [2, 3, 4, 5, 0] rfl (ks := [4, 5, 0, 1, 2, 3]) rfl (by decide))
set_option maxRecDepth 100000 in
set_option maxHeartbeats 4000000 in
theorem le_X12_judge_238 (en : pN) (d : Nat) (v1 : Int32) (v2 : Int32) (v3 : Int32) (v4 : Int32) (s : qS) : qle (bI (qev en d 243 [.ref 151] s) (fun w1 s2 => if w1 = (0 : Int32) then L_X12_judge_262 en d v1 v2 v3 v4 s2 else if ¬ (s2.1 151 3) = (0 : Int32) then L_X12_judge_258 en d v1 v2 v3 v4 (0 : Int32) s2 else L_X12_judge_258 en d v1 v2 v3 v4 (1 : Int32) s2)) (L_X12_judge_238 en d v1 v2 v3 v4 s) := by
  show qle _ (qE (qev en d) en (some .int) tb_X12_judge (238, [(0, .ref 151), (1, .int v1), (2, .int v2), (3, .int v3), (4, .int v4)], []) s)
  refine e_L 1 (f' := (239, [(0, .ref 151), (1, .int v1), (2, .int v2), (3, .int v3), (4, .int v4)], [.ref 151])) rfl ?_
  refine e_vI 243 rfl rfl ix_X12_good rfl (q_recvOf lc_151 rfl) (Nat.le_of_ble_eq_true rfl) (fun w1 s2 e3 => ?_)
  refine e_ifz 262 rfl rfl rfl (fun c4 => ?_) (fun c4 => ?_)
  · exact qE_sub (qsubL [0, 1, 2, 3, 4] rfl (ks := [0, 1, 2, 3, 4]) rfl (by decide))
  · refine e_L 2 (f' := (247, [(0, .ref 151), (1, .int v1), (2, .int v2), (3, .int v3), (4, .int v4)], [.ref 151, .ref 151])) rfl ?_
    refine e_gI 12 3 rfl rfl lc_151 ?_
    refine e_ifz 257 rfl rfl rfl (fun c5 => ?_) (fun c5 => ?_)
    · refine e_L 1 (f' := (258, [(0, .ref 151), (1, .int v1), (2, .int v2), (3, .int v3), (4, .int v4)], [.int (0 : Int32), .ref 151])) rfl ?_
      exact qE_sub (qsubL [0, 1, 2, 3, 4] rfl (ks := [0, 1, 2, 3, 4]) rfl (by decide))
    · refine e_L 2 (f' := (258, [(0, .ref 151), (1, .int v1), (2, .int v2), (3, .int v3), (4, .int v4)], [.int (1 : Int32), .ref 151])) rfl ?_
      exact qE_sub (qsubL [0, 1, 2, 3, 4] rfl (ks := [0, 1, 2, 3, 4]) rfl (by decide))
set_option maxRecDepth 100000 in
set_option maxHeartbeats 4000000 in
theorem le_X12_judge_258 (en : pN) (d : Nat) (v1 : Int32) (v2 : Int32) (v3 : Int32) (v4 : Int32) (vs1 : Int32) (s : qS) : qle (bV (qev en d 245 [.ref 151, .int vs1, .int (2 : Int32)] s) (fun s2 => L_X12_judge_262 en d v1 v2 v3 v4 s2)) (L_X12_judge_258 en d v1 v2 v3 v4 vs1 s) := by
  show qle _ (qE (qev en d) en (some .int) tb_X12_judge (258, [(0, .ref 151), (1, .int v1), (2, .int v2), (3, .int v3), (4, .int v4)], [.int vs1, .ref 151]) s)
  refine e_L 1 (f' := (259, [(0, .ref 151), (1, .int v1), (2, .int v2), (3, .int v3), (4, .int v4)], [.int (2 : Int32), .int vs1, .ref 151])) rfl ?_
  refine e_vV 245 rfl rfl ix_X12_need rfl (q_recvOf lc_151 rfl) (Nat.le_of_ble_eq_true rfl) (fun s2 e3 => ?_)
  exact qE_sub (qsubL [0, 1, 2, 3, 4] rfl (ks := [0, 1, 2, 3, 4]) rfl (by decide))
set_option maxRecDepth 100000 in
set_option maxHeartbeats 4000000 in
theorem le_X12_judge_262 (en : pN) (d : Nat) (v1 : Int32) (v2 : Int32) (v3 : Int32) (v4 : Int32) (s : qS) : qle (bV (qev en d 251 [.ref 151] s) (fun s2 => nm (uI s2 151 29 (0 : Int32)) (fun s4 => if (s4.1 151 9) = (0 : Int32) then if v1 ≤ (3 : Int32) then L_X12_judge_306 en d v1 v2 v3 v4 (s.1 151 25) s4 else if (s4.1 151 100) = (0 : Int32) then L_X12_judge_306 en d v1 v2 v3 v4 (s.1 151 25) s4 else some (some (.int (-1 : Int32)), s4) else some (some (.int ((-10 : Int32) - (s4.1 151 9))), s4)))) (L_X12_judge_262 en d v1 v2 v3 v4 s) := by
  show qle _ (qE (qev en d) en (some .int) tb_X12_judge (262, [(0, .ref 151), (1, .int v1), (2, .int v2), (3, .int v3), (4, .int v4)], []) s)
  refine e_L 1 (f' := (263, [(0, .ref 151), (1, .int v1), (2, .int v2), (3, .int v3), (4, .int v4)], [.ref 151])) rfl ?_
  refine e_gI 12 25 rfl rfl lc_151 ?_
  refine e_L 2 (f' := (269, [(5, .int (s.1 151 25)), (0, .ref 151), (1, .int v1), (2, .int v2), (3, .int v3), (4, .int v4)], [.ref 151])) rfl ?_
  refine e_vV 251 rfl rfl ix_X12_endReading rfl (q_recvOf lc_151 rfl) (Nat.le_of_ble_eq_true rfl) (fun s2 e3 => ?_)
  refine e_L 2 (f' := (274, [(5, .int (s.1 151 25)), (0, .ref 151), (1, .int v1), (2, .int v2), (3, .int v3), (4, .int v4)], [.int (0 : Int32), .ref 151])) rfl ?_
  refine e_pI 12 29 rfl rfl lc_151 (by decide +kernel) ?_
  refine e_nS fun s4 => ?_
  refine e_L 1 (f' := (278, [(5, .int (s.1 151 25)), (0, .ref 151), (1, .int v1), (2, .int v2), (3, .int v3), (4, .int v4)], [.ref 151])) rfl ?_
  refine e_gI 12 9 rfl rfl lc_151 ?_
  refine e_ifz 292 rfl rfl rfl (fun c5 => ?_) (fun c5 => ?_)
  · refine e_L 2 (f' := (294, [(5, .int (s.1 151 25)), (0, .ref 151), (1, .int v1), (2, .int v2), (3, .int v3), (4, .int v4)], [.int (3 : Int32), .int v1])) rfl ?_
    refine e_icmp 306 rfl rfl rfl (fun c6 => ?_) (fun c6 => ?_)
    · exact qE_sub (qsubL [1, 2, 3, 4, 5, 0] rfl (ks := [5, 0, 1, 2, 3, 4]) rfl (by decide))
    · refine e_L 1 (f' := (298, [(5, .int (s.1 151 25)), (0, .ref 151), (1, .int v1), (2, .int v2), (3, .int v3), (4, .int v4)], [.ref 151])) rfl ?_
      refine e_gI 12 100 rfl rfl lc_151 ?_
      refine e_ifz 306 rfl rfl rfl (fun c7 => ?_) (fun c7 => ?_)
      · exact qE_sub (qsubL [1, 2, 3, 4, 5, 0] rfl (ks := [5, 0, 1, 2, 3, 4]) rfl (by decide))
      · refine e_L 1 (f' := (305, [(5, .int (s.1 151 25)), (0, .ref 151), (1, .int v1), (2, .int v2), (3, .int v3), (4, .int v4)], [.int (-1 : Int32)])) rfl ?_
        exact e_rI rfl rfl
  · refine e_L 2 (f' := (287, [(5, .int (s.1 151 25)), (0, .ref 151), (1, .int v1), (2, .int v2), (3, .int v3), (4, .int v4)], [.ref 151, .int (-10 : Int32)])) rfl ?_
    refine e_gI 12 9 rfl rfl lc_151 ?_
    refine e_L 1 (f' := (291, [(5, .int (s.1 151 25)), (0, .ref 151), (1, .int v1), (2, .int v2), (3, .int v3), (4, .int v4)], [.int ((-10 : Int32) - (s4.1 151 9))])) rfl ?_
    exact e_rI rfl rfl
set_option maxRecDepth 100000 in
set_option maxHeartbeats 4000000 in
theorem le_X12_judge_306 (en : pN) (d : Nat) (v1 : Int32) (v2 : Int32) (v3 : Int32) (v4 : Int32) (v5 : Int32) (s : qS) : qle (if ¬ v1 = (5 : Int32) then L_X12_judge_320 en d v1 v2 v4 v5 v3 v5 s else L_X12_judge_320 en d v1 v2 v4 v5 v3 v4 s) (L_X12_judge_306 en d v1 v2 v3 v4 v5 s) := by
  show qle _ (qE (qev en d) en (some .int) tb_X12_judge (306, [(0, .ref 151), (1, .int v1), (2, .int v2), (3, .int v3), (4, .int v4), (5, .int v5)], []) s)
  refine e_L 4 (f' := (310, [(0, .ref 151), (1, .int v1), (2, .int v2), (3, .int v3), (4, .int v4), (5, .int v5)], [.int (5 : Int32), .int v1, .int v3, .ref 151])) rfl ?_
  refine e_icmp 318 rfl rfl rfl (fun c1 => ?_) (fun c1 => ?_)
  · refine e_L 1 (f' := (320, [(0, .ref 151), (1, .int v1), (2, .int v2), (3, .int v3), (4, .int v4), (5, .int v5)], [.int v5, .int v3, .ref 151])) rfl ?_
    exact qE_sub (qsubL [0, 1, 2, 4, 5] rfl (ks := [0, 1, 2, 3, 4, 5]) rfl (by decide))
  · refine e_L 2 (f' := (320, [(0, .ref 151), (1, .int v1), (2, .int v2), (3, .int v3), (4, .int v4), (5, .int v5)], [.int v4, .int v3, .ref 151])) rfl ?_
    exact qE_sub (qsubL [0, 1, 2, 4, 5] rfl (ks := [0, 1, 2, 3, 4, 5]) rfl (by decide))
set_option maxRecDepth 100000 in
set_option maxHeartbeats 4000000 in
theorem le_X12_judge_320 (en : pN) (d : Nat) (v1 : Int32) (v2 : Int32) (v4 : Int32) (v5 : Int32) (vs1 : Int32) (vs2 : Int32) (s : qS) : qle (if ¬ v1 = (5 : Int32) then L_X12_judge_330 en d v1 v2 v4 v5 vs1 vs2 (0 : Int32) s else L_X12_judge_330 en d v1 v2 v4 v5 vs1 vs2 (1 : Int32) s) (L_X12_judge_320 en d v1 v2 v4 v5 vs1 vs2 s) := by
  show qle _ (qE (qev en d) en (some .int) tb_X12_judge (320, [(0, .ref 151), (1, .int v1), (2, .int v2), (4, .int v4), (5, .int v5)], [.int vs2, .int vs1, .ref 151]) s)
  refine e_L 2 (f' := (322, [(0, .ref 151), (1, .int v1), (2, .int v2), (4, .int v4), (5, .int v5)], [.int (5 : Int32), .int v1, .int vs2, .int vs1, .ref 151])) rfl ?_
  refine e_icmp 329 rfl rfl rfl (fun c1 => ?_) (fun c1 => ?_)
  · refine e_L 1 (f' := (330, [(0, .ref 151), (1, .int v1), (2, .int v2), (4, .int v4), (5, .int v5)], [.int (0 : Int32), .int vs2, .int vs1, .ref 151])) rfl ?_
    exact qE_sub (qsubL [0, 1, 2, 3, 4] rfl (ks := [0, 1, 2, 4, 5]) rfl (by decide))
  · refine e_L 2 (f' := (330, [(0, .ref 151), (1, .int v1), (2, .int v2), (4, .int v4), (5, .int v5)], [.int (1 : Int32), .int vs2, .int vs1, .ref 151])) rfl ?_
    exact qE_sub (qsubL [0, 1, 2, 3, 4] rfl (ks := [0, 1, 2, 4, 5]) rfl (by decide))
set_option maxRecDepth 100000 in
set_option maxHeartbeats 4000000 in
theorem le_X12_judge_330 (en : pN) (d : Nat) (v1 : Int32) (v2 : Int32) (v4 : Int32) (v5 : Int32) (vs1 : Int32) (vs2 : Int32) (vs3 : Int32) (s : qS) : qle (bV (qev en d 390 [.ref 151, .int vs1, .int vs2, .int vs3] s) (fun s2 => if ¬ v1 = (5 : Int32) then L_X12_judge_347 en d v1 v2 s2 else bV (qev en d 390 [.ref 151, .int v4, .int v5, .int (0 : Int32)] s2) (fun s6 => L_X12_judge_347 en d v1 v2 s6))) (L_X12_judge_330 en d v1 v2 v4 v5 vs1 vs2 vs3 s) := by
  show qle _ (qE (qev en d) en (some .int) tb_X12_judge (330, [(0, .ref 151), (1, .int v1), (2, .int v2), (4, .int v4), (5, .int v5)], [.int vs3, .int vs2, .int vs1, .ref 151]) s)
  refine e_vV 390 rfl rfl ix_X12_layFacts rfl (q_recvOf lc_151 rfl) (Nat.le_of_ble_eq_true rfl) (fun s2 e3 => ?_)
  refine e_L 2 (f' := (335, [(0, .ref 151), (1, .int v1), (2, .int v2), (4, .int v4), (5, .int v5)], [.int (5 : Int32), .int v1])) rfl ?_
  refine e_icmp 347 rfl rfl rfl (fun c4 => ?_) (fun c4 => ?_)
  · exact qE_sub (qsubL [0, 1, 2] rfl (ks := [0, 1, 2, 4, 5]) rfl (by decide))
  · refine e_L 4 (f' := (344, [(0, .ref 151), (1, .int v1), (2, .int v2), (4, .int v4), (5, .int v5)], [.int (0 : Int32), .int v5, .int v4, .ref 151])) rfl ?_
    refine e_vV 390 rfl rfl ix_X12_layFacts rfl (q_recvOf lc_151 rfl) (Nat.le_of_ble_eq_true rfl) (fun s6 e7 => ?_)
    exact qE_sub (qsubL [0, 1, 2] rfl (ks := [0, 1, 2, 4, 5]) rfl (by decide))
set_option maxRecDepth 100000 in
set_option maxHeartbeats 4000000 in
theorem le_X12_judge_347 (en : pN) (d : Nat) (v1 : Int32) (v2 : Int32) (s : qS) : qle (nm (uI s 151 131 (-2 : Int32)) (fun s1 => if (4 : Int32) ≤ v1 then if ¬ v1 = (4 : Int32) then L_X12_judge_425 en d v2 (0 : Int32) s1 else L_X12_judge_425 en d v2 (1 : Int32) s1 else if v1 = (1 : Int32) then L_X12_judge_370 en d v1 (0 : Int32) s1 else L_X12_judge_370 en d v1 (1 : Int32) s1)) (L_X12_judge_347 en d v1 v2 s) := by
  show qle _ (qE (qev en d) en (some .int) tb_X12_judge (347, [(0, .ref 151), (1, .int v1), (2, .int v2)], []) s)
  refine e_L 2 (f' := (350, [(0, .ref 151), (1, .int v1), (2, .int v2)], [.int (-2 : Int32), .ref 151])) rfl ?_
  refine e_pI 12 131 rfl rfl lc_151 rfl ?_
  refine e_nS fun s1 => ?_
  refine e_L 2 (f' := (355, [(0, .ref 151), (1, .int v1), (2, .int v2)], [.int (4 : Int32), .int v1])) rfl ?_
  refine e_icmp 413 rfl rfl rfl (fun c2 => ?_) (fun c2 => ?_)
  · refine e_L 4 (f' := (417, [(0, .ref 151), (1, .int v1), (2, .int v2)], [.int (4 : Int32), .int v1, .ref 151, .ref 151])) rfl ?_
    refine e_icmp 424 rfl rfl rfl (fun c3 => ?_) (fun c3 => ?_)
    · refine e_L 1 (f' := (425, [(0, .ref 151), (1, .int v1), (2, .int v2)], [.int (0 : Int32), .ref 151, .ref 151])) rfl ?_
      exact qE_sub (qsubL [0, 2] rfl (ks := [0, 1, 2]) rfl (by decide))
    · refine e_L 2 (f' := (425, [(0, .ref 151), (1, .int v1), (2, .int v2)], [.int (1 : Int32), .ref 151, .ref 151])) rfl ?_
      exact qE_sub (qsubL [0, 2] rfl (ks := [0, 1, 2]) rfl (by decide))
  · refine e_L 4 (f' := (362, [(0, .ref 151), (1, .int v1), (2, .int v2)], [.int (1 : Int32), .int v1, .ref 151, .ref 151])) rfl ?_
    refine e_icmp 369 rfl rfl rfl (fun c4 => ?_) (fun c4 => ?_)
    · refine e_L 1 (f' := (370, [(0, .ref 151), (1, .int v1), (2, .int v2)], [.int (0 : Int32), .ref 151, .ref 151])) rfl ?_
      exact qE_sub (qsubL [0, 1] rfl (ks := [0, 1, 2]) rfl (by decide))
    · refine e_L 2 (f' := (370, [(0, .ref 151), (1, .int v1), (2, .int v2)], [.int (1 : Int32), .ref 151, .ref 151])) rfl ?_
      exact qE_sub (qsubL [0, 1] rfl (ks := [0, 1, 2]) rfl (by decide))
set_option maxRecDepth 100000 in
set_option maxHeartbeats 4000000 in
theorem le_X12_judge_370 (en : pN) (d : Nat) (v1 : Int32) (vs2 : Int32) (s : qS) : qle (bI (qev en d 391 [.ref 151, .int vs2] s) (fun w1 s2 => nm (uI s2 151 131 w1) (fun s4 => if ¬ (s4.1 151 131) = (-2 : Int32) then L_X12_judge_390 en d v1 (0 : Int32) s4 else L_X12_judge_390 en d v1 (1 : Int32) s4))) (L_X12_judge_370 en d v1 vs2 s) := by
  show qle _ (qE (qev en d) en (some .int) tb_X12_judge (370, [(0, .ref 151), (1, .int v1)], [.int vs2, .ref 151, .ref 151]) s)
  refine e_vI 391 rfl rfl ix_X12_leastWith rfl (q_recvOf lc_151 rfl) (Nat.le_of_ble_eq_true rfl) (fun w1 s2 e3 => ?_)
  refine e_pI 12 131 rfl rfl lc_151 rfl ?_
  refine e_nS fun s4 => ?_
  refine e_L 1 (f' := (377, [(0, .ref 151), (1, .int v1)], [.ref 151])) rfl ?_
  refine e_gI 12 131 rfl rfl lc_151 ?_
  refine e_L 1 (f' := (382, [(0, .ref 151), (1, .int v1)], [.int (-2 : Int32), .int (s4.1 151 131)])) rfl ?_
  refine e_icmp 389 rfl rfl rfl (fun c5 => ?_) (fun c5 => ?_)
  · refine e_L 1 (f' := (390, [(0, .ref 151), (1, .int v1)], [.int (0 : Int32)])) rfl ?_
    exact qE_sub (qsubL [1] rfl (ks := [0, 1]) rfl (by decide))
  · refine e_L 2 (f' := (390, [(0, .ref 151), (1, .int v1)], [.int (1 : Int32)])) rfl ?_
    exact qE_sub (qsubL [1] rfl (ks := [0, 1]) rfl (by decide))
set_option maxRecDepth 100000 in
set_option maxHeartbeats 4000000 in
theorem le_X12_judge_390 (en : pN) (d : Nat) (v1 : Int32) (vs0 : Int32) (s : qS) : qle (if v1 = (3 : Int32) then L_X12_judge_400 en d vs0 (0 : Int32) s else L_X12_judge_400 en d vs0 (1 : Int32) s) (L_X12_judge_390 en d v1 vs0 s) := by
  show qle _ (qE (qev en d) en (some .int) tb_X12_judge (390, [(1, .int v1)], [.int vs0]) s)
  refine e_L 2 (f' := (392, [(1, .int v1)], [.int (3 : Int32), .int v1, .int vs0])) rfl ?_
  refine e_icmp 399 rfl rfl rfl (fun c1 => ?_) (fun c1 => ?_)
  · refine e_L 1 (f' := (400, [(1, .int v1)], [.int (0 : Int32), .int vs0])) rfl ?_
    exact qE_sub (qsubL [] rfl (ks := [1]) rfl (by decide))
  · refine e_L 2 (f' := (400, [(1, .int v1)], [.int (1 : Int32), .int vs0])) rfl ?_
    exact qE_sub (qsubL [] rfl (ks := [1]) rfl (by decide))
set_option maxRecDepth 100000 in
set_option maxHeartbeats 4000000 in
theorem le_X12_judge_400 (en : pN) (d : Nat) (vs0 : Int32) (vs1 : Int32) (s : qS) : qle (if ¬ vs0 = vs1 then L_X12_judge_448 en d (0 : Int32) s else L_X12_judge_448 en d (1 : Int32) s) (L_X12_judge_400 en d vs0 vs1 s) := by
  show qle _ (qE (qev en d) en (some .int) tb_X12_judge (400, [], [.int vs1, .int vs0]) s)
  refine e_icmp 407 rfl rfl rfl (fun c1 => ?_) (fun c1 => ?_)
  · refine e_L 3 (f' := (448, [(6, .int (0 : Int32))], [])) rfl ?_
    exact qE_sub (qsubL [0] rfl (ks := [6]) rfl (by decide))
  · refine e_L 4 (f' := (448, [(6, .int (1 : Int32))], [])) rfl ?_
    exact qE_sub (qsubL [0] rfl (ks := [6]) rfl (by decide))
set_option maxRecDepth 100000 in
set_option maxHeartbeats 4000000 in
theorem le_X12_judge_425 (en : pN) (d : Nat) (v2 : Int32) (vs2 : Int32) (s : qS) : qle (bI (qev en d 394 [.ref 151, .int vs2, .int v2] s) (fun w1 s2 => nm (uI s2 151 131 w1) (fun s4 => if ¬ (s4.1 151 131) = (-2 : Int32) then L_X12_judge_448 en d (0 : Int32) s4 else L_X12_judge_448 en d (1 : Int32) s4))) (L_X12_judge_425 en d v2 vs2 s) := by
  show qle _ (qE (qev en d) en (some .int) tb_X12_judge (425, [(0, .ref 151), (2, .int v2)], [.int vs2, .ref 151, .ref 151]) s)
  refine e_L 1 (f' := (426, [(0, .ref 151), (2, .int v2)], [.int v2, .int vs2, .ref 151, .ref 151])) rfl ?_
  refine e_vI 394 rfl rfl ix_X12_lookWays rfl (q_recvOf lc_151 rfl) (Nat.le_of_ble_eq_true rfl) (fun w1 s2 e3 => ?_)
  refine e_pI 12 131 rfl rfl lc_151 rfl ?_
  refine e_nS fun s4 => ?_
  refine e_L 1 (f' := (433, [(0, .ref 151), (2, .int v2)], [.ref 151])) rfl ?_
  refine e_gI 12 131 rfl rfl lc_151 ?_
  refine e_L 1 (f' := (438, [(0, .ref 151), (2, .int v2)], [.int (-2 : Int32), .int (s4.1 151 131)])) rfl ?_
  refine e_icmp 445 rfl rfl rfl (fun c5 => ?_) (fun c5 => ?_)
  · refine e_L 2 (f' := (448, [(6, .int (0 : Int32)), (0, .ref 151), (2, .int v2)], [])) rfl ?_
    exact qE_sub (qsubL [0] rfl (ks := [6, 0, 2]) rfl (by decide))
  · refine e_L 3 (f' := (448, [(6, .int (1 : Int32)), (0, .ref 151), (2, .int v2)], [])) rfl ?_
    exact qE_sub (qsubL [0] rfl (ks := [6, 0, 2]) rfl (by decide))
set_option maxRecDepth 100000 in
set_option maxHeartbeats 4000000 in
theorem le_X12_judge_448 (en : pN) (d : Nat) (v6 : Int32) (s : qS) : qle (bI (qev en d 294 [.int v6] s) (fun w1 s2 => some (some (.int w1), s2))) (L_X12_judge_448 en d v6 s) := by
  show qle _ (qE (qev en d) en (some .int) tb_X12_judge (448, [(6, .int v6)], []) s)
  refine e_L 1 (f' := (450, [(6, .int v6)], [.int v6])) rfl ?_
  refine e_sI 294 rfl rfl rfl ix_X12_truth rfl (Nat.le_of_ble_eq_true rfl) (fun w1 s2 e3 => ?_)
  exact e_rI rfl rfl
set_option maxRecDepth 100000 in
set_option maxHeartbeats 4000000 in
theorem le_X12_judge (en : pN) (d : Nat) (s : qS) : qle (if ¬ (s.1 151 98) = (0 : Int32) then nm (uI s 151 29 (1 : Int32)) (fun s2 => nm (uI s2 151 25 (400 : Int32)) (fun s3 => nm (uI s3 151 28 (0 : Int32)) (fun s4 => bV (qev en d 250 [.ref 151] s4) (fun s6 => bI (qev en d 255 [.ref 151, .long (107118487239027 : Int64)] s6) (fun w8 s9 => if w8 = (0 : Int32) then bI (qev en d 255 [.ref 151, .long (474148660594 : Int64)] s9) (fun w12 s13 => if w12 = (0 : Int32) then bI (qev en d 255 [.ref 151, .long (7168377 : Int64)] s13) (fun w16 s17 => if w16 = (0 : Int32) then bI (qev en d 255 [.ref 151, .long (1836413812 : Int64)] s17) (fun w20 s21 => if w20 = (0 : Int32) then L_X12_judge_87 en d (5 : Int32) s21 else L_X12_judge_87 en d (4 : Int32) s21) else L_X12_judge_87 en d (3 : Int32) s17) else L_X12_judge_87 en d (2 : Int32) s13) else L_X12_judge_87 en d (1 : Int32) s9))))) else some (some (.int (-1 : Int32)), s)) (qev en (d + 1) 392 [.ref 151] s) := by
  refine e_enter ix_X12_judge (Nat.le_of_ble_eq_true rfl) ?_
  show qle _ (qE (qev en d) en (some .int) tb_X12_judge (0, [(0, .ref 151)], []) s)
  refine e_L 1 (f' := (1, [(0, .ref 151)], [.ref 151])) rfl ?_
  refine e_gI 12 98 rfl rfl lc_151 ?_
  refine e_ifz 9 rfl rfl rfl (fun c1 => ?_) (fun c1 => ?_)
  · refine e_L 2 (f' := (11, [(0, .ref 151)], [.int (1 : Int32), .ref 151])) rfl ?_
    refine e_pI 12 29 rfl rfl lc_151 (by decide +kernel) ?_
    refine e_nS fun s2 => ?_
    refine e_L 2 (f' := (18, [(0, .ref 151)], [.int (400 : Int32), .ref 151])) rfl ?_
    refine e_pI 12 25 rfl rfl lc_151 rfl ?_
    refine e_nS fun s3 => ?_
    refine e_L 2 (f' := (23, [(0, .ref 151)], [.int (0 : Int32), .ref 151])) rfl ?_
    refine e_pI 12 28 rfl rfl lc_151 rfl ?_
    refine e_nS fun s4 => ?_
    refine e_L 1 (f' := (27, [(0, .ref 151)], [.ref 151])) rfl ?_
    refine e_vV 250 rfl rfl ix_X12_beginReading rfl (q_recvOf lc_151 rfl) (Nat.le_of_ble_eq_true rfl) (fun s6 e7 => ?_)
    refine e_L 1 (f' := (31, [(0, .ref 151)], [.ref 151])) rfl ?_
    refine e_gs (w := .long (107118487239027 : Int64)) rfl rfl ?_
    refine e_vI 255 rfl rfl ix_X12_isWord rfl (q_recvOf lc_151 rfl) (Nat.le_of_ble_eq_true rfl) (fun w8 s9 e10 => ?_)
    refine e_ifz 44 rfl rfl rfl (fun c11 => ?_) (fun c11 => ?_)
    · refine e_L 1 (f' := (45, [(0, .ref 151)], [.ref 151])) rfl ?_
      refine e_gs (w := .long (474148660594 : Int64)) rfl rfl ?_
      refine e_vI 255 rfl rfl ix_X12_isWord rfl (q_recvOf lc_151 rfl) (Nat.le_of_ble_eq_true rfl) (fun w12 s13 e14 => ?_)
      refine e_ifz 58 rfl rfl rfl (fun c15 => ?_) (fun c15 => ?_)
      · refine e_L 1 (f' := (59, [(0, .ref 151)], [.ref 151])) rfl ?_
        refine e_gs (w := .long (7168377 : Int64)) rfl rfl ?_
        refine e_vI 255 rfl rfl ix_X12_isWord rfl (q_recvOf lc_151 rfl) (Nat.le_of_ble_eq_true rfl) (fun w16 s17 e18 => ?_)
        refine e_ifz 72 rfl rfl rfl (fun c19 => ?_) (fun c19 => ?_)
        · refine e_L 1 (f' := (73, [(0, .ref 151)], [.ref 151])) rfl ?_
          refine e_gs (w := .long (1836413812 : Int64)) rfl rfl ?_
          refine e_vI 255 rfl rfl ix_X12_isWord rfl (q_recvOf lc_151 rfl) (Nat.le_of_ble_eq_true rfl) (fun w20 s21 e22 => ?_)
          refine e_ifz 86 rfl rfl rfl (fun c23 => ?_) (fun c23 => ?_)
          · refine e_L 1 (f' := (87, [(0, .ref 151)], [.int (5 : Int32)])) rfl ?_
            exact qE_sub (qsubL [0] rfl (ks := [0]) rfl (by decide))
          · refine e_L 2 (f' := (87, [(0, .ref 151)], [.int (4 : Int32)])) rfl ?_
            exact qE_sub (qsubL [0] rfl (ks := [0]) rfl (by decide))
        · refine e_L 2 (f' := (87, [(0, .ref 151)], [.int (3 : Int32)])) rfl ?_
          exact qE_sub (qsubL [0] rfl (ks := [0]) rfl (by decide))
      · refine e_L 2 (f' := (87, [(0, .ref 151)], [.int (2 : Int32)])) rfl ?_
        exact qE_sub (qsubL [0] rfl (ks := [0]) rfl (by decide))
    · refine e_L 2 (f' := (87, [(0, .ref 151)], [.int (1 : Int32)])) rfl ?_
      exact qE_sub (qsubL [0] rfl (ks := [0]) rfl (by decide))
  · refine e_L 1 (f' := (8, [(0, .ref 151)], [.int (-1 : Int32)])) rfl ?_
    exact e_rI rfl rfl
set_option maxRecDepth 100000 in
set_option maxHeartbeats 4000000 in
theorem le_X12_where (en : pN) (d : Nat) (s : qS) : qle (some (some (.int (s.1 151 131)), s)) (qev en (d + 1) 393 [.ref 151] s) := by
  refine e_enter ix_X12_where (Nat.le_of_ble_eq_true rfl) ?_
  show qle _ (qE (qev en d) en (some .int) tb_X12_where (0, [(0, .ref 151)], []) s)
  refine e_L 1 (f' := (1, [(0, .ref 151)], [.ref 151])) rfl ?_
  refine e_gI 12 131 rfl rfl lc_151 ?_
  exact e_rI rfl rfl
noncomputable def L_X12_lookWays_5 (en : pN) (d : Nat) (v1 : Int32) (v2 : Int32) (v3 : Int32) (v4 : Int32) (s : qS) : Option qR := qE (qev en d) en (some .int) tb_X12_lookWays (5, [(0, .ref 151), (1, .int v1), (2, .int v2), (3, .int v3), (4, .int v4)], []) s
noncomputable def L_X12_lookWays_57 (en : pN) (d : Nat) (v1 : Int32) (v2 : Int32) (v3 : Int32) (v4 : Int32) (vs1 : Int32) (vs2 : Int32) (s : qS) : Option qR := qE (qev en d) en (some .int) tb_X12_lookWays (57, [(0, .ref 151), (1, .int v1), (2, .int v2), (3, .int v3), (4, .int v4)], [.int vs2, .int vs1, .ref 235]) s
noncomputable def L_X12_lookWays_85 (en : pN) (d : Nat) (v2 : Int32) (v3 : Int32) (s : qS) : Option qR := qE (qev en d) en (some .int) tb_X12_lookWays (85, [(0, .ref 151), (2, .int v2), (3, .int v3)], []) s
noncomputable def L_X12_lookWays_109 (en : pN) (d : Nat) (v2 : Int32) (v3 : Int32) (v4 : Int32) (v5 : Int32) (s : qS) : Option qR := qE (qev en d) en (some .int) tb_X12_lookWays (109, [(0, .ref 151), (2, .int v2), (3, .int v3), (4, .int v4), (5, .int v5)], []) s
noncomputable def L_X12_lookWays_187 (en : pN) (d : Nat) (v2 : Int32) (v4 : Int32) (s : qS) : Option qR := qE (qev en d) en (some .int) tb_X12_lookWays (187, [(0, .ref 151), (2, .int v2), (4, .int v4)], []) s
noncomputable def L_X12_lookWays_237 (en : pN) (d : Nat) (v2 : Int32) (v4 : Int32) (vs1 : Int32) (vs2 : Int32) (s : qS) : Option qR := qE (qev en d) en (some .int) tb_X12_lookWays (237, [(0, .ref 151), (2, .int v2), (4, .int v4)], [.int vs2, .int vs1, .ref 236]) s
noncomputable def L_X12_lookWays_247 (en : pN) (d : Nat) (v4 : Int32) (s : qS) : Option qR := qE (qev en d) en (some .int) tb_X12_lookWays (247, [(0, .ref 151), (4, .int v4)], []) s
noncomputable def L_X12_lookWays_263 (en : pN) (d : Nat) (v4 : Int32) (v5 : Int32) (s : qS) : Option qR := qE (qev en d) en (some .int) tb_X12_lookWays (263, [(0, .ref 151), (4, .int v4), (5, .int v5)], []) s
noncomputable def L_X12_lookWays_286 (en : pN) (d : Nat) (v4 : Int32) (v5 : Int32) (v6 : Int32) (v7 : Int32) (s : qS) : Option qR := qE (qev en d) en (some .int) tb_X12_lookWays (286, [(0, .ref 151), (4, .int v4), (5, .int v5), (6, .int v6), (7, .int v7)], []) s
noncomputable def L_X12_lookWays_335 (en : pN) (d : Nat) (v4 : Int32) (v5 : Int32) (v6 : Int32) (s : qS) : Option qR := qE (qev en d) en (some .int) tb_X12_lookWays (335, [(0, .ref 151), (4, .int v4), (5, .int v5), (6, .int v6)], []) s
noncomputable def L_X12_lookWays_360 (en : pN) (d : Nat) (v5 : Int32) (v6 : Int32) (vs0 : Int32) (s : qS) : Option qR := qE (qev en d) en (some .int) tb_X12_lookWays (360, [(0, .ref 151), (5, .int v5), (6, .int v6)], [.int vs0]) s
noncomputable def L_X12_lookWays_383 (en : pN) (d : Nat) (v5 : Int32) (s : qS) : Option qR := qE (qev en d) en (some .int) tb_X12_lookWays (383, [(0, .ref 151), (5, .int v5)], []) s
set_option maxRecDepth 100000 in
set_option maxHeartbeats 4000000 in
theorem le_X12_lookWays_5 (en : pN) (d : Nat) (v1 : Int32) (v2 : Int32) (v3 : Int32) (v4 : Int32) (s : qS) : qle (if (s.1 151 101) ≤ v4 then L_X12_lookWays_85 en d v2 v3 s else gd (p_inB v4 20001 = true) (if ¬ (s.1 233 v4.toNatClampNeg) = (0 : Int32) then L_X12_lookWays_57 en d v1 v2 v3 v4 v4 (0 : Int32) s else if v1 = (0 : Int32) then if (s.1 234 v4.toNatClampNeg) = (0 : Int32) then L_X12_lookWays_57 en d v1 v2 v3 v4 v4 (0 : Int32) s else L_X12_lookWays_57 en d v1 v2 v3 v4 v4 (1 : Int32) s else if ¬ v4 = (0 : Int32) then L_X12_lookWays_57 en d v1 v2 v3 v4 v4 (0 : Int32) s else L_X12_lookWays_57 en d v1 v2 v3 v4 v4 (1 : Int32) s)) (L_X12_lookWays_5 en d v1 v2 v3 v4 s) := by
  show qle _ (qE (qev en d) en (some .int) tb_X12_lookWays (5, [(0, .ref 151), (1, .int v1), (2, .int v2), (3, .int v3), (4, .int v4)], []) s)
  refine e_L 2 (f' := (8, [(0, .ref 151), (1, .int v1), (2, .int v2), (3, .int v3), (4, .int v4)], [.ref 151, .int v4])) rfl ?_
  refine e_gI 12 101 rfl rfl lc_151 ?_
  refine e_icmp 85 rfl rfl rfl (fun c1 => ?_) (fun c1 => ?_)
  · exact qE_sub (qsubL [0, 2, 3] rfl (ks := [0, 1, 2, 3, 4]) rfl (by decide))
  · refine e_L 1 (f' := (15, [(0, .ref 151), (1, .int v1), (2, .int v2), (3, .int v3), (4, .int v4)], [.ref 151])) rfl ?_
    refine e_gR (q := 235) 12 134 rfl rfl lc_151 lr_151_134 ?_
    refine e_L 2 (f' := (21, [(0, .ref 151), (1, .int v1), (2, .int v2), (3, .int v3), (4, .int v4)], [.ref 151, .int v4, .ref 235])) rfl ?_
    refine e_gR (q := 233) 12 132 rfl rfl lc_151 lr_151_132 ?_
    refine e_L 1 (f' := (26, [(0, .ref 151), (1, .int v1), (2, .int v2), (3, .int v3), (4, .int v4)], [.int v4, .ref 233, .int v4, .ref 235])) rfl ?_
    refine qle_gd fun h2 => ?_
    refine e_bal (n := 20001) (k := v4.toNatClampNeg) rfl (Or.inl lc_233) ln_233 h2 rfl ?_
    refine e_ifz 56 rfl rfl rfl (fun c3 => ?_) (fun c3 => ?_)
    · refine e_L 1 (f' := (57, [(0, .ref 151), (1, .int v1), (2, .int v2), (3, .int v3), (4, .int v4)], [.int (0 : Int32), .int v4, .ref 235])) rfl ?_
      exact qE_sub (qsubL [0, 1, 2, 3, 4] rfl (ks := [0, 1, 2, 3, 4]) rfl (by decide))
    · refine e_L 1 (f' := (31, [(0, .ref 151), (1, .int v1), (2, .int v2), (3, .int v3), (4, .int v4)], [.int v1, .int v4, .ref 235])) rfl ?_
      refine e_ifz 42 rfl rfl rfl (fun c4 => ?_) (fun c4 => ?_)
      · refine e_L 1 (f' := (43, [(0, .ref 151), (1, .int v1), (2, .int v2), (3, .int v3), (4, .int v4)], [.ref 151, .int v4, .ref 235])) rfl ?_
        refine e_gR (q := 234) 12 133 rfl rfl lc_151 lr_151_133 ?_
        refine e_L 1 (f' := (48, [(0, .ref 151), (1, .int v1), (2, .int v2), (3, .int v3), (4, .int v4)], [.int v4, .ref 234, .int v4, .ref 235])) rfl ?_
        refine e_bal (n := 20001) (k := v4.toNatClampNeg) rfl (Or.inl lc_234) ln_234 h2 rfl ?_
        refine e_ifz 56 rfl rfl rfl (fun c5 => ?_) (fun c5 => ?_)
        · refine e_L 1 (f' := (57, [(0, .ref 151), (1, .int v1), (2, .int v2), (3, .int v3), (4, .int v4)], [.int (0 : Int32), .int v4, .ref 235])) rfl ?_
          exact qE_sub (qsubL [0, 1, 2, 3, 4] rfl (ks := [0, 1, 2, 3, 4]) rfl (by decide))
        · refine e_L 2 (f' := (57, [(0, .ref 151), (1, .int v1), (2, .int v2), (3, .int v3), (4, .int v4)], [.int (1 : Int32), .int v4, .ref 235])) rfl ?_
          exact qE_sub (qsubL [0, 1, 2, 3, 4] rfl (ks := [0, 1, 2, 3, 4]) rfl (by decide))
      · refine e_L 1 (f' := (36, [(0, .ref 151), (1, .int v1), (2, .int v2), (3, .int v3), (4, .int v4)], [.int v4, .int v4, .ref 235])) rfl ?_
        refine e_ifz 56 rfl rfl rfl (fun c6 => ?_) (fun c6 => ?_)
        · refine e_L 1 (f' := (57, [(0, .ref 151), (1, .int v1), (2, .int v2), (3, .int v3), (4, .int v4)], [.int (0 : Int32), .int v4, .ref 235])) rfl ?_
          exact qE_sub (qsubL [0, 1, 2, 3, 4] rfl (ks := [0, 1, 2, 3, 4]) rfl (by decide))
        · refine e_L 3 (f' := (57, [(0, .ref 151), (1, .int v1), (2, .int v2), (3, .int v3), (4, .int v4)], [.int (1 : Int32), .int v4, .ref 235])) rfl ?_
          exact qE_sub (qsubL [0, 1, 2, 3, 4] rfl (ks := [0, 1, 2, 3, 4]) rfl (by decide))
set_option maxRecDepth 100000 in
set_option maxHeartbeats 4000000 in
theorem le_X12_lookWays_57 (en : pN) (d : Nat) (v1 : Int32) (v2 : Int32) (v3 : Int32) (v4 : Int32) (vs1 : Int32) (vs2 : Int32) (s : qS) : qle (gd (p_inB vs1 20001 = true) (nm (uI s 235 (vs1.toNatClampNeg) (vp_nar .boolean vs2)) (fun s2 => gd (p_inB v4 20001 = true) (if (s2.1 235 v4.toNatClampNeg) = (0 : Int32) then L_X12_lookWays_5 en d v1 v2 v3 (v4 + (1 : Int32)) s2 else gd (p_inB v3 20001 = true) (nm (uI s2 237 (v3.toNatClampNeg) v4) (fun s6 => L_X12_lookWays_5 en d v1 v2 (v3 + (1 : Int32)) (v4 + (1 : Int32)) s6)))))) (L_X12_lookWays_57 en d v1 v2 v3 v4 vs1 vs2 s) := by
  show qle _ (qE (qev en d) en (some .int) tb_X12_lookWays (57, [(0, .ref 151), (1, .int v1), (2, .int v2), (3, .int v3), (4, .int v4)], [.int vs2, .int vs1, .ref 235]) s)
  refine qle_gd fun h1 => ?_
  refine e_bas (n := 20001) (k := vs1.toNatClampNeg) rfl lc_235 ln_235 h1 rfl ?_
  refine e_nS fun s2 => ?_
  refine e_L 1 (f' := (59, [(0, .ref 151), (1, .int v1), (2, .int v2), (3, .int v3), (4, .int v4)], [.ref 151])) rfl ?_
  refine e_gR (q := 235) 12 134 rfl rfl lc_151 lr_151_134 ?_
  refine e_L 1 (f' := (64, [(0, .ref 151), (1, .int v1), (2, .int v2), (3, .int v3), (4, .int v4)], [.int v4, .ref 235])) rfl ?_
  refine qle_gd fun h3 => ?_
  refine e_bal (n := 20001) (k := v4.toNatClampNeg) rfl (Or.inl lc_235) ln_235 h3 rfl ?_
  refine e_ifz 79 rfl rfl rfl (fun c4 => ?_) (fun c4 => ?_)
  · refine e_L 2 (f' := (5, [(4, .int (v4 + (1 : Int32))), (0, .ref 151), (1, .int v1), (2, .int v2), (3, .int v3)], [])) rfl ?_
    exact qE_sub (qsubL [1, 2, 3, 4, 0] rfl (ks := [4, 0, 1, 2, 3]) rfl (by decide))
  · refine e_L 1 (f' := (69, [(0, .ref 151), (1, .int v1), (2, .int v2), (3, .int v3), (4, .int v4)], [.ref 151])) rfl ?_
    refine e_gR (q := 237) 12 136 rfl rfl lc_151 lr_151_136 ?_
    refine e_L 2 (f' := (75, [(0, .ref 151), (1, .int v1), (2, .int v2), (3, .int v3), (4, .int v4)], [.int v4, .int v3, .ref 237])) rfl ?_
    refine qle_gd fun h5 => ?_
    refine e_ias (n := 20001) (k := v3.toNatClampNeg) rfl lc_237 ln_237 h5 rfl ?_
    refine e_nS fun s6 => ?_
    refine e_L 3 (f' := (5, [(4, .int (v4 + (1 : Int32))), (3, .int (v3 + (1 : Int32))), (0, .ref 151), (1, .int v1), (2, .int v2)], [])) rfl ?_
    exact qE_sub (qsubL [2, 3, 4, 1, 0] rfl (ks := [4, 3, 0, 1, 2]) rfl (by decide))
set_option maxRecDepth 100000 in
set_option maxHeartbeats 4000000 in
theorem le_X12_lookWays_85 (en : pN) (d : Nat) (v2 : Int32) (v3 : Int32) (s : qS) : qle (if v3 ≤ (0 : Int32) then bV (qev en d 395 [.ref 151] s) (fun s3 => L_X12_lookWays_187 en d v2 (0 : Int32) s3) else gd (p_inB (v3 + (-1 : Int32)) 20001 = true) (nm (s.1 237 (v3 + (-1 : Int32)).toNatClampNeg) (fun z6 => gd (p_inB z6 20002 = true) (nm (s.1 218 z6.toNatClampNeg) (fun z8 => L_X12_lookWays_109 en d v2 (v3 + (-1 : Int32)) z6 z8 s))))) (L_X12_lookWays_85 en d v2 v3 s) := by
  show qle _ (qE (qev en d) en (some .int) tb_X12_lookWays (85, [(0, .ref 151), (2, .int v2), (3, .int v3)], []) s)
  refine e_L 1 (f' := (86, [(0, .ref 151), (2, .int v2), (3, .int v3)], [.int v3])) rfl ?_
  refine e_ifz 180 rfl rfl rfl (fun c1 => ?_) (fun c1 => ?_)
  · refine e_L 1 (f' := (181, [(0, .ref 151), (2, .int v2), (3, .int v3)], [.ref 151])) rfl ?_
    refine e_vV 395 rfl rfl ix_X12_layParts rfl (q_recvOf lc_151 rfl) (Nat.le_of_ble_eq_true rfl) (fun s3 e4 => ?_)
    refine e_L 2 (f' := (187, [(4, .int (0 : Int32)), (0, .ref 151), (2, .int v2), (3, .int v3)], [])) rfl ?_
    exact qE_sub (qsubL [1, 2, 0] rfl (ks := [4, 0, 2, 3]) rfl (by decide))
  · refine e_L 2 (f' := (93, [(3, .int (v3 + (-1 : Int32))), (0, .ref 151), (2, .int v2)], [.ref 151])) rfl ?_
    refine e_gR (q := 237) 12 136 rfl rfl lc_151 lr_151_136 ?_
    refine e_L 1 (f' := (97, [(3, .int (v3 + (-1 : Int32))), (0, .ref 151), (2, .int v2)], [.int (v3 + (-1 : Int32)), .ref 237])) rfl ?_
    refine qle_gd fun h5 => ?_
    refine e_ial (n := 20001) (k := (v3 + (-1 : Int32)).toNatClampNeg) rfl lc_237 ln_237 h5 rfl ?_
    refine e_nI fun z6 => ?_
    refine e_L 2 (f' := (101, [(4, .int z6), (3, .int (v3 + (-1 : Int32))), (0, .ref 151), (2, .int v2)], [.ref 151])) rfl ?_
    refine e_gR (q := 218) 12 112 rfl rfl lc_151 lr_151_112 ?_
    refine e_L 1 (f' := (106, [(4, .int z6), (3, .int (v3 + (-1 : Int32))), (0, .ref 151), (2, .int v2)], [.int z6, .ref 218])) rfl ?_
    refine qle_gd fun h7 => ?_
    refine e_ial (n := 20002) (k := z6.toNatClampNeg) rfl lc_218 ln_218 h7 rfl ?_
    refine e_nI fun z8 => ?_
    refine e_L 1 (f' := (109, [(5, .int z8), (4, .int z6), (3, .int (v3 + (-1 : Int32))), (0, .ref 151), (2, .int v2)], [])) rfl ?_
    exact qE_sub (qsubL [3, 4, 2, 1, 0] rfl (ks := [5, 4, 3, 0, 2]) rfl (by decide))
set_option maxRecDepth 100000 in
set_option maxHeartbeats 4000000 in
theorem le_X12_lookWays_109 (en : pN) (d : Nat) (v2 : Int32) (v3 : Int32) (v4 : Int32) (v5 : Int32) (s : qS) : qle (gd (p_inB (v4 + (1 : Int32)) 20002 = true) (if (s.1 218 (v4 + (1 : Int32)).toNatClampNeg) ≤ v5 then L_X12_lookWays_85 en d v2 v3 s else gd (p_inB v5 200001 = true) (nm (s.1 219 v5.toNatClampNeg) (fun z4 => gd (p_inB z4 20001 = true) (if ¬ (s.1 233 z4.toNatClampNeg) = (0 : Int32) then L_X12_lookWays_109 en d v2 v3 v4 (v5 + (1 : Int32)) s else if ¬ (s.1 235 z4.toNatClampNeg) = (0 : Int32) then L_X12_lookWays_109 en d v2 v3 v4 (v5 + (1 : Int32)) s else nm (uI s 235 (z4.toNatClampNeg) (vp_nar .boolean (1 : Int32))) (fun s8 => gd (p_inB v3 20001 = true) (nm (uI s8 237 (v3.toNatClampNeg) z4) (fun s10 => L_X12_lookWays_109 en d v2 (v3 + (1 : Int32)) v4 (v5 + (1 : Int32)) s10)))))))) (L_X12_lookWays_109 en d v2 v3 v4 v5 s) := by
  show qle _ (qE (qev en d) en (some .int) tb_X12_lookWays (109, [(0, .ref 151), (2, .int v2), (3, .int v3), (4, .int v4), (5, .int v5)], []) s)
  refine e_L 2 (f' := (112, [(0, .ref 151), (2, .int v2), (3, .int v3), (4, .int v4), (5, .int v5)], [.ref 151, .int v5])) rfl ?_
  refine e_gR (q := 218) 12 112 rfl rfl lc_151 lr_151_112 ?_
  refine e_L 3 (f' := (119, [(0, .ref 151), (2, .int v2), (3, .int v3), (4, .int v4), (5, .int v5)], [.int (v4 + (1 : Int32)), .ref 218, .int v5])) rfl ?_
  refine qle_gd fun h1 => ?_
  refine e_ial (n := 20002) (k := (v4 + (1 : Int32)).toNatClampNeg) rfl lc_218 ln_218 h1 rfl ?_
  refine e_icmp 177 rfl rfl rfl (fun c2 => ?_) (fun c2 => ?_)
  · refine e_L 1 (f' := (85, [(0, .ref 151), (2, .int v2), (3, .int v3), (4, .int v4), (5, .int v5)], [])) rfl ?_
    exact qE_sub (qsubL [0, 1, 2] rfl (ks := [0, 2, 3, 4, 5]) rfl (by decide))
  · refine e_L 1 (f' := (124, [(0, .ref 151), (2, .int v2), (3, .int v3), (4, .int v4), (5, .int v5)], [.ref 151])) rfl ?_
    refine e_gR (q := 219) 12 113 rfl rfl lc_151 lr_151_113 ?_
    refine e_L 1 (f' := (129, [(0, .ref 151), (2, .int v2), (3, .int v3), (4, .int v4), (5, .int v5)], [.int v5, .ref 219])) rfl ?_
    refine qle_gd fun h3 => ?_
    refine e_ial (n := 200001) (k := v5.toNatClampNeg) rfl lc_219 ln_219 h3 rfl ?_
    refine e_nI fun z4 => ?_
    refine e_L 2 (f' := (133, [(6, .int z4), (0, .ref 151), (2, .int v2), (3, .int v3), (4, .int v4), (5, .int v5)], [.ref 151])) rfl ?_
    refine e_gR (q := 233) 12 132 rfl rfl lc_151 lr_151_132 ?_
    refine e_L 1 (f' := (138, [(6, .int z4), (0, .ref 151), (2, .int v2), (3, .int v3), (4, .int v4), (5, .int v5)], [.int z4, .ref 233])) rfl ?_
    refine qle_gd fun h5 => ?_
    refine e_bal (n := 20001) (k := z4.toNatClampNeg) rfl (Or.inl lc_233) ln_233 h5 rfl ?_
    refine e_ifz 171 rfl rfl rfl (fun c6 => ?_) (fun c6 => ?_)
    · refine e_L 2 (f' := (109, [(5, .int (v5 + (1 : Int32))), (6, .int z4), (0, .ref 151), (2, .int v2), (3, .int v3), (4, .int v4)], [])) rfl ?_
      exact qE_sub (qsubL [2, 3, 4, 5, 0] rfl (ks := [5, 6, 0, 2, 3, 4]) rfl (by decide))
    · refine e_L 1 (f' := (143, [(6, .int z4), (0, .ref 151), (2, .int v2), (3, .int v3), (4, .int v4), (5, .int v5)], [.ref 151])) rfl ?_
      refine e_gR (q := 235) 12 134 rfl rfl lc_151 lr_151_134 ?_
      refine e_L 1 (f' := (148, [(6, .int z4), (0, .ref 151), (2, .int v2), (3, .int v3), (4, .int v4), (5, .int v5)], [.int z4, .ref 235])) rfl ?_
      refine e_bal (n := 20001) (k := z4.toNatClampNeg) rfl (Or.inl lc_235) ln_235 h5 rfl ?_
      refine e_ifz 171 rfl rfl rfl (fun c7 => ?_) (fun c7 => ?_)
      · refine e_L 2 (f' := (109, [(5, .int (v5 + (1 : Int32))), (6, .int z4), (0, .ref 151), (2, .int v2), (3, .int v3), (4, .int v4)], [])) rfl ?_
        exact qE_sub (qsubL [2, 3, 4, 5, 0] rfl (ks := [5, 6, 0, 2, 3, 4]) rfl (by decide))
      · refine e_L 1 (f' := (153, [(6, .int z4), (0, .ref 151), (2, .int v2), (3, .int v3), (4, .int v4), (5, .int v5)], [.ref 151])) rfl ?_
        refine e_gR (q := 235) 12 134 rfl rfl lc_151 lr_151_134 ?_
        refine e_L 2 (f' := (159, [(6, .int z4), (0, .ref 151), (2, .int v2), (3, .int v3), (4, .int v4), (5, .int v5)], [.int (1 : Int32), .int z4, .ref 235])) rfl ?_
        refine e_bas (n := 20001) (k := z4.toNatClampNeg) rfl lc_235 ln_235 h5 rfl ?_
        refine e_nS fun s8 => ?_
        refine e_L 1 (f' := (161, [(6, .int z4), (0, .ref 151), (2, .int v2), (3, .int v3), (4, .int v4), (5, .int v5)], [.ref 151])) rfl ?_
        refine e_gR (q := 237) 12 136 rfl rfl lc_151 lr_151_136 ?_
        refine e_L 2 (f' := (167, [(6, .int z4), (0, .ref 151), (2, .int v2), (3, .int v3), (4, .int v4), (5, .int v5)], [.int z4, .int v3, .ref 237])) rfl ?_
        refine qle_gd fun h9 => ?_
        refine e_ias (n := 20001) (k := v3.toNatClampNeg) rfl lc_237 ln_237 h9 rfl ?_
        refine e_nS fun s10 => ?_
        refine e_L 3 (f' := (109, [(5, .int (v5 + (1 : Int32))), (3, .int (v3 + (1 : Int32))), (6, .int z4), (0, .ref 151), (2, .int v2), (4, .int v4)], [])) rfl ?_
        exact qE_sub (qsubL [3, 4, 1, 5, 0] rfl (ks := [5, 3, 6, 0, 2, 4]) rfl (by decide))
set_option maxRecDepth 100000 in
set_option maxHeartbeats 4000000 in
theorem le_X12_lookWays_187 (en : pN) (d : Nat) (v2 : Int32) (v4 : Int32) (s : qS) : qle (if (s.1 151 101) ≤ v4 then L_X12_lookWays_247 en d (1 : Int32) s else gd (p_inB v4 20001 = true) (if ¬ (s.1 233 v4.toNatClampNeg) = (0 : Int32) then L_X12_lookWays_237 en d v2 v4 v4 (0 : Int32) s else if ¬ (s.1 216 v4.toNatClampNeg) = (0 : Int32) then L_X12_lookWays_237 en d v2 v4 v4 (1 : Int32) s else bI (qev en d 396 [.ref 151, .int v4, .int v2] s) (fun w5 s6 => if w5 = (0 : Int32) then L_X12_lookWays_237 en d v2 v4 v4 (0 : Int32) s6 else L_X12_lookWays_237 en d v2 v4 v4 (1 : Int32) s6))) (L_X12_lookWays_187 en d v2 v4 s) := by
  show qle _ (qE (qev en d) en (some .int) tb_X12_lookWays (187, [(0, .ref 151), (2, .int v2), (4, .int v4)], []) s)
  refine e_L 2 (f' := (190, [(0, .ref 151), (2, .int v2), (4, .int v4)], [.ref 151, .int v4])) rfl ?_
  refine e_gI 12 101 rfl rfl lc_151 ?_
  refine e_icmp 244 rfl rfl rfl (fun c1 => ?_) (fun c1 => ?_)
  · refine e_L 2 (f' := (247, [(4, .int (1 : Int32)), (0, .ref 151), (2, .int v2)], [])) rfl ?_
    exact qE_sub (qsubL [1, 0] rfl (ks := [4, 0, 2]) rfl (by decide))
  · refine e_L 1 (f' := (197, [(0, .ref 151), (2, .int v2), (4, .int v4)], [.ref 151])) rfl ?_
    refine e_gR (q := 236) 12 135 rfl rfl lc_151 lr_151_135 ?_
    refine e_L 2 (f' := (203, [(0, .ref 151), (2, .int v2), (4, .int v4)], [.ref 151, .int v4, .ref 236])) rfl ?_
    refine e_gR (q := 233) 12 132 rfl rfl lc_151 lr_151_132 ?_
    refine e_L 1 (f' := (208, [(0, .ref 151), (2, .int v2), (4, .int v4)], [.int v4, .ref 233, .int v4, .ref 236])) rfl ?_
    refine qle_gd fun h2 => ?_
    refine e_bal (n := 20001) (k := v4.toNatClampNeg) rfl (Or.inl lc_233) ln_233 h2 rfl ?_
    refine e_ifz 236 rfl rfl rfl (fun c3 => ?_) (fun c3 => ?_)
    · refine e_L 1 (f' := (237, [(0, .ref 151), (2, .int v2), (4, .int v4)], [.int (0 : Int32), .int v4, .ref 236])) rfl ?_
      exact qE_sub (qsubL [0, 1, 2] rfl (ks := [0, 2, 4]) rfl (by decide))
    · refine e_L 1 (f' := (213, [(0, .ref 151), (2, .int v2), (4, .int v4)], [.ref 151, .int v4, .ref 236])) rfl ?_
      refine e_gR (q := 216) 12 110 rfl rfl lc_151 lr_151_110 ?_
      refine e_L 1 (f' := (218, [(0, .ref 151), (2, .int v2), (4, .int v4)], [.int v4, .ref 216, .int v4, .ref 236])) rfl ?_
      refine e_bal (n := 20001) (k := v4.toNatClampNeg) rfl (Or.inl lc_216) ln_216 h2 rfl ?_
      refine e_ifz 232 rfl rfl rfl (fun c4 => ?_) (fun c4 => ?_)
      · refine e_L 2 (f' := (237, [(0, .ref 151), (2, .int v2), (4, .int v4)], [.int (1 : Int32), .int v4, .ref 236])) rfl ?_
        exact qE_sub (qsubL [0, 1, 2] rfl (ks := [0, 2, 4]) rfl (by decide))
      · refine e_L 3 (f' := (226, [(0, .ref 151), (2, .int v2), (4, .int v4)], [.int v2, .int v4, .ref 151, .int v4, .ref 236])) rfl ?_
        refine e_vI 396 rfl rfl ix_X12_isLasting rfl (q_recvOf lc_151 rfl) (Nat.le_of_ble_eq_true rfl) (fun w5 s6 e7 => ?_)
        refine e_ifz 236 rfl rfl rfl (fun c8 => ?_) (fun c8 => ?_)
        · refine e_L 1 (f' := (237, [(0, .ref 151), (2, .int v2), (4, .int v4)], [.int (0 : Int32), .int v4, .ref 236])) rfl ?_
          exact qE_sub (qsubL [0, 1, 2] rfl (ks := [0, 2, 4]) rfl (by decide))
        · refine e_L 2 (f' := (237, [(0, .ref 151), (2, .int v2), (4, .int v4)], [.int (1 : Int32), .int v4, .ref 236])) rfl ?_
          exact qE_sub (qsubL [0, 1, 2] rfl (ks := [0, 2, 4]) rfl (by decide))
set_option maxRecDepth 100000 in
set_option maxHeartbeats 4000000 in
theorem le_X12_lookWays_237 (en : pN) (d : Nat) (v2 : Int32) (v4 : Int32) (vs1 : Int32) (vs2 : Int32) (s : qS) : qle (gd (p_inB vs1 20001 = true) (nm (uI s 236 (vs1.toNatClampNeg) (vp_nar .boolean vs2)) (fun s2 => L_X12_lookWays_187 en d v2 (v4 + (1 : Int32)) s2))) (L_X12_lookWays_237 en d v2 v4 vs1 vs2 s) := by
  show qle _ (qE (qev en d) en (some .int) tb_X12_lookWays (237, [(0, .ref 151), (2, .int v2), (4, .int v4)], [.int vs2, .int vs1, .ref 236]) s)
  refine qle_gd fun h1 => ?_
  refine e_bas (n := 20001) (k := vs1.toNatClampNeg) rfl lc_236 ln_236 h1 rfl ?_
  refine e_nS fun s2 => ?_
  refine e_L 2 (f' := (187, [(4, .int (v4 + (1 : Int32))), (0, .ref 151), (2, .int v2)], [])) rfl ?_
  exact qE_sub (qsubL [1, 2, 0] rfl (ks := [4, 0, 2]) rfl (by decide))
set_option maxRecDepth 100000 in
set_option maxHeartbeats 4000000 in
theorem le_X12_lookWays_247 (en : pN) (d : Nat) (v4 : Int32) (s : qS) : qle (if v4 = (0 : Int32) then L_X12_lookWays_383 en d (0 : Int32) s else nm ((s.1 151 101) - (1 : Int32)) (fun z2 => L_X12_lookWays_263 en d (0 : Int32) z2 s)) (L_X12_lookWays_247 en d v4 s) := by
  show qle _ (qE (qev en d) en (some .int) tb_X12_lookWays (247, [(0, .ref 151), (4, .int v4)], []) s)
  refine e_L 1 (f' := (249, [(0, .ref 151), (4, .int v4)], [.int v4])) rfl ?_
  refine e_ifz 380 rfl rfl rfl (fun c1 => ?_) (fun c1 => ?_)
  · refine e_L 2 (f' := (383, [(5, .int (0 : Int32)), (0, .ref 151), (4, .int v4)], [])) rfl ?_
    exact qE_sub (qsubL [1, 0] rfl (ks := [5, 0, 4]) rfl (by decide))
  · refine e_L 3 (f' := (256, [(4, .int (0 : Int32)), (0, .ref 151)], [.ref 151])) rfl ?_
    refine e_gI 12 101 rfl rfl lc_151 ?_
    refine e_L 2 (f' := (261, [(4, .int (0 : Int32)), (0, .ref 151)], [.int ((s.1 151 101) - (1 : Int32))])) rfl ?_
    refine e_nI fun z2 => ?_
    refine e_L 1 (f' := (263, [(5, .int z2), (4, .int (0 : Int32)), (0, .ref 151)], [])) rfl ?_
    exact qE_sub (qsubL [2, 1, 0] rfl (ks := [5, 4, 0]) rfl (by decide))
set_option maxRecDepth 100000 in
set_option maxHeartbeats 4000000 in
theorem le_X12_lookWays_263 (en : pN) (d : Nat) (v4 : Int32) (v5 : Int32) (s : qS) : qle (if v5 < (0 : Int32) then L_X12_lookWays_247 en d v4 s else gd (p_inB v5 20001 = true) (nm (s.1 236 v5.toNatClampNeg) (fun z3 => gd (p_inB v5 20002 = true) (nm (s.1 218 v5.toNatClampNeg) (fun z5 => L_X12_lookWays_286 en d v4 v5 z3 z5 s))))) (L_X12_lookWays_263 en d v4 v5 s) := by
  show qle _ (qE (qev en d) en (some .int) tb_X12_lookWays (263, [(0, .ref 151), (4, .int v4), (5, .int v5)], []) s)
  refine e_L 1 (f' := (265, [(0, .ref 151), (4, .int v4), (5, .int v5)], [.int v5])) rfl ?_
  refine e_ifz 377 rfl rfl rfl (fun c1 => ?_) (fun c1 => ?_)
  · refine e_L 1 (f' := (247, [(0, .ref 151), (4, .int v4), (5, .int v5)], [])) rfl ?_
    exact qE_sub (qsubL [0, 1] rfl (ks := [0, 4, 5]) rfl (by decide))
  · refine e_L 1 (f' := (269, [(0, .ref 151), (4, .int v4), (5, .int v5)], [.ref 151])) rfl ?_
    refine e_gR (q := 236) 12 135 rfl rfl lc_151 lr_151_135 ?_
    refine e_L 1 (f' := (274, [(0, .ref 151), (4, .int v4), (5, .int v5)], [.int v5, .ref 236])) rfl ?_
    refine qle_gd fun h2 => ?_
    refine e_bal (n := 20001) (k := v5.toNatClampNeg) rfl (Or.inl lc_236) ln_236 h2 rfl ?_
    refine e_nI fun z3 => ?_
    refine e_L 2 (f' := (278, [(6, .int z3), (0, .ref 151), (4, .int v4), (5, .int v5)], [.ref 151])) rfl ?_
    refine e_gR (q := 218) 12 112 rfl rfl lc_151 lr_151_112 ?_
    refine e_L 1 (f' := (283, [(6, .int z3), (0, .ref 151), (4, .int v4), (5, .int v5)], [.int v5, .ref 218])) rfl ?_
    refine qle_gd fun h4 => ?_
    refine e_ial (n := 20002) (k := v5.toNatClampNeg) rfl lc_218 ln_218 h4 rfl ?_
    refine e_nI fun z5 => ?_
    refine e_L 1 (f' := (286, [(7, .int z5), (6, .int z3), (0, .ref 151), (4, .int v4), (5, .int v5)], [])) rfl ?_
    exact qE_sub (qsubL [2, 3, 4, 1, 0] rfl (ks := [7, 6, 0, 4, 5]) rfl (by decide))
set_option maxRecDepth 100000 in
set_option maxHeartbeats 4000000 in
theorem le_X12_lookWays_286 (en : pN) (d : Nat) (v4 : Int32) (v5 : Int32) (v6 : Int32) (v7 : Int32) (s : qS) : qle (gd (p_inB (v5 + (1 : Int32)) 20002 = true) (if (s.1 218 (v5 + (1 : Int32)).toNatClampNeg) ≤ v7 then L_X12_lookWays_335 en d v4 v5 v6 s else if ¬ v6 = (0 : Int32) then L_X12_lookWays_335 en d v4 v5 v6 s else gd (p_inB v5 20001 = true) (if ¬ (s.1 233 v5.toNatClampNeg) = (0 : Int32) then L_X12_lookWays_335 en d v4 v5 v6 s else gd (p_inB v7 200001 = true) (gd (p_inB (s.1 219 v7.toNatClampNeg) 20001 = true) (nm (s.1 236 (s.1 219 v7.toNatClampNeg).toNatClampNeg) (fun z8 => L_X12_lookWays_286 en d v4 v5 z8 (v7 + (1 : Int32)) s)))))) (L_X12_lookWays_286 en d v4 v5 v6 v7 s) := by
  show qle _ (qE (qev en d) en (some .int) tb_X12_lookWays (286, [(0, .ref 151), (4, .int v4), (5, .int v5), (6, .int v6), (7, .int v7)], []) s)
  refine e_L 2 (f' := (289, [(0, .ref 151), (4, .int v4), (5, .int v5), (6, .int v6), (7, .int v7)], [.ref 151, .int v7])) rfl ?_
  refine e_gR (q := 218) 12 112 rfl rfl lc_151 lr_151_112 ?_
  refine e_L 3 (f' := (296, [(0, .ref 151), (4, .int v4), (5, .int v5), (6, .int v6), (7, .int v7)], [.int (v5 + (1 : Int32)), .ref 218, .int v7])) rfl ?_
  refine qle_gd fun h1 => ?_
  refine e_ial (n := 20002) (k := (v5 + (1 : Int32)).toNatClampNeg) rfl lc_218 ln_218 h1 rfl ?_
  refine e_icmp 335 rfl rfl rfl (fun c2 => ?_) (fun c2 => ?_)
  · exact qE_sub (qsubL [0, 1, 2, 3] rfl (ks := [0, 4, 5, 6, 7]) rfl (by decide))
  · refine e_L 1 (f' := (302, [(0, .ref 151), (4, .int v4), (5, .int v5), (6, .int v6), (7, .int v7)], [.int v6])) rfl ?_
    refine e_ifz 335 rfl rfl rfl (fun c3 => ?_) (fun c3 => ?_)
    · exact qE_sub (qsubL [0, 1, 2, 3] rfl (ks := [0, 4, 5, 6, 7]) rfl (by decide))
    · refine e_L 1 (f' := (306, [(0, .ref 151), (4, .int v4), (5, .int v5), (6, .int v6), (7, .int v7)], [.ref 151])) rfl ?_
      refine e_gR (q := 233) 12 132 rfl rfl lc_151 lr_151_132 ?_
      refine e_L 1 (f' := (311, [(0, .ref 151), (4, .int v4), (5, .int v5), (6, .int v6), (7, .int v7)], [.int v5, .ref 233])) rfl ?_
      refine qle_gd fun h4 => ?_
      refine e_bal (n := 20001) (k := v5.toNatClampNeg) rfl (Or.inl lc_233) ln_233 h4 rfl ?_
      refine e_ifz 335 rfl rfl rfl (fun c5 => ?_) (fun c5 => ?_)
      · exact qE_sub (qsubL [0, 1, 2, 3] rfl (ks := [0, 4, 5, 6, 7]) rfl (by decide))
      · refine e_L 1 (f' := (316, [(0, .ref 151), (4, .int v4), (5, .int v5), (6, .int v6), (7, .int v7)], [.ref 151])) rfl ?_
        refine e_gR (q := 236) 12 135 rfl rfl lc_151 lr_151_135 ?_
        refine e_L 1 (f' := (320, [(0, .ref 151), (4, .int v4), (5, .int v5), (6, .int v6), (7, .int v7)], [.ref 151, .ref 236])) rfl ?_
        refine e_gR (q := 219) 12 113 rfl rfl lc_151 lr_151_113 ?_
        refine e_L 1 (f' := (325, [(0, .ref 151), (4, .int v4), (5, .int v5), (6, .int v6), (7, .int v7)], [.int v7, .ref 219, .ref 236])) rfl ?_
        refine qle_gd fun h6 => ?_
        refine e_ial (n := 200001) (k := v7.toNatClampNeg) rfl lc_219 ln_219 h6 rfl ?_
        refine qle_gd fun h7 => ?_
        refine e_bal (n := 20001) (k := (s.1 219 v7.toNatClampNeg).toNatClampNeg) rfl (Or.inl lc_236) ln_236 h7 rfl ?_
        refine e_nI fun z8 => ?_
        refine e_L 3 (f' := (286, [(7, .int (v7 + (1 : Int32))), (6, .int z8), (0, .ref 151), (4, .int v4), (5, .int v5)], [])) rfl ?_
        exact qE_sub (qsubL [2, 3, 4, 1, 0] rfl (ks := [7, 6, 0, 4, 5]) rfl (by decide))
set_option maxRecDepth 100000 in
set_option maxHeartbeats 4000000 in
theorem le_X12_lookWays_335 (en : pN) (d : Nat) (v4 : Int32) (v5 : Int32) (v6 : Int32) (s : qS) : qle (if ¬ v4 = (0 : Int32) then L_X12_lookWays_360 en d v5 v6 (1 : Int32) s else if v6 = (0 : Int32) then L_X12_lookWays_360 en d v5 v6 (0 : Int32) s else gd (p_inB v5 20001 = true) (if ¬ (s.1 236 v5.toNatClampNeg) = (0 : Int32) then L_X12_lookWays_360 en d v5 v6 (0 : Int32) s else L_X12_lookWays_360 en d v5 v6 (1 : Int32) s)) (L_X12_lookWays_335 en d v4 v5 v6 s) := by
  show qle _ (qE (qev en d) en (some .int) tb_X12_lookWays (335, [(0, .ref 151), (4, .int v4), (5, .int v5), (6, .int v6)], []) s)
  refine e_L 1 (f' := (337, [(0, .ref 151), (4, .int v4), (5, .int v5), (6, .int v6)], [.int v4])) rfl ?_
  refine e_ifz 355 rfl rfl rfl (fun c1 => ?_) (fun c1 => ?_)
  · refine e_L 2 (f' := (360, [(0, .ref 151), (4, .int v4), (5, .int v5), (6, .int v6)], [.int (1 : Int32)])) rfl ?_
    exact qE_sub (qsubL [0, 2, 3] rfl (ks := [0, 4, 5, 6]) rfl (by decide))
  · refine e_L 1 (f' := (342, [(0, .ref 151), (4, .int v4), (5, .int v5), (6, .int v6)], [.int v6])) rfl ?_
    refine e_ifz 359 rfl rfl rfl (fun c2 => ?_) (fun c2 => ?_)
    · refine e_L 1 (f' := (360, [(0, .ref 151), (4, .int v4), (5, .int v5), (6, .int v6)], [.int (0 : Int32)])) rfl ?_
      exact qE_sub (qsubL [0, 2, 3] rfl (ks := [0, 4, 5, 6]) rfl (by decide))
    · refine e_L 1 (f' := (346, [(0, .ref 151), (4, .int v4), (5, .int v5), (6, .int v6)], [.ref 151])) rfl ?_
      refine e_gR (q := 236) 12 135 rfl rfl lc_151 lr_151_135 ?_
      refine e_L 1 (f' := (351, [(0, .ref 151), (4, .int v4), (5, .int v5), (6, .int v6)], [.int v5, .ref 236])) rfl ?_
      refine qle_gd fun h3 => ?_
      refine e_bal (n := 20001) (k := v5.toNatClampNeg) rfl (Or.inl lc_236) ln_236 h3 rfl ?_
      refine e_ifz 359 rfl rfl rfl (fun c4 => ?_) (fun c4 => ?_)
      · refine e_L 1 (f' := (360, [(0, .ref 151), (4, .int v4), (5, .int v5), (6, .int v6)], [.int (0 : Int32)])) rfl ?_
        exact qE_sub (qsubL [0, 2, 3] rfl (ks := [0, 4, 5, 6]) rfl (by decide))
      · refine e_L 2 (f' := (360, [(0, .ref 151), (4, .int v4), (5, .int v5), (6, .int v6)], [.int (1 : Int32)])) rfl ?_
        exact qE_sub (qsubL [0, 2, 3] rfl (ks := [0, 4, 5, 6]) rfl (by decide))
set_option maxRecDepth 100000 in
set_option maxHeartbeats 4000000 in
theorem le_X12_lookWays_360 (en : pN) (d : Nat) (v5 : Int32) (v6 : Int32) (vs0 : Int32) (s : qS) : qle (gd (p_inB v5 20001 = true) (nm (uI s 236 (v5.toNatClampNeg) (vp_nar .boolean v6)) (fun s2 => L_X12_lookWays_263 en d vs0 (v5 + (-1 : Int32)) s2))) (L_X12_lookWays_360 en d v5 v6 vs0 s) := by
  show qle _ (qE (qev en d) en (some .int) tb_X12_lookWays (360, [(0, .ref 151), (5, .int v5), (6, .int v6)], [.int vs0]) s)
  refine e_L 2 (f' := (363, [(4, .int vs0), (0, .ref 151), (5, .int v5), (6, .int v6)], [.ref 151])) rfl ?_
  refine e_gR (q := 236) 12 135 rfl rfl lc_151 lr_151_135 ?_
  refine e_L 2 (f' := (370, [(4, .int vs0), (0, .ref 151), (5, .int v5), (6, .int v6)], [.int v6, .int v5, .ref 236])) rfl ?_
  refine qle_gd fun h1 => ?_
  refine e_bas (n := 20001) (k := v5.toNatClampNeg) rfl lc_236 ln_236 h1 rfl ?_
  refine e_nS fun s2 => ?_
  refine e_L 2 (f' := (263, [(5, .int (v5 + (-1 : Int32))), (4, .int vs0), (0, .ref 151), (6, .int v6)], [])) rfl ?_
  exact qE_sub (qsubL [2, 1, 0] rfl (ks := [5, 4, 0, 6]) rfl (by decide))
set_option maxRecDepth 100000 in
set_option maxHeartbeats 4000000 in
theorem le_X12_lookWays_383 (en : pN) (d : Nat) (v5 : Int32) (s : qS) : qle (if (s.1 151 101) ≤ v5 then some (some (.int (-2 : Int32)), s) else gd (p_inB v5 20001 = true) (if (s.1 235 v5.toNatClampNeg) = (0 : Int32) then L_X12_lookWays_383 en d (v5 + (1 : Int32)) s else if (s.1 236 v5.toNatClampNeg) = (0 : Int32) then L_X12_lookWays_383 en d (v5 + (1 : Int32)) s else some (some (.int v5), s))) (L_X12_lookWays_383 en d v5 s) := by
  show qle _ (qE (qev en d) en (some .int) tb_X12_lookWays (383, [(0, .ref 151), (5, .int v5)], []) s)
  refine e_L 2 (f' := (386, [(0, .ref 151), (5, .int v5)], [.ref 151, .int v5])) rfl ?_
  refine e_gI 12 101 rfl rfl lc_151 ?_
  refine e_icmp 421 rfl rfl rfl (fun c1 => ?_) (fun c1 => ?_)
  · refine e_L 1 (f' := (423, [(0, .ref 151), (5, .int v5)], [.int (-2 : Int32)])) rfl ?_
    exact e_rI rfl rfl
  · refine e_L 1 (f' := (393, [(0, .ref 151), (5, .int v5)], [.ref 151])) rfl ?_
    refine e_gR (q := 235) 12 134 rfl rfl lc_151 lr_151_134 ?_
    refine e_L 1 (f' := (398, [(0, .ref 151), (5, .int v5)], [.int v5, .ref 235])) rfl ?_
    refine qle_gd fun h2 => ?_
    refine e_bal (n := 20001) (k := v5.toNatClampNeg) rfl (Or.inl lc_235) ln_235 h2 rfl ?_
    refine e_ifz 415 rfl rfl rfl (fun c3 => ?_) (fun c3 => ?_)
    · refine e_L 2 (f' := (383, [(5, .int (v5 + (1 : Int32))), (0, .ref 151)], [])) rfl ?_
      exact qE_sub (qsubL [1, 0] rfl (ks := [5, 0]) rfl (by decide))
    · refine e_L 1 (f' := (403, [(0, .ref 151), (5, .int v5)], [.ref 151])) rfl ?_
      refine e_gR (q := 236) 12 135 rfl rfl lc_151 lr_151_135 ?_
      refine e_L 1 (f' := (408, [(0, .ref 151), (5, .int v5)], [.int v5, .ref 236])) rfl ?_
      refine e_bal (n := 20001) (k := v5.toNatClampNeg) rfl (Or.inl lc_236) ln_236 h2 rfl ?_
      refine e_ifz 415 rfl rfl rfl (fun c4 => ?_) (fun c4 => ?_)
      · refine e_L 2 (f' := (383, [(5, .int (v5 + (1 : Int32))), (0, .ref 151)], [])) rfl ?_
        exact qE_sub (qsubL [1, 0] rfl (ks := [5, 0]) rfl (by decide))
      · refine e_L 1 (f' := (414, [(0, .ref 151), (5, .int v5)], [.int v5])) rfl ?_
        exact e_rI rfl rfl
set_option maxRecDepth 100000 in
set_option maxHeartbeats 4000000 in
theorem le_X12_lookWays (en : pN) (d : Nat) (a1 : Int32) (a2 : Int32) (s : qS) : qle (L_X12_lookWays_5 en d a1 a2 (0 : Int32) (0 : Int32) s) (qev en (d + 1) 394 [.ref 151, .int a1, .int a2] s) := by
  refine e_enter ix_X12_lookWays (Nat.le_of_ble_eq_true rfl) ?_
  show qle _ (qE (qev en d) en (some .int) tb_X12_lookWays (0, [(0, .ref 151), (1, .int a1), (2, .int a2)], []) s)
  refine e_L 4 (f' := (5, [(4, .int (0 : Int32)), (3, .int (0 : Int32)), (0, .ref 151), (1, .int a1), (2, .int a2)], [])) rfl ?_
  exact qE_sub (qsubL [2, 3, 4, 1, 0] rfl (ks := [4, 3, 0, 1, 2]) rfl (by decide))
