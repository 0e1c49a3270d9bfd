/-! what methods do, printed by program out of their tables: X12_ready .. -/
set_option maxRecDepth 100000 in
set_option maxHeartbeats 4000000 in
theorem le_X12_ready (en : pN) (d : Nat) (a1 : Int32) (s : qS) : qle (if ¬ (s.1 151 74) = (0 : Int32) then bI (qev en d 331 [.ref 151] s) (fun w2 s3 => if a1 < (0 : Int32) then some (some (.int (-2 : Int32)), s3) else if a1 < w2 then gd (p_inB a1 48 = true) (some (some (.int (s3.1 190 a1.toNatClampNeg)), s3)) else some (some (.int (-2 : Int32)), s3)) else some (some (.int (-1 : Int32)), s)) (qev en (d + 1) 333 [.ref 151, .int a1] s) := by
  refine e_enter ix_X12_ready (Nat.le_of_ble_eq_true rfl) ?_
  show qle _ (qE (qev en d) en (some .int) tb_X12_ready (0, [(0, .ref 151), (1, .int a1)], []) s)
  refine e_L 1 (f' := (1, [(0, .ref 151), (1, .int a1)], [.ref 151])) rfl ?_
  refine e_gI 12 74 rfl rfl lc_151 ?_
  refine e_ifz 9 rfl rfl rfl (fun c1 => ?_) (fun c1 => ?_)
  · refine e_L 1 (f' := (10, [(0, .ref 151), (1, .int a1)], [.ref 151])) rfl ?_
    refine e_vI 331 rfl rfl ix_X12_readyNow rfl (q_recvOf lc_151 rfl) (Nat.le_of_ble_eq_true rfl) (fun w2 s3 e4 => ?_)
    refine e_L 2 (f' := (15, [(2, .int w2), (0, .ref 151), (1, .int a1)], [.int a1])) rfl ?_
    refine e_ifz 23 rfl rfl rfl (fun c5 => ?_) (fun c5 => ?_)
    · refine e_L 2 (f' := (34, [(2, .int w2), (0, .ref 151), (1, .int a1)], [.int (-2 : Int32)])) rfl ?_
      exact e_rI rfl rfl
    · refine e_L 2 (f' := (20, [(2, .int w2), (0, .ref 151), (1, .int a1)], [.int w2, .int a1])) rfl ?_
      refine e_icmp 28 rfl rfl rfl (fun c6 => ?_) (fun c6 => ?_)
      · refine e_L 1 (f' := (29, [(2, .int w2), (0, .ref 151), (1, .int a1)], [.ref 151])) rfl ?_
        refine e_gR (q := 190) 12 65 rfl rfl lc_151 lr_151_65 ?_
        refine e_L 1 (f' := (33, [(2, .int w2), (0, .ref 151), (1, .int a1)], [.int a1, .ref 190])) rfl ?_
        refine qle_gd fun h7 => ?_
        refine e_ial (n := 48) (k := a1.toNatClampNeg) rfl lc_190 ln_190 h7 rfl ?_
        exact e_rI rfl rfl
      · refine e_L 2 (f' := (34, [(2, .int w2), (0, .ref 151), (1, .int a1)], [.int (-2 : Int32)])) rfl ?_
        exact e_rI rfl rfl
  · refine e_L 1 (f' := (8, [(0, .ref 151), (1, .int a1)], [.int (-1 : Int32)])) rfl ?_
    exact e_rI rfl rfl
noncomputable def L_X12_stepRun_2 (en : pN) (d : Nat) (v1 : Int32) (v2 : Int32) (v3 : Int32) (s : qS) : Option qR := qE (qev en d) en none tb_X12_stepRun (2, [(0, .ref 151), (1, .int v1), (2, .int v2), (3, .int v3)], []) s
set_option maxRecDepth 100000 in
set_option maxHeartbeats 4000000 in
theorem le_X12_stepRun_2 (en : pN) (d : Nat) (v1 : Int32) (v2 : Int32) (v3 : Int32) (s : qS) : qle (if (4 : Int32) ≤ v3 then bV (qev en d 324 [.ref 151, .int v1, .int v2] s) (fun s3 => gd (p_inB (s3.1 151 78) 200 = true) (nm (uI s3 193 ((s3.1 151 78).toNatClampNeg) v1) (fun s6 => gd (p_inB (s6.1 151 78) 200 = true) (nm (uI s6 194 ((s6.1 151 78).toNatClampNeg) v2) (fun s8 => gd (p_inB (s8.1 151 78) 200 = true) (nm (uI s8 195 ((s8.1 151 78).toNatClampNeg) (s8.1 151 68)) (fun s10 => gd (p_inB (s10.1 151 78) 200 = true) (nm (uI s10 196 ((s10.1 151 78).toNatClampNeg) (s10.1 151 69)) (fun s12 => gd (p_inB (s12.1 151 78) 200 = true) (nm (uI s12 197 ((s12.1 151 78).toNatClampNeg) (s12.1 151 70)) (fun s14 => gd (p_inB (s14.1 151 78) 200 = true) (nm (uI s14 198 ((s14.1 151 78).toNatClampNeg) (s14.1 151 71)) (fun s16 => gd (p_inB (s16.1 151 78) 200 = true) (nm (uJ s16 199 ((s16.1 151 78).toNatClampNeg) (s16.2.1 151 72)) (fun s18 => nm (uI s18 151 78 ((s18.1 151 78) + (1 : Int32))) (fun s19 => bV (qev en d 328 [.ref 151] s19) (fun s21 => some (none, s21)))))))))))))))))) else gd (p_inB v3 4 = true) (nm (uI s 188 (v3.toNatClampNeg) (s.1 192 v3.toNatClampNeg)) (fun s24 => L_X12_stepRun_2 en d v1 v2 (v3 + (1 : Int32)) s24))) (L_X12_stepRun_2 en d v1 v2 v3 s) := by
  show qle _ (qE (qev en d) en none tb_X12_stepRun (2, [(0, .ref 151), (1, .int v1), (2, .int v2), (3, .int v3)], []) s)
  refine e_L 2 (f' := (4, [(0, .ref 151), (1, .int v1), (2, .int v2), (3, .int v3)], [.int (4 : Int32), .int v3])) rfl ?_
  refine e_icmp 25 rfl rfl rfl (fun c1 => ?_) (fun c1 => ?_)
  · refine e_L 3 (f' := (28, [(0, .ref 151), (1, .int v1), (2, .int v2), (3, .int v3)], [.int v2, .int v1, .ref 151])) rfl ?_
    refine e_vV 324 rfl rfl ix_X12_doStep rfl (q_recvOf lc_151 rfl) (Nat.le_of_ble_eq_true rfl) (fun s3 e4 => ?_)
    refine e_L 1 (f' := (32, [(0, .ref 151), (1, .int v1), (2, .int v2), (3, .int v3)], [.ref 151])) rfl ?_
    refine e_gR (q := 193) 12 79 rfl rfl lc_151 lr_151_79 ?_
    refine e_L 1 (f' := (36, [(0, .ref 151), (1, .int v1), (2, .int v2), (3, .int v3)], [.ref 151, .ref 193])) rfl ?_
    refine e_gI 12 78 rfl rfl lc_151 ?_
    refine e_L 1 (f' := (40, [(0, .ref 151), (1, .int v1), (2, .int v2), (3, .int v3)], [.int v1, .int (s3.1 151 78), .ref 193])) rfl ?_
    refine qle_gd fun h5 => ?_
    refine e_ias (n := 200) (k := (s3.1 151 78).toNatClampNeg) rfl lc_193 ln_193 h5 rfl ?_
    refine e_nS fun s6 => ?_
    refine e_L 1 (f' := (42, [(0, .ref 151), (1, .int v1), (2, .int v2), (3, .int v3)], [.ref 151])) rfl ?_
    refine e_gR (q := 194) 12 80 rfl rfl lc_151 lr_151_80 ?_
    refine e_L 1 (f' := (46, [(0, .ref 151), (1, .int v1), (2, .int v2), (3, .int v3)], [.ref 151, .ref 194])) rfl ?_
    refine e_gI 12 78 rfl rfl lc_151 ?_
    refine e_L 1 (f' := (50, [(0, .ref 151), (1, .int v1), (2, .int v2), (3, .int v3)], [.int v2, .int (s6.1 151 78), .ref 194])) rfl ?_
    refine qle_gd fun h7 => ?_
    refine e_ias (n := 200) (k := (s6.1 151 78).toNatClampNeg) rfl lc_194 ln_194 h7 rfl ?_
    refine e_nS fun s8 => ?_
    refine e_L 1 (f' := (52, [(0, .ref 151), (1, .int v1), (2, .int v2), (3, .int v3)], [.ref 151])) rfl ?_
    refine e_gR (q := 195) 12 81 rfl rfl lc_151 lr_151_81 ?_
    refine e_L 1 (f' := (56, [(0, .ref 151), (1, .int v1), (2, .int v2), (3, .int v3)], [.ref 151, .ref 195])) rfl ?_
    refine e_gI 12 78 rfl rfl lc_151 ?_
    refine e_L 1 (f' := (60, [(0, .ref 151), (1, .int v1), (2, .int v2), (3, .int v3)], [.ref 151, .int (s8.1 151 78), .ref 195])) rfl ?_
    refine e_gI 12 68 rfl rfl lc_151 ?_
    refine qle_gd fun h9 => ?_
    refine e_ias (n := 200) (k := (s8.1 151 78).toNatClampNeg) rfl lc_195 ln_195 h9 rfl ?_
    refine e_nS fun s10 => ?_
    refine e_L 1 (f' := (65, [(0, .ref 151), (1, .int v1), (2, .int v2), (3, .int v3)], [.ref 151])) rfl ?_
    refine e_gR (q := 196) 12 82 rfl rfl lc_151 lr_151_82 ?_
    refine e_L 1 (f' := (69, [(0, .ref 151), (1, .int v1), (2, .int v2), (3, .int v3)], [.ref 151, .ref 196])) rfl ?_
    refine e_gI 12 78 rfl rfl lc_151 ?_
    refine e_L 1 (f' := (73, [(0, .ref 151), (1, .int v1), (2, .int v2), (3, .int v3)], [.ref 151, .int (s10.1 151 78), .ref 196])) rfl ?_
    refine e_gI 12 69 rfl rfl lc_151 ?_
    refine qle_gd fun h11 => ?_
    refine e_ias (n := 200) (k := (s10.1 151 78).toNatClampNeg) rfl lc_196 ln_196 h11 rfl ?_
    refine e_nS fun s12 => ?_
    refine e_L 1 (f' := (78, [(0, .ref 151), (1, .int v1), (2, .int v2), (3, .int v3)], [.ref 151])) rfl ?_
    refine e_gR (q := 197) 12 83 rfl rfl lc_151 lr_151_83 ?_
    refine e_L 1 (f' := (82, [(0, .ref 151), (1, .int v1), (2, .int v2), (3, .int v3)], [.ref 151, .ref 197])) rfl ?_
    refine e_gI 12 78 rfl rfl lc_151 ?_
    refine e_L 1 (f' := (86, [(0, .ref 151), (1, .int v1), (2, .int v2), (3, .int v3)], [.ref 151, .int (s12.1 151 78), .ref 197])) rfl ?_
    refine e_gI 12 70 rfl rfl lc_151 ?_
    refine qle_gd fun h13 => ?_
    refine e_ias (n := 200) (k := (s12.1 151 78).toNatClampNeg) rfl lc_197 ln_197 h13 rfl ?_
    refine e_nS fun s14 => ?_
    refine e_L 1 (f' := (91, [(0, .ref 151), (1, .int v1), (2, .int v2), (3, .int v3)], [.ref 151])) rfl ?_
    refine e_gR (q := 198) 12 84 rfl rfl lc_151 lr_151_84 ?_
    refine e_L 1 (f' := (95, [(0, .ref 151), (1, .int v1), (2, .int v2), (3, .int v3)], [.ref 151, .ref 198])) rfl ?_
    refine e_gI 12 78 rfl rfl lc_151 ?_
    refine e_L 1 (f' := (99, [(0, .ref 151), (1, .int v1), (2, .int v2), (3, .int v3)], [.ref 151, .int (s14.1 151 78), .ref 198])) rfl ?_
    refine e_gI 12 71 rfl rfl lc_151 ?_
    refine qle_gd fun h15 => ?_
    refine e_ias (n := 200) (k := (s14.1 151 78).toNatClampNeg) rfl lc_198 ln_198 h15 rfl ?_
    refine e_nS fun s16 => ?_
    refine e_L 1 (f' := (104, [(0, .ref 151), (1, .int v1), (2, .int v2), (3, .int v3)], [.ref 151])) rfl ?_
    refine e_gR (q := 199) 12 85 rfl rfl lc_151 lr_151_85 ?_
    refine e_L 1 (f' := (108, [(0, .ref 151), (1, .int v1), (2, .int v2), (3, .int v3)], [.ref 151, .ref 199])) rfl ?_
    refine e_gI 12 78 rfl rfl lc_151 ?_
    refine e_L 1 (f' := (112, [(0, .ref 151), (1, .int v1), (2, .int v2), (3, .int v3)], [.ref 151, .int (s16.1 151 78), .ref 199])) rfl ?_
    refine e_gJ 12 72 rfl rfl lc_151 ?_
    refine qle_gd fun h17 => ?_
    refine e_las (n := 200) (k := (s16.1 151 78).toNatClampNeg) rfl lc_199 ln_199 h17 rfl ?_
    refine e_nS fun s18 => ?_
    refine e_L 2 (f' := (118, [(0, .ref 151), (1, .int v1), (2, .int v2), (3, .int v3)], [.ref 151, .ref 151])) rfl ?_
    refine e_gI 12 78 rfl rfl lc_151 ?_
    refine e_L 2 (f' := (123, [(0, .ref 151), (1, .int v1), (2, .int v2), (3, .int v3)], [.int ((s18.1 151 78) + (1 : Int32)), .ref 151])) rfl ?_
    refine e_pI 12 78 rfl rfl lc_151 rfl ?_
    refine e_nS fun s19 => ?_
    refine e_L 1 (f' := (127, [(0, .ref 151), (1, .int v1), (2, .int v2), (3, .int v3)], [.ref 151])) rfl ?_
    refine e_vV 328 rfl rfl ix_X12_keepRun rfl (q_recvOf lc_151 rfl) (Nat.le_of_ble_eq_true rfl) (fun s21 e22 => ?_)
    exact e_rV rfl rfl
  · refine e_L 1 (f' := (8, [(0, .ref 151), (1, .int v1), (2, .int v2), (3, .int v3)], [.ref 151])) rfl ?_
    refine e_gR (q := 188) 12 61 rfl rfl lc_151 lr_151_61 ?_
    refine e_L 2 (f' := (13, [(0, .ref 151), (1, .int v1), (2, .int v2), (3, .int v3)], [.ref 151, .int v3, .ref 188])) rfl ?_
    refine e_gR (q := 192) 12 77 rfl rfl lc_151 lr_151_77 ?_
    refine e_L 1 (f' := (17, [(0, .ref 151), (1, .int v1), (2, .int v2), (3, .int v3)], [.int v3, .ref 192, .int v3, .ref 188])) rfl ?_
    refine qle_gd fun h23 => ?_
    refine e_ial (n := 4) (k := v3.toNatClampNeg) rfl lc_192 ln_192 h23 rfl ?_
    refine e_ias (n := 4) (k := v3.toNatClampNeg) rfl lc_188 ln_188 h23 rfl ?_
    refine e_nS fun s24 => ?_
    refine e_L 2 (f' := (2, [(3, .int (v3 + (1 : Int32))), (0, .ref 151), (1, .int v1), (2, .int v2)], [])) rfl ?_
    exact qE_sub (qsubL [1, 2, 3, 0] rfl (ks := [3, 0, 1, 2]) rfl (by decide))
set_option maxRecDepth 100000 in
set_option maxHeartbeats 4000000 in
theorem le_X12_stepRun (en : pN) (d : Nat) (a1 : Int32) (a2 : Int32) (s : qS) : qle (L_X12_stepRun_2 en d a1 a2 (0 : Int32) s) (qev en (d + 1) 334 [.ref 151, .int a1, .int a2] s) := by
  refine e_enter ix_X12_stepRun (Nat.le_of_ble_eq_true rfl) ?_
  show qle _ (qE (qev en d) en none tb_X12_stepRun (0, [(0, .ref 151), (1, .int a1), (2, .int a2)], []) s)
  refine e_L 2 (f' := (2, [(3, .int (0 : Int32)), (0, .ref 151), (1, .int a1), (2, .int a2)], [])) rfl ?_
  exact qE_sub (qsubL [1, 2, 3, 0] rfl (ks := [3, 0, 1, 2]) rfl (by decide))
set_option maxRecDepth 100000 in
set_option maxHeartbeats 4000000 in
theorem le_X12_turn (en : pN) (d : Nat) (a1 : Int32) (a2 : Int32) (s : qS) : qle (if ¬ (s.1 151 74) = (0 : Int32) then bI (qev en d 331 [.ref 151] s) (fun w2 s3 => bI (qev en d 316 [.ref 151, .int a1, .int a2] s3) (fun w5 s6 => if ¬ w5 = (0 : Int32) then if ¬ (s6.1 151 78) = (200 : Int32) then bV (qev en d 334 [.ref 151, .int a1, .int a2] s6) (fun s11 => bI (qev en d 331 [.ref 151] s11) (fun w13 s14 => some (some (.int w13), s14))) else some (some (.int (-3 : Int32)), s6) else some (some (.int (-2 : Int32)), s6))) else some (some (.int (-1 : Int32)), s)) (qev en (d + 1) 335 [.ref 151, .int a1, .int a2] s) := by
  refine e_enter ix_X12_turn (Nat.le_of_ble_eq_true rfl) ?_
  show qle _ (qE (qev en d) en (some .int) tb_X12_turn (0, [(0, .ref 151), (1, .int a1), (2, .int a2)], []) s)
  refine e_L 1 (f' := (1, [(0, .ref 151), (1, .int a1), (2, .int a2)], [.ref 151])) rfl ?_
  refine e_gI 12 74 rfl rfl lc_151 ?_
  refine e_ifz 9 rfl rfl rfl (fun c1 => ?_) (fun c1 => ?_)
  · refine e_L 1 (f' := (10, [(0, .ref 151), (1, .int a1), (2, .int a2)], [.ref 151])) rfl ?_
    refine e_vI 331 rfl rfl ix_X12_readyNow rfl (q_recvOf lc_151 rfl) (Nat.le_of_ble_eq_true rfl) (fun w2 s3 e4 => ?_)
    refine e_L 4 (f' := (17, [(3, .int w2), (0, .ref 151), (1, .int a1), (2, .int a2)], [.int a2, .int a1, .ref 151])) rfl ?_
    refine e_vI 316 rfl rfl ix_X12_isReadyStep rfl (q_recvOf lc_151 rfl) (Nat.le_of_ble_eq_true rfl) (fun w5 s6 e7 => ?_)
    refine e_ifz 26 rfl rfl rfl (fun c8 => ?_) (fun c8 => ?_)
    · refine e_L 1 (f' := (27, [(3, .int w2), (0, .ref 151), (1, .int a1), (2, .int a2)], [.ref 151])) rfl ?_
      refine e_gI 12 78 rfl rfl lc_151 ?_
      refine e_L 1 (f' := (33, [(3, .int w2), (0, .ref 151), (1, .int a1), (2, .int a2)], [.int (200 : Int32), .int (s6.1 151 78)])) rfl ?_
      refine e_icmp 39 rfl rfl rfl (fun c9 => ?_) (fun c9 => ?_)
      · refine e_L 3 (f' := (42, [(3, .int w2), (0, .ref 151), (1, .int a1), (2, .int a2)], [.int a2, .int a1, .ref 151])) rfl ?_
        refine e_vV 334 rfl rfl ix_X12_stepRun rfl (q_recvOf lc_151 rfl) (Nat.le_of_ble_eq_true rfl) (fun s11 e12 => ?_)
        refine e_L 1 (f' := (46, [(3, .int w2), (0, .ref 151), (1, .int a1), (2, .int a2)], [.ref 151])) rfl ?_
        refine e_vI 331 rfl rfl ix_X12_readyNow rfl (q_recvOf lc_151 rfl) (Nat.le_of_ble_eq_true rfl) (fun w13 s14 e15 => ?_)
        exact e_rI rfl rfl
      · refine e_L 1 (f' := (38, [(3, .int w2), (0, .ref 151), (1, .int a1), (2, .int a2)], [.int (-3 : Int32)])) rfl ?_
        exact e_rI rfl rfl
    · refine e_L 1 (f' := (25, [(3, .int w2), (0, .ref 151), (1, .int a1), (2, .int a2)], [.int (-2 : Int32)])) rfl ?_
      exact e_rI rfl rfl
  · refine e_L 1 (f' := (8, [(0, .ref 151), (1, .int a1), (2, .int a2)], [.int (-1 : Int32)])) rfl ?_
    exact e_rI rfl rfl
set_option maxRecDepth 100000 in
set_option maxHeartbeats 4000000 in
theorem le_X12_isThread (en : pN) (d : Nat) (a1 : Int32) (s : qS) : qle (if a1 < (0 : Int32) then some (some (.int (0 : Int32)), s) else if (s.1 151 18) ≤ a1 then some (some (.int (0 : Int32)), s) else some (some (.int (1 : Int32)), s)) (qev en (d + 1) 336 [.ref 151, .int a1] s) := by
  refine e_enter ix_X12_isThread (Nat.le_of_ble_eq_true rfl) ?_
  show qle _ (qE (qev en d) en (some .boolean) tb_X12_isThread (0, [(0, .ref 151), (1, .int a1)], []) s)
  refine e_L 1 (f' := (1, [(0, .ref 151), (1, .int a1)], [.int a1])) rfl ?_
  refine e_ifz 16 rfl rfl rfl (fun c1 => ?_) (fun c1 => ?_)
  · refine e_L 1 (f' := (17, [(0, .ref 151), (1, .int a1)], [.int (0 : Int32)])) rfl ?_
    exact e_rZ rfl rfl (by decide)
  · refine e_L 2 (f' := (6, [(0, .ref 151), (1, .int a1)], [.ref 151, .int a1])) rfl ?_
    refine e_gI 12 18 rfl rfl lc_151 ?_
    refine e_icmp 16 rfl rfl rfl (fun c2 => ?_) (fun c2 => ?_)
    · refine e_L 1 (f' := (17, [(0, .ref 151), (1, .int a1)], [.int (0 : Int32)])) rfl ?_
      exact e_rZ rfl rfl (by decide)
    · refine e_L 2 (f' := (17, [(0, .ref 151), (1, .int a1)], [.int (1 : Int32)])) rfl ?_
      exact e_rZ rfl rfl (by decide)
set_option maxRecDepth 100000 in
set_option maxHeartbeats 4000000 in
theorem le_X12_thread (en : pN) (d : Nat) (a1 : Int32) (a2 : Int32) (s : qS) : qle (if (s.1 151 74) = (0 : Int32) then some (some (.int (-1 : Int32)), s) else bI (qev en d 336 [.ref 151, .int a1] s) (fun w2 s3 => if ¬ w2 = (0 : Int32) then swI a2.toInt 0 [gd (p_inB ((0 : Int32) + a1) 216 = true) (some (some (.int (s3.1 191 ((0 : Int32) + a1).toNatClampNeg)), s3)), gd (p_inB ((4 : Int32) + a1) 216 = true) (if ¬ (s3.1 191 ((4 : Int32) + a1).toNatClampNeg) = (0 : Int32) then some (some (.int ((s3.1 191 ((4 : Int32) + a1).toNatClampNeg) - (1 : Int32))), s3) else some (some (.int (-2 : Int32)), s3)), gd (p_inB a1 4 = true) (some (some (.int (s3.1 192 a1.toNatClampNeg)), s3)), if ¬ (s3.1 151 76) = (1 : Int32) then some (some (.int (0 : Int32)), s3) else gd (p_inB ((52 : Int32) + a1) 216 = true) (some (some (.int (s3.1 191 ((52 : Int32) + a1).toNatClampNeg)), s3))] (some (some (.int (-1 : Int32)), s3)) else some (some (.int (-1 : Int32)), s3))) (qev en (d + 1) 337 [.ref 151, .int a1, .int a2] s) := by
  refine e_enter ix_X12_thread (Nat.le_of_ble_eq_true rfl) ?_
  show qle _ (qE (qev en d) en (some .int) tb_X12_thread (0, [(0, .ref 151), (1, .int a1), (2, .int a2)], []) s)
  refine e_L 1 (f' := (1, [(0, .ref 151), (1, .int a1), (2, .int a2)], [.ref 151])) rfl ?_
  refine e_gI 12 74 rfl rfl lc_151 ?_
  refine e_ifz 15 rfl rfl rfl (fun c1 => ?_) (fun c1 => ?_)
  · refine e_L 1 (f' := (16, [(0, .ref 151), (1, .int a1), (2, .int a2)], [.int (-1 : Int32)])) rfl ?_
    exact e_rI rfl rfl
  · refine e_L 2 (f' := (9, [(0, .ref 151), (1, .int a1), (2, .int a2)], [.int a1, .ref 151])) rfl ?_
    refine e_vI 336 rfl rfl ix_X12_isThread rfl (q_recvOf lc_151 rfl) (Nat.le_of_ble_eq_true rfl) (fun w2 s3 e4 => ?_)
    refine e_ifz 17 rfl rfl rfl (fun c5 => ?_) (fun c5 => ?_)
    · refine e_L 1 (f' := (18, [(0, .ref 151), (1, .int a1), (2, .int a2)], [.int a2])) rfl ?_
      refine e_tsw rfl (by decide) ⟨?_, ?_, ?_, ?_, trivial⟩ ?_
      · refine e_L 1 (f' := (49, [(0, .ref 151), (1, .int a1), (2, .int a2)], [.ref 151])) rfl ?_
        refine e_gR (q := 191) 12 75 rfl rfl lc_151 lr_151_75 ?_
        refine e_L 3 (f' := (55, [(0, .ref 151), (1, .int a1), (2, .int a2)], [.int ((0 : Int32) + a1), .ref 191])) rfl ?_
        refine qle_gd fun h6 => ?_
        refine e_ial (n := 216) (k := ((0 : Int32) + a1).toNatClampNeg) rfl lc_191 ln_191 h6 rfl ?_
        exact e_rI rfl rfl
      · refine e_L 1 (f' := (58, [(0, .ref 151), (1, .int a1), (2, .int a2)], [.ref 151])) rfl ?_
        refine e_gR (q := 191) 12 75 rfl rfl lc_151 lr_151_75 ?_
        refine e_L 3 (f' := (64, [(0, .ref 151), (1, .int a1), (2, .int a2)], [.int ((4 : Int32) + a1), .ref 191])) rfl ?_
        refine qle_gd fun h7 => ?_
        refine e_ial (n := 216) (k := ((4 : Int32) + a1).toNatClampNeg) rfl lc_191 ln_191 h7 rfl ?_
        refine e_ifz 73 rfl rfl rfl (fun c8 => ?_) (fun c8 => ?_)
        · refine e_L 1 (f' := (74, [(0, .ref 151), (1, .int a1), (2, .int a2)], [.ref 151])) rfl ?_
          refine e_gR (q := 191) 12 75 rfl rfl lc_151 lr_151_75 ?_
          refine e_L 3 (f' := (80, [(0, .ref 151), (1, .int a1), (2, .int a2)], [.int ((4 : Int32) + a1), .ref 191])) rfl ?_
          refine e_ial (n := 216) (k := ((4 : Int32) + a1).toNatClampNeg) rfl lc_191 ln_191 h7 rfl ?_
          refine e_L 2 (f' := (83, [(0, .ref 151), (1, .int a1), (2, .int a2)], [.int ((s3.1 191 ((4 : Int32) + a1).toNatClampNeg) - (1 : Int32))])) rfl ?_
          exact e_rI rfl rfl
        · refine e_L 2 (f' := (83, [(0, .ref 151), (1, .int a1), (2, .int a2)], [.int (-2 : Int32)])) rfl ?_
          exact e_rI rfl rfl
      · refine e_L 1 (f' := (85, [(0, .ref 151), (1, .int a1), (2, .int a2)], [.ref 151])) rfl ?_
        refine e_gR (q := 192) 12 77 rfl rfl lc_151 lr_151_77 ?_
        refine e_L 1 (f' := (89, [(0, .ref 151), (1, .int a1), (2, .int a2)], [.int a1, .ref 192])) rfl ?_
        refine qle_gd fun h9 => ?_
        refine e_ial (n := 4) (k := a1.toNatClampNeg) rfl lc_192 ln_192 h9 rfl ?_
        exact e_rI rfl rfl
      · refine e_L 1 (f' := (92, [(0, .ref 151), (1, .int a1), (2, .int a2)], [.ref 151])) rfl ?_
        refine e_gI 12 76 rfl rfl lc_151 ?_
        refine e_L 1 (f' := (96, [(0, .ref 151), (1, .int a1), (2, .int a2)], [.int (1 : Int32), .int (s3.1 151 76)])) rfl ?_
        refine e_icmp 111 rfl rfl rfl (fun c10 => ?_) (fun c10 => ?_)
        · refine e_L 1 (f' := (112, [(0, .ref 151), (1, .int a1), (2, .int a2)], [.int (0 : Int32)])) rfl ?_
          exact e_rI rfl rfl
        · refine e_L 1 (f' := (100, [(0, .ref 151), (1, .int a1), (2, .int a2)], [.ref 151])) rfl ?_
          refine e_gR (q := 191) 12 75 rfl rfl lc_151 lr_151_75 ?_
          refine e_L 3 (f' := (107, [(0, .ref 151), (1, .int a1), (2, .int a2)], [.int ((52 : Int32) + a1), .ref 191])) rfl ?_
          refine qle_gd fun h11 => ?_
          refine e_ial (n := 216) (k := ((52 : Int32) + a1).toNatClampNeg) rfl lc_191 ln_191 h11 rfl ?_
          refine e_L 1 (f' := (112, [(0, .ref 151), (1, .int a1), (2, .int a2)], [.int (s3.1 191 ((52 : Int32) + a1).toNatClampNeg)])) rfl ?_
          exact e_rI rfl rfl
      · refine e_L 1 (f' := (114, [(0, .ref 151), (1, .int a1), (2, .int a2)], [.int (-1 : Int32)])) rfl ?_
        exact e_rI rfl rfl
    · refine e_L 1 (f' := (16, [(0, .ref 151), (1, .int a1), (2, .int a2)], [.int (-1 : Int32)])) rfl ?_
      exact e_rI rfl rfl
set_option maxRecDepth 100000 in
set_option maxHeartbeats 4000000 in
theorem le_X12_local (en : pN) (d : Nat) (a1 : Int32) (a2 : Int32) (s : qS) : qle (if ¬ (s.1 151 74) = (0 : Int32) then bI (qev en d 336 [.ref 151, .int a1] s) (fun w2 s3 => if w2 = (0 : Int32) then some (some (.int (-1000 : Int32)), s3) else if a2 < (0 : Int32) then some (some (.int (-1000 : Int32)), s3) else gd (p_inB a1 4 = true) (if a2 < (s3.1 159 a1.toNatClampNeg) then gd (p_inB (((12 : Int32) + ((6 : Int32) * a1)) + a2) 216 = true) (some (some (.int (s3.1 191 (((12 : Int32) + ((6 : Int32) * a1)) + a2).toNatClampNeg)), s3)) else some (some (.int (-1000 : Int32)), s3))) else some (some (.int (-1 : Int32)), s)) (qev en (d + 1) 338 [.ref 151, .int a1, .int a2] s) := by
  refine e_enter ix_X12_local (Nat.le_of_ble_eq_true rfl) ?_
  show qle _ (qE (qev en d) en (some .int) tb_X12_local (0, [(0, .ref 151), (1, .int a1), (2, .int a2)], []) s)
  refine e_L 1 (f' := (1, [(0, .ref 151), (1, .int a1), (2, .int a2)], [.ref 151])) rfl ?_
  refine e_gI 12 74 rfl rfl lc_151 ?_
  refine e_ifz 9 rfl rfl rfl (fun c1 => ?_) (fun c1 => ?_)
  · refine e_L 2 (f' := (11, [(0, .ref 151), (1, .int a1), (2, .int a2)], [.int a1, .ref 151])) rfl ?_
    refine e_vI 336 rfl rfl ix_X12_isThread rfl (q_recvOf lc_151 rfl) (Nat.le_of_ble_eq_true rfl) (fun w2 s3 e4 => ?_)
    refine e_ifz 31 rfl rfl rfl (fun c5 => ?_) (fun c5 => ?_)
    · refine e_L 2 (f' := (51, [(0, .ref 151), (1, .int a1), (2, .int a2)], [.int (-1000 : Int32)])) rfl ?_
      exact e_rI rfl rfl
    · refine e_L 1 (f' := (18, [(0, .ref 151), (1, .int a1), (2, .int a2)], [.int a2])) rfl ?_
      refine e_ifz 31 rfl rfl rfl (fun c6 => ?_) (fun c6 => ?_)
      · refine e_L 2 (f' := (51, [(0, .ref 151), (1, .int a1), (2, .int a2)], [.int (-1000 : Int32)])) rfl ?_
        exact e_rI rfl rfl
      · refine e_L 2 (f' := (23, [(0, .ref 151), (1, .int a1), (2, .int a2)], [.ref 151, .int a2])) rfl ?_
        refine e_gR (q := 159) 12 21 rfl rfl lc_151 lr_151_21 ?_
        refine e_L 1 (f' := (27, [(0, .ref 151), (1, .int a1), (2, .int a2)], [.int a1, .ref 159, .int a2])) rfl ?_
        refine qle_gd fun h7 => ?_
        refine e_ial (n := 4) (k := a1.toNatClampNeg) rfl lc_159 ln_159 h7 rfl ?_
        refine e_icmp 37 rfl rfl rfl (fun c8 => ?_) (fun c8 => ?_)
        · refine e_L 1 (f' := (38, [(0, .ref 151), (1, .int a1), (2, .int a2)], [.ref 151])) rfl ?_
          refine e_gR (q := 191) 12 75 rfl rfl lc_151 lr_151_75 ?_
          refine e_L 7 (f' := (50, [(0, .ref 151), (1, .int a1), (2, .int a2)], [.int (((12 : Int32) + ((6 : Int32) * a1)) + a2), .ref 191])) rfl ?_
          refine qle_gd fun h9 => ?_
          refine e_ial (n := 216) (k := (((12 : Int32) + ((6 : Int32) * a1)) + a2).toNatClampNeg) rfl lc_191 ln_191 h9 rfl ?_
          exact e_rI rfl rfl
        · refine e_L 2 (f' := (51, [(0, .ref 151), (1, .int a1), (2, .int a2)], [.int (-1000 : Int32)])) rfl ?_
          exact e_rI rfl rfl
  · refine e_L 1 (f' := (8, [(0, .ref 151), (1, .int a1), (2, .int a2)], [.int (-1 : Int32)])) rfl ?_
    exact e_rI rfl rfl
set_option maxRecDepth 100000 in
set_option maxHeartbeats 4000000 in
theorem le_X12_cell (en : pN) (d : Nat) (a1 : Int32) (s : qS) : qle (if (s.1 151 74) = (0 : Int32) then some (some (.int (-1000 : Int32)), s) else if a1 < (0 : Int32) then some (some (.int (-1000 : Int32)), s) else if a1 < (s.1 151 12) then gd (p_inB ((44 : Int32) + a1) 216 = true) (some (some (.int (s.1 191 ((44 : Int32) + a1).toNatClampNeg)), s)) else some (some (.int (-1000 : Int32)), s)) (qev en (d + 1) 339 [.ref 151, .int a1] s) := by
  refine e_enter ix_X12_cell (Nat.le_of_ble_eq_true rfl) ?_
  show qle _ (qE (qev en d) en (some .int) tb_X12_cell (0, [(0, .ref 151), (1, .int a1)], []) s)
  refine e_L 1 (f' := (1, [(0, .ref 151), (1, .int a1)], [.ref 151])) rfl ?_
  refine e_gI 12 74 rfl rfl lc_151 ?_
  refine e_ifz 19 rfl rfl rfl (fun c1 => ?_) (fun c1 => ?_)
  · refine e_L 2 (f' := (34, [(0, .ref 151), (1, .int a1)], [.int (-1000 : Int32)])) rfl ?_
    exact e_rI rfl rfl
  · refine e_L 1 (f' := (8, [(0, .ref 151), (1, .int a1)], [.int a1])) rfl ?_
    refine e_ifz 19 rfl rfl rfl (fun c2 => ?_) (fun c2 => ?_)
    · refine e_L 2 (f' := (34, [(0, .ref 151), (1, .int a1)], [.int (-1000 : Int32)])) rfl ?_
      exact e_rI rfl rfl
    · refine e_L 2 (f' := (13, [(0, .ref 151), (1, .int a1)], [.ref 151, .int a1])) rfl ?_
      refine e_gI 12 12 rfl rfl lc_151 ?_
      refine e_icmp 25 rfl rfl rfl (fun c3 => ?_) (fun c3 => ?_)
      · refine e_L 1 (f' := (26, [(0, .ref 151), (1, .int a1)], [.ref 151])) rfl ?_
        refine e_gR (q := 191) 12 75 rfl rfl lc_151 lr_151_75 ?_
        refine e_L 3 (f' := (33, [(0, .ref 151), (1, .int a1)], [.int ((44 : Int32) + a1), .ref 191])) rfl ?_
        refine qle_gd fun h4 => ?_
        refine e_ial (n := 216) (k := ((44 : Int32) + a1).toNatClampNeg) rfl lc_191 ln_191 h4 rfl ?_
        exact e_rI rfl rfl
      · refine e_L 2 (f' := (34, [(0, .ref 151), (1, .int a1)], [.int (-1000 : Int32)])) rfl ?_
        exact e_rI rfl rfl
set_option maxRecDepth 100000 in
set_option maxHeartbeats 4000000 in
theorem le_X12_seen (en : pN) (d : Nat) (a1 : Int32) (a2 : Int32) (s : qS) : qle (if (s.1 151 74) = (0 : Int32) then some (some (.int (-1000 : Int32)), s) else bI (qev en d 336 [.ref 151, .int a1] s) (fun w2 s3 => if ¬ w2 = (0 : Int32) then bV (qev en d 329 [.ref 151] s3) (fun s7 => gd (p_inB ((0 : Int32) + a1) 216 = true) (if ¬ (s7.1 187 ((0 : Int32) + a1).toNatClampNeg) = (1 : Int32) then some (some (.int (-1000 : Int32)), s7) else bI (qev en d 303 [.ref 151, .int a1] s7) (fun w11 s12 => gd (p_inB w11 400 = true) (if ¬ (s12.1 164 w11.toNatClampNeg) = (1 : Int32) then some (some (.int (-1000 : Int32)), s12) else if a2 < (0 : Int32) then some (some (.int (-1000 : Int32)), s12) else bI (qev en d 312 [.ref 151, .int a1] s12) (fun w17 s18 => if a2 < w17 then bI (qev en d 303 [.ref 151, .int a1] s18) (fun w21 s22 => gd (p_inB w21 400 = true) (bI (qev en d 321 [.ref 151, .int a1, .int (s22.1 166 w21.toNatClampNeg), .int a2] s22) (fun w25 s26 => some (some (.int w25), s26)))) else some (some (.int (-1000 : Int32)), s18)))))) else some (some (.int (-1000 : Int32)), s3))) (qev en (d + 1) 340 [.ref 151, .int a1, .int a2] s) := by
  refine e_enter ix_X12_seen (Nat.le_of_ble_eq_true rfl) ?_
  show qle _ (qE (qev en d) en (some .int) tb_X12_seen (0, [(0, .ref 151), (1, .int a1), (2, .int a2)], []) s)
  refine e_L 1 (f' := (1, [(0, .ref 151), (1, .int a1), (2, .int a2)], [.ref 151])) rfl ?_
  refine e_gI 12 74 rfl rfl lc_151 ?_
  refine e_ifz 15 rfl rfl rfl (fun c1 => ?_) (fun c1 => ?_)
  · refine e_L 1 (f' := (18, [(0, .ref 151), (1, .int a1), (2, .int a2)], [.int (-1000 : Int32)])) rfl ?_
    exact e_rI rfl rfl
  · refine e_L 2 (f' := (9, [(0, .ref 151), (1, .int a1), (2, .int a2)], [.int a1, .ref 151])) rfl ?_
    refine e_vI 336 rfl rfl ix_X12_isThread rfl (q_recvOf lc_151 rfl) (Nat.le_of_ble_eq_true rfl) (fun w2 s3 e4 => ?_)
    refine e_ifz 19 rfl rfl rfl (fun c5 => ?_) (fun c5 => ?_)
    · refine e_L 1 (f' := (20, [(0, .ref 151), (1, .int a1), (2, .int a2)], [.ref 151])) rfl ?_
      refine e_vV 329 rfl rfl ix_X12_takeRun rfl (q_recvOf lc_151 rfl) (Nat.le_of_ble_eq_true rfl) (fun s7 e8 => ?_)
      refine e_L 1 (f' := (24, [(0, .ref 151), (1, .int a1), (2, .int a2)], [.ref 151])) rfl ?_
      refine e_gR (q := 187) 12 57 rfl rfl lc_151 lr_151_57 ?_
      refine e_L 3 (f' := (30, [(0, .ref 151), (1, .int a1), (2, .int a2)], [.int ((0 : Int32) + a1), .ref 187])) rfl ?_
      refine qle_gd fun h9 => ?_
      refine e_ial (n := 216) (k := ((0 : Int32) + a1).toNatClampNeg) rfl lc_187 ln_187 h9 rfl ?_
      refine e_L 1 (f' := (32, [(0, .ref 151), (1, .int a1), (2, .int a2)], [.int (1 : Int32), .int (s7.1 187 ((0 : Int32) + a1).toNatClampNeg)])) rfl ?_
      refine e_icmp 62 rfl rfl rfl (fun c10 => ?_) (fun c10 => ?_)
      · refine e_L 1 (f' := (65, [(0, .ref 151), (1, .int a1), (2, .int a2)], [.int (-1000 : Int32)])) rfl ?_
        exact e_rI rfl rfl
      · refine e_L 1 (f' := (36, [(0, .ref 151), (1, .int a1), (2, .int a2)], [.ref 151])) rfl ?_
        refine e_gR (q := 164) 12 33 rfl rfl lc_151 lr_151_33 ?_
        refine e_L 2 (f' := (41, [(0, .ref 151), (1, .int a1), (2, .int a2)], [.int a1, .ref 151, .ref 164])) rfl ?_
        refine e_vI 303 rfl rfl ix_X12_lineOf rfl (q_recvOf lc_151 rfl) (Nat.le_of_ble_eq_true rfl) (fun w11 s12 e13 => ?_)
        refine qle_gd fun h14 => ?_
        refine e_ial (n := 400) (k := w11.toNatClampNeg) rfl lc_164 ln_164 h14 rfl ?_
        refine e_L 1 (f' := (46, [(0, .ref 151), (1, .int a1), (2, .int a2)], [.int (1 : Int32), .int (s12.1 164 w11.toNatClampNeg)])) rfl ?_
        refine e_icmp 62 rfl rfl rfl (fun c15 => ?_) (fun c15 => ?_)
        · refine e_L 1 (f' := (65, [(0, .ref 151), (1, .int a1), (2, .int a2)], [.int (-1000 : Int32)])) rfl ?_
          exact e_rI rfl rfl
        · refine e_L 1 (f' := (50, [(0, .ref 151), (1, .int a1), (2, .int a2)], [.int a2])) rfl ?_
          refine e_ifz 62 rfl rfl rfl (fun c16 => ?_) (fun c16 => ?_)
          · refine e_L 1 (f' := (65, [(0, .ref 151), (1, .int a1), (2, .int a2)], [.int (-1000 : Int32)])) rfl ?_
            exact e_rI rfl rfl
          · refine e_L 3 (f' := (56, [(0, .ref 151), (1, .int a1), (2, .int a2)], [.int a1, .ref 151, .int a2])) rfl ?_
            refine e_vI 312 rfl rfl ix_X12_choices rfl (q_recvOf lc_151 rfl) (Nat.le_of_ble_eq_true rfl) (fun w17 s18 e19 => ?_)
            refine e_icmp 66 rfl rfl rfl (fun c20 => ?_) (fun c20 => ?_)
            · refine e_L 3 (f' := (69, [(0, .ref 151), (1, .int a1), (2, .int a2)], [.ref 151, .int a1, .ref 151])) rfl ?_
              refine e_gR (q := 166) 12 35 rfl rfl lc_151 lr_151_35 ?_
              refine e_L 2 (f' := (74, [(0, .ref 151), (1, .int a1), (2, .int a2)], [.int a1, .ref 151, .ref 166, .int a1, .ref 151])) rfl ?_
              refine e_vI 303 rfl rfl ix_X12_lineOf rfl (q_recvOf lc_151 rfl) (Nat.le_of_ble_eq_true rfl) (fun w21 s22 e23 => ?_)
              refine qle_gd fun h24 => ?_
              refine e_ial (n := 400) (k := w21.toNatClampNeg) rfl lc_166 ln_166 h24 rfl ?_
              refine e_L 1 (f' := (79, [(0, .ref 151), (1, .int a1), (2, .int a2)], [.int a2, .int (s22.1 166 w21.toNatClampNeg), .int a1, .ref 151])) rfl ?_
              refine e_vI 321 rfl rfl ix_X12_loaded rfl (q_recvOf lc_151 rfl) (Nat.le_of_ble_eq_true rfl) (fun w25 s26 e27 => ?_)
              exact e_rI rfl rfl
            · refine e_L 1 (f' := (65, [(0, .ref 151), (1, .int a1), (2, .int a2)], [.int (-1000 : Int32)])) rfl ?_
              exact e_rI rfl rfl
    · refine e_L 1 (f' := (18, [(0, .ref 151), (1, .int a1), (2, .int a2)], [.int (-1000 : Int32)])) rfl ?_
      exact e_rI rfl rfl
set_option maxRecDepth 100000 in
set_option maxHeartbeats 4000000 in
theorem le_X12_held (en : pN) (d : Nat) (a1 : Int32) (a2 : Int32) (s : qS) : qle (if (s.1 151 74) = (0 : Int32) then some (some (.int (-1 : Int32)), s) else if a1 < (0 : Int32) then some (some (.int (-1 : Int32)), s) else if (s.1 151 16) ≤ a1 then some (some (.int (-1 : Int32)), s) else if a2 < (0 : Int32) then some (some (.int (-1 : Int32)), s) else if a2 ≤ (1 : Int32) then if ¬ a2 = (1 : Int32) then gd (p_inB ((36 : Int32) + a1) 216 = true) (if ¬ (s.1 191 ((36 : Int32) + a1).toNatClampNeg) = (0 : Int32) then some (some (.int ((s.1 191 ((36 : Int32) + a1).toNatClampNeg) - (1 : Int32))), s) else some (some (.int (-2 : Int32)), s)) else gd (p_inB ((40 : Int32) + a1) 216 = true) (some (some (.int (s.1 191 ((40 : Int32) + a1).toNatClampNeg)), s)) else some (some (.int (-1 : Int32)), s)) (qev en (d + 1) 341 [.ref 151, .int a1, .int a2] s) := by
  refine e_enter ix_X12_held (Nat.le_of_ble_eq_true rfl) ?_
  show qle _ (qE (qev en d) en (some .int) tb_X12_held (0, [(0, .ref 151), (1, .int a1), (2, .int a2)], []) s)
  refine e_L 1 (f' := (1, [(0, .ref 151), (1, .int a1), (2, .int a2)], [.ref 151])) rfl ?_
  refine e_gI 12 74 rfl rfl lc_151 ?_
  refine e_ifz 28 rfl rfl rfl (fun c1 => ?_) (fun c1 => ?_)
  · refine e_L 1 (f' := (29, [(0, .ref 151), (1, .int a1), (2, .int a2)], [.int (-1 : Int32)])) rfl ?_
    exact e_rI rfl rfl
  · refine e_L 1 (f' := (8, [(0, .ref 151), (1, .int a1), (2, .int a2)], [.int a1])) rfl ?_
    refine e_ifz 28 rfl rfl rfl (fun c2 => ?_) (fun c2 => ?_)
    · refine e_L 1 (f' := (29, [(0, .ref 151), (1, .int a1), (2, .int a2)], [.int (-1 : Int32)])) rfl ?_
      exact e_rI rfl rfl
    · refine e_L 2 (f' := (13, [(0, .ref 151), (1, .int a1), (2, .int a2)], [.ref 151, .int a1])) rfl ?_
      refine e_gI 12 16 rfl rfl lc_151 ?_
      refine e_icmp 28 rfl rfl rfl (fun c3 => ?_) (fun c3 => ?_)
      · refine e_L 1 (f' := (29, [(0, .ref 151), (1, .int a1), (2, .int a2)], [.int (-1 : Int32)])) rfl ?_
        exact e_rI rfl rfl
      · refine e_L 1 (f' := (20, [(0, .ref 151), (1, .int a1), (2, .int a2)], [.int a2])) rfl ?_
        refine e_ifz 28 rfl rfl rfl (fun c4 => ?_) (fun c4 => ?_)
        · refine e_L 1 (f' := (29, [(0, .ref 151), (1, .int a1), (2, .int a2)], [.int (-1 : Int32)])) rfl ?_
          exact e_rI rfl rfl
        · refine e_L 2 (f' := (25, [(0, .ref 151), (1, .int a1), (2, .int a2)], [.int (1 : Int32), .int a2])) rfl ?_
          refine e_icmp 30 rfl rfl rfl (fun c5 => ?_) (fun c5 => ?_)
          · refine e_L 2 (f' := (32, [(0, .ref 151), (1, .int a1), (2, .int a2)], [.int (1 : Int32), .int a2])) rfl ?_
            refine e_icmp 47 rfl rfl rfl (fun c6 => ?_) (fun c6 => ?_)
            · refine e_L 1 (f' := (48, [(0, .ref 151), (1, .int a1), (2, .int a2)], [.ref 151])) rfl ?_
              refine e_gR (q := 191) 12 75 rfl rfl lc_151 lr_151_75 ?_
              refine e_L 3 (f' := (55, [(0, .ref 151), (1, .int a1), (2, .int a2)], [.int ((36 : Int32) + a1), .ref 191])) rfl ?_
              refine qle_gd fun h7 => ?_
              refine e_ial (n := 216) (k := ((36 : Int32) + a1).toNatClampNeg) rfl lc_191 ln_191 h7 rfl ?_
              refine e_ifz 64 rfl rfl rfl (fun c8 => ?_) (fun c8 => ?_)
              · refine e_L 1 (f' := (65, [(0, .ref 151), (1, .int a1), (2, .int a2)], [.ref 151])) rfl ?_
                refine e_gR (q := 191) 12 75 rfl rfl lc_151 lr_151_75 ?_
                refine e_L 3 (f' := (72, [(0, .ref 151), (1, .int a1), (2, .int a2)], [.int ((36 : Int32) + a1), .ref 191])) rfl ?_
                refine e_ial (n := 216) (k := ((36 : Int32) + a1).toNatClampNeg) rfl lc_191 ln_191 h7 rfl ?_
                refine e_L 2 (f' := (75, [(0, .ref 151), (1, .int a1), (2, .int a2)], [.int ((s.1 191 ((36 : Int32) + a1).toNatClampNeg) - (1 : Int32))])) rfl ?_
                exact e_rI rfl rfl
              · refine e_L 2 (f' := (75, [(0, .ref 151), (1, .int a1), (2, .int a2)], [.int (-2 : Int32)])) rfl ?_
                exact e_rI rfl rfl
            · refine e_L 1 (f' := (36, [(0, .ref 151), (1, .int a1), (2, .int a2)], [.ref 151])) rfl ?_
              refine e_gR (q := 191) 12 75 rfl rfl lc_151 lr_151_75 ?_
              refine e_L 3 (f' := (43, [(0, .ref 151), (1, .int a1), (2, .int a2)], [.int ((40 : Int32) + a1), .ref 191])) rfl ?_
              refine qle_gd fun h9 => ?_
              refine e_ial (n := 216) (k := ((40 : Int32) + a1).toNatClampNeg) rfl lc_191 ln_191 h9 rfl ?_
              refine e_L 1 (f' := (75, [(0, .ref 151), (1, .int a1), (2, .int a2)], [.int (s.1 191 ((40 : Int32) + a1).toNatClampNeg)])) rfl ?_
              exact e_rI rfl rfl
          · refine e_L 1 (f' := (29, [(0, .ref 151), (1, .int a1), (2, .int a2)], [.int (-1 : Int32)])) rfl ?_
            exact e_rI rfl rfl
noncomputable def L_X12_step_16 (en : pN) (d : Nat) (v1 : Int32) (v2 : Int32) (s : qS) : Option qR := qE (qev en d) en (some .int) tb_X12_step (16, [(0, .ref 151), (1, .int v1), (2, .int v2)], []) s
set_option maxRecDepth 100000 in
set_option maxHeartbeats 4000000 in
theorem le_X12_step_16 (en : pN) (d : Nat) (v1 : Int32) (v2 : Int32) (s : qS) : qle (if v1 < (-1 : Int32) then some (some (.int (-1 : Int32)), s) else if (s.1 151 78) ≤ v1 then some (some (.int (-1 : Int32)), s) else if v2 < (0 : Int32) then some (some (.int (-1 : Int32)), s) else if v2 ≤ (2 : Int32) then if ¬ v1 = (-1 : Int32) then if ¬ v2 = (0 : Int32) then if ¬ v2 = (1 : Int32) then gd (p_inB v1 200 = true) (some (some (.int (s.1 195 v1.toNatClampNeg)), s)) else gd (p_inB v1 200 = true) (some (some (.int (s.1 194 v1.toNatClampNeg)), s)) else gd (p_inB v1 200 = true) (some (some (.int (s.1 193 v1.toNatClampNeg)), s)) else some (some (.int (s.1 151 78)), s) else some (some (.int (-1 : Int32)), s)) (L_X12_step_16 en d v1 v2 s) := by
  show qle _ (qE (qev en d) en (some .int) tb_X12_step (16, [(0, .ref 151), (1, .int v1), (2, .int v2)], []) s)
  refine e_L 2 (f' := (18, [(0, .ref 151), (1, .int v1), (2, .int v2)], [.int (-1 : Int32), .int v1])) rfl ?_
  refine e_icmp 38 rfl rfl rfl (fun c1 => ?_) (fun c1 => ?_)
  · refine e_L 1 (f' := (39, [(0, .ref 151), (1, .int v1), (2, .int v2)], [.int (-1 : Int32)])) rfl ?_
    exact e_rI rfl rfl
  · refine e_L 2 (f' := (23, [(0, .ref 151), (1, .int v1), (2, .int v2)], [.ref 151, .int v1])) rfl ?_
    refine e_gI 12 78 rfl rfl lc_151 ?_
    refine e_icmp 38 rfl rfl rfl (fun c2 => ?_) (fun c2 => ?_)
    · refine e_L 1 (f' := (39, [(0, .ref 151), (1, .int v1), (2, .int v2)], [.int (-1 : Int32)])) rfl ?_
      exact e_rI rfl rfl
    · refine e_L 1 (f' := (30, [(0, .ref 151), (1, .int v1), (2, .int v2)], [.int v2])) rfl ?_
      refine e_ifz 38 rfl rfl rfl (fun c3 => ?_) (fun c3 => ?_)
      · refine e_L 1 (f' := (39, [(0, .ref 151), (1, .int v1), (2, .int v2)], [.int (-1 : Int32)])) rfl ?_
        exact e_rI rfl rfl
      · refine e_L 2 (f' := (35, [(0, .ref 151), (1, .int v1), (2, .int v2)], [.int (2 : Int32), .int v2])) rfl ?_
        refine e_icmp 40 rfl rfl rfl (fun c4 => ?_) (fun c4 => ?_)
        · refine e_L 2 (f' := (42, [(0, .ref 151), (1, .int v1), (2, .int v2)], [.int (-1 : Int32), .int v1])) rfl ?_
          refine e_icmp 52 rfl rfl rfl (fun c5 => ?_) (fun c5 => ?_)
          · refine e_L 1 (f' := (53, [(0, .ref 151), (1, .int v1), (2, .int v2)], [.int v2])) rfl ?_
            refine e_ifz 65 rfl rfl rfl (fun c6 => ?_) (fun c6 => ?_)
            · refine e_L 2 (f' := (67, [(0, .ref 151), (1, .int v1), (2, .int v2)], [.int (1 : Int32), .int v2])) rfl ?_
              refine e_icmp 79 rfl rfl rfl (fun c7 => ?_) (fun c7 => ?_)
              · refine e_L 1 (f' := (80, [(0, .ref 151), (1, .int v1), (2, .int v2)], [.ref 151])) rfl ?_
                refine e_gR (q := 195) 12 81 rfl rfl lc_151 lr_151_81 ?_
                refine e_L 1 (f' := (84, [(0, .ref 151), (1, .int v1), (2, .int v2)], [.int v1, .ref 195])) rfl ?_
                refine qle_gd fun h8 => ?_
                refine e_ial (n := 200) (k := v1.toNatClampNeg) rfl lc_195 ln_195 h8 rfl ?_
                exact e_rI rfl rfl
              · refine e_L 1 (f' := (71, [(0, .ref 151), (1, .int v1), (2, .int v2)], [.ref 151])) rfl ?_
                refine e_gR (q := 194) 12 80 rfl rfl lc_151 lr_151_80 ?_
                refine e_L 1 (f' := (75, [(0, .ref 151), (1, .int v1), (2, .int v2)], [.int v1, .ref 194])) rfl ?_
                refine qle_gd fun h9 => ?_
                refine e_ial (n := 200) (k := v1.toNatClampNeg) rfl lc_194 ln_194 h9 rfl ?_
                refine e_L 1 (f' := (85, [(0, .ref 151), (1, .int v1), (2, .int v2)], [.int (s.1 194 v1.toNatClampNeg)])) rfl ?_
                exact e_rI rfl rfl
            · refine e_L 1 (f' := (57, [(0, .ref 151), (1, .int v1), (2, .int v2)], [.ref 151])) rfl ?_
              refine e_gR (q := 193) 12 79 rfl rfl lc_151 lr_151_79 ?_
              refine e_L 1 (f' := (61, [(0, .ref 151), (1, .int v1), (2, .int v2)], [.int v1, .ref 193])) rfl ?_
              refine qle_gd fun h10 => ?_
              refine e_ial (n := 200) (k := v1.toNatClampNeg) rfl lc_193 ln_193 h10 rfl ?_
              refine e_L 1 (f' := (85, [(0, .ref 151), (1, .int v1), (2, .int v2)], [.int (s.1 193 v1.toNatClampNeg)])) rfl ?_
              exact e_rI rfl rfl
          · refine e_L 1 (f' := (46, [(0, .ref 151), (1, .int v1), (2, .int v2)], [.ref 151])) rfl ?_
            refine e_gI 12 78 rfl rfl lc_151 ?_
            refine e_L 1 (f' := (85, [(0, .ref 151), (1, .int v1), (2, .int v2)], [.int (s.1 151 78)])) rfl ?_
            exact e_rI rfl rfl
        · refine e_L 1 (f' := (39, [(0, .ref 151), (1, .int v1), (2, .int v2)], [.int (-1 : Int32)])) rfl ?_
          exact e_rI rfl rfl
set_option maxRecDepth 100000 in
set_option maxHeartbeats 4000000 in
theorem le_X12_step (en : pN) (d : Nat) (a1 : Int32) (a2 : Int32) (s : qS) : qle (if (s.1 151 74) = (0 : Int32) then some (some (.int (-1 : Int32)), s) else if ¬ a1 = (-1 : Int32) then L_X12_step_16 en d a1 a2 s else if ¬ a2 = (0 : Int32) then some (some (.int (-1 : Int32)), s) else L_X12_step_16 en d a1 a2 s) (qev en (d + 1) 342 [.ref 151, .int a1, .int a2] s) := by
  refine e_enter ix_X12_step (Nat.le_of_ble_eq_true rfl) ?_
  show qle _ (qE (qev en d) en (some .int) tb_X12_step (0, [(0, .ref 151), (1, .int a1), (2, .int a2)], []) s)
  refine e_L 1 (f' := (1, [(0, .ref 151), (1, .int a1), (2, .int a2)], [.ref 151])) rfl ?_
  refine e_gI 12 74 rfl rfl lc_151 ?_
  refine e_ifz 38 rfl rfl rfl (fun c1 => ?_) (fun c1 => ?_)
  · refine e_L 1 (f' := (39, [(0, .ref 151), (1, .int a1), (2, .int a2)], [.int (-1 : Int32)])) rfl ?_
    exact e_rI rfl rfl
  · refine e_L 2 (f' := (9, [(0, .ref 151), (1, .int a1), (2, .int a2)], [.int (-1 : Int32), .int a1])) rfl ?_
    refine e_icmp 16 rfl rfl rfl (fun c2 => ?_) (fun c2 => ?_)
    · exact qE_sub (qsubL [0, 1, 2] rfl (ks := [0, 1, 2]) rfl (by decide))
    · refine e_L 1 (f' := (13, [(0, .ref 151), (1, .int a1), (2, .int a2)], [.int a2])) rfl ?_
      refine e_ifz 38 rfl rfl rfl (fun c3 => ?_) (fun c3 => ?_)
      · refine e_L 1 (f' := (39, [(0, .ref 151), (1, .int a1), (2, .int a2)], [.int (-1 : Int32)])) rfl ?_
        exact e_rI rfl rfl
      · exact qE_sub (qsubL [0, 1, 2] rfl (ks := [0, 1, 2]) rfl (by decide))
set_option maxRecDepth 100000 in
set_option maxHeartbeats 4000000 in
theorem le_X12_isAtOnce (en : pN) (d : Nat) (a1 : Int32) (s : qS) : qle (if a1 = (3 : Int32) then some (some (.int (1 : Int32)), s) else if ¬ a1 = (4 : Int32) then some (some (.int (0 : Int32)), s) else some (some (.int (1 : Int32)), s)) (qev en (d + 1) 343 [.int a1] s) := by
  refine e_enter ix_X12_isAtOnce (Nat.le_of_ble_eq_true rfl) ?_
  show qle _ (qE (qev en d) en (some .boolean) tb_X12_isAtOnce (0, [(0, .int a1)], []) s)
  refine e_L 2 (f' := (2, [(0, .int a1)], [.int (3 : Int32), .int a1])) rfl ?_
  refine e_icmp 10 rfl rfl rfl (fun c1 => ?_) (fun c1 => ?_)
  · refine e_L 2 (f' := (15, [(0, .int a1)], [.int (1 : Int32)])) rfl ?_
    exact e_rZ rfl rfl (by decide)
  · refine e_L 2 (f' := (7, [(0, .int a1)], [.int (4 : Int32), .int a1])) rfl ?_
    refine e_icmp 14 rfl rfl rfl (fun c2 => ?_) (fun c2 => ?_)
    · refine e_L 1 (f' := (15, [(0, .int a1)], [.int (0 : Int32)])) rfl ?_
      exact e_rZ rfl rfl (by decide)
    · refine e_L 2 (f' := (15, [(0, .int a1)], [.int (1 : Int32)])) rfl ?_
      exact e_rZ rfl rfl (by decide)
noncomputable def L_X12_isDirect_67 (en : pN) (d : Nat) (v1 : Int32) (v2 : Int32) (v3 : Int32) (v4 : Int32) (vs0 : Int32) (s : qS) : Option qR := qE (qev en d) en (some .boolean) tb_X12_isDirect (67, [(0, .ref 151), (1, .int v1), (2, .int v2), (3, .int v3), (4, .int v4)], [.int vs0]) s
noncomputable def L_X12_isDirect_93 (en : pN) (d : Nat) (v1 : Int32) (v2 : Int32) (v3 : Int32) (v4 : Int32) (v5 : Int32) (vs1 : Int32) (s : qS) : Option qR := qE (qev en d) en (some .boolean) tb_X12_isDirect (93, [(0, .ref 151), (1, .int v1), (2, .int v2), (3, .int v3), (4, .int v4), (5, .int v5)], [.int vs1, .ref 155]) s
noncomputable def L_X12_isDirect_97 (en : pN) (d : Nat) (v1 : Int32) (v2 : Int32) (v3 : Int32) (v4 : Int32) (v5 : Int32) (s : qS) : Option qR := qE (qev en d) en (some .boolean) tb_X12_isDirect (97, [(0, .ref 151), (1, .int v1), (2, .int v2), (3, .int v3), (4, .int v4), (5, .int v5)], []) s
noncomputable def L_X12_isDirect_109 (en : pN) (d : Nat) (v1 : Int32) (v2 : Int32) (v3 : Int32) (v4 : Int32) (v5 : Int32) (vs0 : Int32) (s : qS) : Option qR := qE (qev en d) en (some .boolean) tb_X12_isDirect (109, [(0, .ref 151), (1, .int v1), (2, .int v2), (3, .int v3), (4, .int v4), (5, .int v5)], [.int vs0]) s
noncomputable def L_X12_isDirect_137 (en : pN) (d : Nat) (v1 : Int32) (v2 : Int32) (v3 : Int32) (v4 : Int32) (v5 : Int32) (v6 : Int32) (vs1 : Int32) (s : qS) : Option qR := qE (qev en d) en (some .boolean) tb_X12_isDirect (137, [(0, .ref 151), (1, .int v1), (2, .int v2), (3, .int v3), (4, .int v4), (5, .int v5), (6, .int v6)], [.int vs1, .ref 155]) s
noncomputable def L_X12_isDirect_141 (en : pN) (d : Nat) (v1 : Int32) (v2 : Int32) (v3 : Int32) (v4 : Int32) (v5 : Int32) (v6 : Int32) (s : qS) : Option qR := qE (qev en d) en (some .boolean) tb_X12_isDirect (141, [(0, .ref 151), (1, .int v1), (2, .int v2), (3, .int v3), (4, .int v4), (5, .int v5), (6, .int v6)], []) s
noncomputable def L_X12_isDirect_154 (en : pN) (d : Nat) (v1 : Int32) (v2 : Int32) (v3 : Int32) (v4 : Int32) (v5 : Int32) (v6 : Int32) (vs0 : Int32) (s : qS) : Option qR := qE (qev en d) en (some .boolean) tb_X12_isDirect (154, [(0, .ref 151), (1, .int v1), (2, .int v2), (3, .int v3), (4, .int v4), (5, .int v5), (6, .int v6)], [.int vs0]) s
noncomputable def L_X12_isDirect_177 (en : pN) (d : Nat) (v1 : Int32) (v2 : Int32) (v3 : Int32) (v4 : Int32) (v5 : Int32) (v6 : Int32) (v7 : Int32) (s : qS) : Option qR := qE (qev en d) en (some .boolean) tb_X12_isDirect (177, [(0, .ref 151), (1, .int v1), (2, .int v2), (3, .int v3), (4, .int v4), (5, .int v5), (6, .int v6), (7, .int v7)], []) s
noncomputable def L_X12_isDirect_199 (en : pN) (d : Nat) (v3 : Int32) (v4 : Int32) (v5 : Int32) (v6 : Int32) (v7 : Int32) (s : qS) : Option qR := qE (qev en d) en (some .boolean) tb_X12_isDirect (199, [(3, .int v3), (4, .int v4), (5, .int v5), (6, .int v6), (7, .int v7)], []) s
noncomputable def L_X12_isDirect_216 (en : pN) (d : Nat) (v3 : Int32) (v4 : Int32) (v5 : Int32) (v6 : Int32) (v7 : Int32) (s : qS) : Option qR := qE (qev en d) en (some .boolean) tb_X12_isDirect (216, [(3, .int v3), (4, .int v4), (5, .int v5), (6, .int v6), (7, .int v7)], []) s
noncomputable def L_X12_isDirect_229 (en : pN) (d : Nat) (v3 : Int32) (v4 : Int32) (v5 : Int32) (v6 : Int32) (v7 : Int32) (s : qS) : Option qR := qE (qev en d) en (some .boolean) tb_X12_isDirect (229, [(3, .int v3), (4, .int v4), (5, .int v5), (6, .int v6), (7, .int v7)], []) s
noncomputable def L_X12_isDirect_244 (en : pN) (d : Nat) (v3 : Int32) (v4 : Int32) (s : qS) : Option qR := qE (qev en d) en (some .boolean) tb_X12_isDirect (244, [(3, .int v3), (4, .int v4)], []) s
set_option maxRecDepth 100000 in
set_option maxHeartbeats 4000000 in
theorem le_X12_isDirect_67 (en : pN) (d : Nat) (v1 : Int32) (v2 : Int32) (v3 : Int32) (v4 : Int32) (vs0 : Int32) (s : qS) : qle (if ¬ v3 = (2 : Int32) then L_X12_isDirect_97 en d v1 v2 v3 v4 vs0 s else if ¬ v3 = (2 : Int32) then L_X12_isDirect_93 en d v1 v2 v3 v4 vs0 (0 : Int32) s else gd (p_inB v1 200 = true) (L_X12_isDirect_93 en d v1 v2 v3 v4 vs0 (s.1 197 v1.toNatClampNeg) s)) (L_X12_isDirect_67 en d v1 v2 v3 v4 vs0 s) := by
  show qle _ (qE (qev en d) en (some .boolean) tb_X12_isDirect (67, [(0, .ref 151), (1, .int v1), (2, .int v2), (3, .int v3), (4, .int v4)], [.int vs0]) s)
  refine e_L 3 (f' := (71, [(5, .int vs0), (0, .ref 151), (1, .int v1), (2, .int v2), (3, .int v3), (4, .int v4)], [.int (2 : Int32), .int v3])) rfl ?_
  refine e_icmp 97 rfl rfl rfl (fun c1 => ?_) (fun c1 => ?_)
  · exact qE_sub (qsubL [1, 2, 3, 4, 5, 0] rfl (ks := [5, 0, 1, 2, 3, 4]) rfl (by decide))
  · refine e_L 1 (f' := (75, [(5, .int vs0), (0, .ref 151), (1, .int v1), (2, .int v2), (3, .int v3), (4, .int v4)], [.ref 151])) rfl ?_
    refine e_gR (q := 155) 12 15 rfl rfl lc_151 lr_151_15 ?_
    refine e_L 2 (f' := (80, [(5, .int vs0), (0, .ref 151), (1, .int v1), (2, .int v2), (3, .int v3), (4, .int v4)], [.int (2 : Int32), .int v3, .ref 155])) rfl ?_
    refine e_icmp 92 rfl rfl rfl (fun c2 => ?_) (fun c2 => ?_)
    · refine e_L 1 (f' := (93, [(5, .int vs0), (0, .ref 151), (1, .int v1), (2, .int v2), (3, .int v3), (4, .int v4)], [.int (0 : Int32), .ref 155])) rfl ?_
      exact qE_sub (qsubL [1, 2, 3, 4, 5, 0] rfl (ks := [5, 0, 1, 2, 3, 4]) rfl (by decide))
    · refine e_L 1 (f' := (84, [(5, .int vs0), (0, .ref 151), (1, .int v1), (2, .int v2), (3, .int v3), (4, .int v4)], [.ref 151, .ref 155])) rfl ?_
      refine e_gR (q := 197) 12 83 rfl rfl lc_151 lr_151_83 ?_
      refine e_L 1 (f' := (88, [(5, .int vs0), (0, .ref 151), (1, .int v1), (2, .int v2), (3, .int v3), (4, .int v4)], [.int v1, .ref 197, .ref 155])) rfl ?_
      refine qle_gd fun h3 => ?_
      refine e_ial (n := 200) (k := v1.toNatClampNeg) rfl lc_197 ln_197 h3 rfl ?_
      refine e_L 1 (f' := (93, [(5, .int vs0), (0, .ref 151), (1, .int v1), (2, .int v2), (3, .int v3), (4, .int v4)], [.int (s.1 197 v1.toNatClampNeg), .ref 155])) rfl ?_
      exact qE_sub (qsubL [1, 2, 3, 4, 5, 0] rfl (ks := [5, 0, 1, 2, 3, 4]) rfl (by decide))
set_option maxRecDepth 100000 in
set_option maxHeartbeats 4000000 in
theorem le_X12_isDirect_93 (en : pN) (d : Nat) (v1 : Int32) (v2 : Int32) (v3 : Int32) (v4 : Int32) (v5 : Int32) (vs1 : Int32) (s : qS) : qle (gd (p_inB vs1 8 = true) (if ¬ (s.1 155 vs1.toNatClampNeg) = (0 : Int32) then L_X12_isDirect_109 en d v1 v2 v3 v4 v5 (1 : Int32) s else L_X12_isDirect_97 en d v1 v2 v3 v4 v5 s)) (L_X12_isDirect_93 en d v1 v2 v3 v4 v5 vs1 s) := by
  show qle _ (qE (qev en d) en (some .boolean) tb_X12_isDirect (93, [(0, .ref 151), (1, .int v1), (2, .int v2), (3, .int v3), (4, .int v4), (5, .int v5)], [.int vs1, .ref 155]) s)
  refine qle_gd fun h1 => ?_
  refine e_bal (n := 8) (k := vs1.toNatClampNeg) rfl (Or.inl lc_155) ln_155 h1 rfl ?_
  refine e_ifz 104 rfl rfl rfl (fun c2 => ?_) (fun c2 => ?_)
  · refine e_L 2 (f' := (109, [(0, .ref 151), (1, .int v1), (2, .int v2), (3, .int v3), (4, .int v4), (5, .int v5)], [.int (1 : Int32)])) rfl ?_
    exact qE_sub (qsubL [0, 1, 2, 3, 4, 5] rfl (ks := [0, 1, 2, 3, 4, 5]) rfl (by decide))
  · exact qE_sub (qsubL [0, 1, 2, 3, 4, 5] rfl (ks := [0, 1, 2, 3, 4, 5]) rfl (by decide))
set_option maxRecDepth 100000 in
set_option maxHeartbeats 4000000 in
theorem le_X12_isDirect_97 (en : pN) (d : Nat) (v1 : Int32) (v2 : Int32) (v3 : Int32) (v4 : Int32) (v5 : Int32) (s : qS) : qle (bI (qev en d 343 [.int v3] s) (fun w1 s2 => if w1 = (0 : Int32) then L_X12_isDirect_109 en d v1 v2 v3 v4 v5 (0 : Int32) s2 else L_X12_isDirect_109 en d v1 v2 v3 v4 v5 (1 : Int32) s2)) (L_X12_isDirect_97 en d v1 v2 v3 v4 v5 s) := by
  show qle _ (qE (qev en d) en (some .boolean) tb_X12_isDirect (97, [(0, .ref 151), (1, .int v1), (2, .int v2), (3, .int v3), (4, .int v4), (5, .int v5)], []) s)
  refine e_L 1 (f' := (98, [(0, .ref 151), (1, .int v1), (2, .int v2), (3, .int v3), (4, .int v4), (5, .int v5)], [.int v3])) rfl ?_
  refine e_sI 343 rfl rfl rfl ix_X12_isAtOnce rfl (Nat.le_of_ble_eq_true rfl) (fun w1 s2 e3 => ?_)
  refine e_ifz 108 rfl rfl rfl (fun c4 => ?_) (fun c4 => ?_)
  · refine e_L 1 (f' := (109, [(0, .ref 151), (1, .int v1), (2, .int v2), (3, .int v3), (4, .int v4), (5, .int v5)], [.int (0 : Int32)])) rfl ?_
    exact qE_sub (qsubL [0, 1, 2, 3, 4, 5] rfl (ks := [0, 1, 2, 3, 4, 5]) rfl (by decide))
  · refine e_L 2 (f' := (109, [(0, .ref 151), (1, .int v1), (2, .int v2), (3, .int v3), (4, .int v4), (5, .int v5)], [.int (1 : Int32)])) rfl ?_
    exact qE_sub (qsubL [0, 1, 2, 3, 4, 5] rfl (ks := [0, 1, 2, 3, 4, 5]) rfl (by decide))
set_option maxRecDepth 100000 in
set_option maxHeartbeats 4000000 in
theorem le_X12_isDirect_109 (en : pN) (d : Nat) (v1 : Int32) (v2 : Int32) (v3 : Int32) (v4 : Int32) (v5 : Int32) (vs0 : Int32) (s : qS) : qle (if ¬ v4 = (1 : Int32) then L_X12_isDirect_141 en d v1 v2 v3 v4 v5 vs0 s else if ¬ v4 = (1 : Int32) then L_X12_isDirect_137 en d v1 v2 v3 v4 v5 vs0 (0 : Int32) s else gd (p_inB v2 200 = true) (L_X12_isDirect_137 en d v1 v2 v3 v4 v5 vs0 (s.1 197 v2.toNatClampNeg) s)) (L_X12_isDirect_109 en d v1 v2 v3 v4 v5 vs0 s) := by
  show qle _ (qE (qev en d) en (some .boolean) tb_X12_isDirect (109, [(0, .ref 151), (1, .int v1), (2, .int v2), (3, .int v3), (4, .int v4), (5, .int v5)], [.int vs0]) s)
  refine e_L 3 (f' := (114, [(6, .int vs0), (0, .ref 151), (1, .int v1), (2, .int v2), (3, .int v3), (4, .int v4), (5, .int v5)], [.int (1 : Int32), .int v4])) rfl ?_
  refine e_icmp 141 rfl rfl rfl (fun c1 => ?_) (fun c1 => ?_)
  · exact qE_sub (qsubL [1, 2, 3, 4, 5, 6, 0] rfl (ks := [6, 0, 1, 2, 3, 4, 5]) rfl (by decide))
  · refine e_L 1 (f' := (118, [(6, .int vs0), (0, .ref 151), (1, .int v1), (2, .int v2), (3, .int v3), (4, .int v4), (5, .int v5)], [.ref 151])) rfl ?_
    refine e_gR (q := 155) 12 15 rfl rfl lc_151 lr_151_15 ?_
    refine e_L 2 (f' := (124, [(6, .int vs0), (0, .ref 151), (1, .int v1), (2, .int v2), (3, .int v3), (4, .int v4), (5, .int v5)], [.int (1 : Int32), .int v4, .ref 155])) rfl ?_
    refine e_icmp 136 rfl rfl rfl (fun c2 => ?_) (fun c2 => ?_)
    · refine e_L 1 (f' := (137, [(6, .int vs0), (0, .ref 151), (1, .int v1), (2, .int v2), (3, .int v3), (4, .int v4), (5, .int v5)], [.int (0 : Int32), .ref 155])) rfl ?_
      exact qE_sub (qsubL [1, 2, 3, 4, 5, 6, 0] rfl (ks := [6, 0, 1, 2, 3, 4, 5]) rfl (by decide))
    · refine e_L 1 (f' := (128, [(6, .int vs0), (0, .ref 151), (1, .int v1), (2, .int v2), (3, .int v3), (4, .int v4), (5, .int v5)], [.ref 151, .ref 155])) rfl ?_
      refine e_gR (q := 197) 12 83 rfl rfl lc_151 lr_151_83 ?_
      refine e_L 1 (f' := (132, [(6, .int vs0), (0, .ref 151), (1, .int v1), (2, .int v2), (3, .int v3), (4, .int v4), (5, .int v5)], [.int v2, .ref 197, .ref 155])) rfl ?_
      refine qle_gd fun h3 => ?_
      refine e_ial (n := 200) (k := v2.toNatClampNeg) rfl lc_197 ln_197 h3 rfl ?_
      refine e_L 1 (f' := (137, [(6, .int vs0), (0, .ref 151), (1, .int v1), (2, .int v2), (3, .int v3), (4, .int v4), (5, .int v5)], [.int (s.1 197 v2.toNatClampNeg), .ref 155])) rfl ?_
      exact qE_sub (qsubL [1, 2, 3, 4, 5, 6, 0] rfl (ks := [6, 0, 1, 2, 3, 4, 5]) rfl (by decide))
set_option maxRecDepth 100000 in
set_option maxHeartbeats 4000000 in
theorem le_X12_isDirect_137 (en : pN) (d : Nat) (v1 : Int32) (v2 : Int32) (v3 : Int32) (v4 : Int32) (v5 : Int32) (v6 : Int32) (vs1 : Int32) (s : qS) : qle (gd (p_inB vs1 8 = true) (if ¬ (s.1 155 vs1.toNatClampNeg) = (0 : Int32) then L_X12_isDirect_154 en d v1 v2 v3 v4 v5 v6 (1 : Int32) s else L_X12_isDirect_141 en d v1 v2 v3 v4 v5 v6 s)) (L_X12_isDirect_137 en d v1 v2 v3 v4 v5 v6 vs1 s) := by
  show qle _ (qE (qev en d) en (some .boolean) tb_X12_isDirect (137, [(0, .ref 151), (1, .int v1), (2, .int v2), (3, .int v3), (4, .int v4), (5, .int v5), (6, .int v6)], [.int vs1, .ref 155]) s)
  refine qle_gd fun h1 => ?_
  refine e_bal (n := 8) (k := vs1.toNatClampNeg) rfl (Or.inl lc_155) ln_155 h1 rfl ?_
  refine e_ifz 149 rfl rfl rfl (fun c2 => ?_) (fun c2 => ?_)
  · refine e_L 2 (f' := (154, [(0, .ref 151), (1, .int v1), (2, .int v2), (3, .int v3), (4, .int v4), (5, .int v5), (6, .int v6)], [.int (1 : Int32)])) rfl ?_
    exact qE_sub (qsubL [0, 1, 2, 3, 4, 5, 6] rfl (ks := [0, 1, 2, 3, 4, 5, 6]) rfl (by decide))
  · exact qE_sub (qsubL [0, 1, 2, 3, 4, 5, 6] rfl (ks := [0, 1, 2, 3, 4, 5, 6]) rfl (by decide))
set_option maxRecDepth 100000 in
set_option maxHeartbeats 4000000 in
theorem le_X12_isDirect_141 (en : pN) (d : Nat) (v1 : Int32) (v2 : Int32) (v3 : Int32) (v4 : Int32) (v5 : Int32) (v6 : Int32) (s : qS) : qle (bI (qev en d 343 [.int v4] s) (fun w1 s2 => if w1 = (0 : Int32) then L_X12_isDirect_154 en d v1 v2 v3 v4 v5 v6 (0 : Int32) s2 else L_X12_isDirect_154 en d v1 v2 v3 v4 v5 v6 (1 : Int32) s2)) (L_X12_isDirect_141 en d v1 v2 v3 v4 v5 v6 s) := by
  show qle _ (qE (qev en d) en (some .boolean) tb_X12_isDirect (141, [(0, .ref 151), (1, .int v1), (2, .int v2), (3, .int v3), (4, .int v4), (5, .int v5), (6, .int v6)], []) s)
  refine e_L 1 (f' := (143, [(0, .ref 151), (1, .int v1), (2, .int v2), (3, .int v3), (4, .int v4), (5, .int v5), (6, .int v6)], [.int v4])) rfl ?_
  refine e_sI 343 rfl rfl rfl ix_X12_isAtOnce rfl (Nat.le_of_ble_eq_true rfl) (fun w1 s2 e3 => ?_)
  refine e_ifz 153 rfl rfl rfl (fun c4 => ?_) (fun c4 => ?_)
  · refine e_L 1 (f' := (154, [(0, .ref 151), (1, .int v1), (2, .int v2), (3, .int v3), (4, .int v4), (5, .int v5), (6, .int v6)], [.int (0 : Int32)])) rfl ?_
    exact qE_sub (qsubL [0, 1, 2, 3, 4, 5, 6] rfl (ks := [0, 1, 2, 3, 4, 5, 6]) rfl (by decide))
  · refine e_L 2 (f' := (154, [(0, .ref 151), (1, .int v1), (2, .int v2), (3, .int v3), (4, .int v4), (5, .int v5), (6, .int v6)], [.int (1 : Int32)])) rfl ?_
    exact qE_sub (qsubL [0, 1, 2, 3, 4, 5, 6] rfl (ks := [0, 1, 2, 3, 4, 5, 6]) rfl (by decide))
set_option maxRecDepth 100000 in
set_option maxHeartbeats 4000000 in
theorem le_X12_isDirect_154 (en : pN) (d : Nat) (v1 : Int32) (v2 : Int32) (v3 : Int32) (v4 : Int32) (v5 : Int32) (v6 : Int32) (vs0 : Int32) (s : qS) : qle (if ¬ v3 = (10 : Int32) then L_X12_isDirect_177 en d v1 v2 v3 v4 v5 v6 vs0 s else gd (p_inB v1 200 = true) (gd (p_inB v2 200 = true) (if (s.1 197 v1.toNatClampNeg) = (s.1 193 v2.toNatClampNeg) then some (some (.int (1 : Int32)), s) else L_X12_isDirect_177 en d v1 v2 v3 v4 v5 v6 vs0 s))) (L_X12_isDirect_154 en d v1 v2 v3 v4 v5 v6 vs0 s) := by
  show qle _ (qE (qev en d) en (some .boolean) tb_X12_isDirect (154, [(0, .ref 151), (1, .int v1), (2, .int v2), (3, .int v3), (4, .int v4), (5, .int v5), (6, .int v6)], [.int vs0]) s)
  refine e_L 3 (f' := (159, [(7, .int vs0), (0, .ref 151), (1, .int v1), (2, .int v2), (3, .int v3), (4, .int v4), (5, .int v5), (6, .int v6)], [.int (10 : Int32), .int v3])) rfl ?_
  refine e_icmp 177 rfl rfl rfl (fun c1 => ?_) (fun c1 => ?_)
  · exact qE_sub (qsubL [1, 2, 3, 4, 5, 6, 7, 0] rfl (ks := [7, 0, 1, 2, 3, 4, 5, 6]) rfl (by decide))
  · refine e_L 1 (f' := (163, [(7, .int vs0), (0, .ref 151), (1, .int v1), (2, .int v2), (3, .int v3), (4, .int v4), (5, .int v5), (6, .int v6)], [.ref 151])) rfl ?_
    refine e_gR (q := 197) 12 83 rfl rfl lc_151 lr_151_83 ?_
    refine e_L 1 (f' := (167, [(7, .int vs0), (0, .ref 151), (1, .int v1), (2, .int v2), (3, .int v3), (4, .int v4), (5, .int v5), (6, .int v6)], [.int v1, .ref 197])) rfl ?_
    refine qle_gd fun h2 => ?_
    refine e_ial (n := 200) (k := v1.toNatClampNeg) rfl lc_197 ln_197 h2 rfl ?_
    refine e_L 1 (f' := (169, [(7, .int vs0), (0, .ref 151), (1, .int v1), (2, .int v2), (3, .int v3), (4, .int v4), (5, .int v5), (6, .int v6)], [.ref 151, .int (s.1 197 v1.toNatClampNeg)])) rfl ?_
    refine e_gR (q := 193) 12 79 rfl rfl lc_151 lr_151_79 ?_
    refine e_L 1 (f' := (173, [(7, .int vs0), (0, .ref 151), (1, .int v1), (2, .int v2), (3, .int v3), (4, .int v4), (5, .int v5), (6, .int v6)], [.int v2, .ref 193, .int (s.1 197 v1.toNatClampNeg)])) rfl ?_
    refine qle_gd fun h3 => ?_
    refine e_ial (n := 200) (k := v2.toNatClampNeg) rfl lc_193 ln_193 h3 rfl ?_
    refine e_icmp 257 rfl rfl rfl (fun c4 => ?_) (fun c4 => ?_)
    · refine e_L 2 (f' := (262, [(7, .int vs0), (0, .ref 151), (1, .int v1), (2, .int v2), (3, .int v3), (4, .int v4), (5, .int v5), (6, .int v6)], [.int (1 : Int32)])) rfl ?_
      exact e_rZ rfl rfl (by decide)
    · exact qE_sub (qsubL [1, 2, 3, 4, 5, 6, 7, 0] rfl (ks := [7, 0, 1, 2, 3, 4, 5, 6]) rfl (by decide))
set_option maxRecDepth 100000 in
set_option maxHeartbeats 4000000 in
theorem le_X12_isDirect_177 (en : pN) (d : Nat) (v1 : Int32) (v2 : Int32) (v3 : Int32) (v4 : Int32) (v5 : Int32) (v6 : Int32) (v7 : Int32) (s : qS) : qle (if ¬ v4 = (11 : Int32) then L_X12_isDirect_199 en d v3 v4 v5 v6 v7 s else gd (p_inB v2 200 = true) (gd (p_inB v1 200 = true) (if (s.1 197 v2.toNatClampNeg) = (s.1 193 v1.toNatClampNeg) then some (some (.int (1 : Int32)), s) else L_X12_isDirect_199 en d v3 v4 v5 v6 v7 s))) (L_X12_isDirect_177 en d v1 v2 v3 v4 v5 v6 v7 s) := by
  show qle _ (qE (qev en d) en (some .boolean) tb_X12_isDirect (177, [(0, .ref 151), (1, .int v1), (2, .int v2), (3, .int v3), (4, .int v4), (5, .int v5), (6, .int v6), (7, .int v7)], []) s)
  refine e_L 2 (f' := (181, [(0, .ref 151), (1, .int v1), (2, .int v2), (3, .int v3), (4, .int v4), (5, .int v5), (6, .int v6), (7, .int v7)], [.int (11 : Int32), .int v4])) rfl ?_
  refine e_icmp 199 rfl rfl rfl (fun c1 => ?_) (fun c1 => ?_)
  · exact qE_sub (qsubL [3, 4, 5, 6, 7] rfl (ks := [0, 1, 2, 3, 4, 5, 6, 7]) rfl (by decide))
  · refine e_L 1 (f' := (185, [(0, .ref 151), (1, .int v1), (2, .int v2), (3, .int v3), (4, .int v4), (5, .int v5), (6, .int v6), (7, .int v7)], [.ref 151])) rfl ?_
    refine e_gR (q := 197) 12 83 rfl rfl lc_151 lr_151_83 ?_
    refine e_L 1 (f' := (189, [(0, .ref 151), (1, .int v1), (2, .int v2), (3, .int v3), (4, .int v4), (5, .int v5), (6, .int v6), (7, .int v7)], [.int v2, .ref 197])) rfl ?_
    refine qle_gd fun h2 => ?_
    refine e_ial (n := 200) (k := v2.toNatClampNeg) rfl lc_197 ln_197 h2 rfl ?_
    refine e_L 1 (f' := (191, [(0, .ref 151), (1, .int v1), (2, .int v2), (3, .int v3), (4, .int v4), (5, .int v5), (6, .int v6), (7, .int v7)], [.ref 151, .int (s.1 197 v2.toNatClampNeg)])) rfl ?_
    refine e_gR (q := 193) 12 79 rfl rfl lc_151 lr_151_79 ?_
    refine e_L 1 (f' := (195, [(0, .ref 151), (1, .int v1), (2, .int v2), (3, .int v3), (4, .int v4), (5, .int v5), (6, .int v6), (7, .int v7)], [.int v1, .ref 193, .int (s.1 197 v2.toNatClampNeg)])) rfl ?_
    refine qle_gd fun h3 => ?_
    refine e_ial (n := 200) (k := v1.toNatClampNeg) rfl lc_193 ln_193 h3 rfl ?_
    refine e_icmp 257 rfl rfl rfl (fun c4 => ?_) (fun c4 => ?_)
    · refine e_L 2 (f' := (262, [(0, .ref 151), (1, .int v1), (2, .int v2), (3, .int v3), (4, .int v4), (5, .int v5), (6, .int v6), (7, .int v7)], [.int (1 : Int32)])) rfl ?_
      exact e_rZ rfl rfl (by decide)
    · exact qE_sub (qsubL [3, 4, 5, 6, 7] rfl (ks := [0, 1, 2, 3, 4, 5, 6, 7]) rfl (by decide))
set_option maxRecDepth 100000 in
set_option maxHeartbeats 4000000 in
theorem le_X12_isDirect_199 (en : pN) (d : Nat) (v3 : Int32) (v4 : Int32) (v5 : Int32) (v6 : Int32) (v7 : Int32) (s : qS) : qle (if v5 = (0 : Int32) then L_X12_isDirect_229 en d v3 v4 v5 v6 v7 s else if v3 = (6 : Int32) then L_X12_isDirect_216 en d v3 v4 v5 v6 v7 s else if ¬ v3 = (7 : Int32) then L_X12_isDirect_229 en d v3 v4 v5 v6 v7 s else L_X12_isDirect_216 en d v3 v4 v5 v6 v7 s) (L_X12_isDirect_199 en d v3 v4 v5 v6 v7 s) := by
  show qle _ (qE (qev en d) en (some .boolean) tb_X12_isDirect (199, [(3, .int v3), (4, .int v4), (5, .int v5), (6, .int v6), (7, .int v7)], []) s)
  refine e_L 1 (f' := (201, [(3, .int v3), (4, .int v4), (5, .int v5), (6, .int v6), (7, .int v7)], [.int v5])) rfl ?_
  refine e_ifz 229 rfl rfl rfl (fun c1 => ?_) (fun c1 => ?_)
  · exact qE_sub (qsubL [0, 1, 2, 3, 4] rfl (ks := [3, 4, 5, 6, 7]) rfl (by decide))
  · refine e_L 2 (f' := (207, [(3, .int v3), (4, .int v4), (5, .int v5), (6, .int v6), (7, .int v7)], [.int (6 : Int32), .int v3])) rfl ?_
    refine e_icmp 216 rfl rfl rfl (fun c2 => ?_) (fun c2 => ?_)
    · exact qE_sub (qsubL [0, 1, 2, 3, 4] rfl (ks := [3, 4, 5, 6, 7]) rfl (by decide))
    · refine e_L 2 (f' := (213, [(3, .int v3), (4, .int v4), (5, .int v5), (6, .int v6), (7, .int v7)], [.int (7 : Int32), .int v3])) rfl ?_
      refine e_icmp 229 rfl rfl rfl (fun c3 => ?_) (fun c3 => ?_)
      · exact qE_sub (qsubL [0, 1, 2, 3, 4] rfl (ks := [3, 4, 5, 6, 7]) rfl (by decide))
      · exact qE_sub (qsubL [0, 1, 2, 3, 4] rfl (ks := [3, 4, 5, 6, 7]) rfl (by decide))
set_option maxRecDepth 100000 in
set_option maxHeartbeats 4000000 in
theorem le_X12_isDirect_216 (en : pN) (d : Nat) (v3 : Int32) (v4 : Int32) (v5 : Int32) (v6 : Int32) (v7 : Int32) (s : qS) : qle (if v4 = (5 : Int32) then some (some (.int (1 : Int32)), s) else if v4 = (19 : Int32) then some (some (.int (1 : Int32)), s) else L_X12_isDirect_229 en d v3 v4 v5 v6 v7 s) (L_X12_isDirect_216 en d v3 v4 v5 v6 v7 s) := by
  show qle _ (qE (qev en d) en (some .boolean) tb_X12_isDirect (216, [(3, .int v3), (4, .int v4), (5, .int v5), (6, .int v6), (7, .int v7)], []) s)
  refine e_L 2 (f' := (219, [(3, .int v3), (4, .int v4), (5, .int v5), (6, .int v6), (7, .int v7)], [.int (5 : Int32), .int v4])) rfl ?_
  refine e_icmp 257 rfl rfl rfl (fun c1 => ?_) (fun c1 => ?_)
  · refine e_L 2 (f' := (262, [(3, .int v3), (4, .int v4), (5, .int v5), (6, .int v6), (7, .int v7)], [.int (1 : Int32)])) rfl ?_
    exact e_rZ rfl rfl (by decide)
  · refine e_L 2 (f' := (226, [(3, .int v3), (4, .int v4), (5, .int v5), (6, .int v6), (7, .int v7)], [.int (19 : Int32), .int v4])) rfl ?_
    refine e_icmp 257 rfl rfl rfl (fun c2 => ?_) (fun c2 => ?_)
    · refine e_L 2 (f' := (262, [(3, .int v3), (4, .int v4), (5, .int v5), (6, .int v6), (7, .int v7)], [.int (1 : Int32)])) rfl ?_
      exact e_rZ rfl rfl (by decide)
    · exact qE_sub (qsubL [0, 1, 2, 3, 4] rfl (ks := [3, 4, 5, 6, 7]) rfl (by decide))
set_option maxRecDepth 100000 in
set_option maxHeartbeats 4000000 in
theorem le_X12_isDirect_229 (en : pN) (d : Nat) (v3 : Int32) (v4 : Int32) (v5 : Int32) (v6 : Int32) (v7 : Int32) (s : qS) : qle (if v5 = (0 : Int32) then L_X12_isDirect_244 en d v3 v4 s else if v6 = (0 : Int32) then L_X12_isDirect_244 en d v3 v4 s else if ¬ v7 = (0 : Int32) then some (some (.int (1 : Int32)), s) else L_X12_isDirect_244 en d v3 v4 s) (L_X12_isDirect_229 en d v3 v4 v5 v6 v7 s) := by
  show qle _ (qE (qev en d) en (some .boolean) tb_X12_isDirect (229, [(3, .int v3), (4, .int v4), (5, .int v5), (6, .int v6), (7, .int v7)], []) s)
  refine e_L 1 (f' := (231, [(3, .int v3), (4, .int v4), (5, .int v5), (6, .int v6), (7, .int v7)], [.int v5])) rfl ?_
  refine e_ifz 244 rfl rfl rfl (fun c1 => ?_) (fun c1 => ?_)
  · exact qE_sub (qsubL [0, 1] rfl (ks := [3, 4, 5, 6, 7]) rfl (by decide))
  · refine e_L 1 (f' := (236, [(3, .int v3), (4, .int v4), (5, .int v5), (6, .int v6), (7, .int v7)], [.int v6])) rfl ?_
    refine e_ifz 244 rfl rfl rfl (fun c2 => ?_) (fun c2 => ?_)
    · exact qE_sub (qsubL [0, 1] rfl (ks := [3, 4, 5, 6, 7]) rfl (by decide))
    · refine e_L 1 (f' := (241, [(3, .int v3), (4, .int v4), (5, .int v5), (6, .int v6), (7, .int v7)], [.int v7])) rfl ?_
      refine e_ifz 257 rfl rfl rfl (fun c3 => ?_) (fun c3 => ?_)
      · refine e_L 2 (f' := (262, [(3, .int v3), (4, .int v4), (5, .int v5), (6, .int v6), (7, .int v7)], [.int (1 : Int32)])) rfl ?_
        exact e_rZ rfl rfl (by decide)
      · exact qE_sub (qsubL [0, 1] rfl (ks := [3, 4, 5, 6, 7]) rfl (by decide))
set_option maxRecDepth 100000 in
set_option maxHeartbeats 4000000 in
theorem le_X12_isDirect_244 (en : pN) (d : Nat) (v3 : Int32) (v4 : Int32) (s : qS) : qle (if ¬ v3 = (12 : Int32) then some (some (.int (0 : Int32)), s) else if ¬ v4 = (12 : Int32) then some (some (.int (0 : Int32)), s) else some (some (.int (1 : Int32)), s)) (L_X12_isDirect_244 en d v3 v4 s) := by
  show qle _ (qE (qev en d) en (some .boolean) tb_X12_isDirect (244, [(3, .int v3), (4, .int v4)], []) s)
  refine e_L 2 (f' := (247, [(3, .int v3), (4, .int v4)], [.int (12 : Int32), .int v3])) rfl ?_
  refine e_icmp 261 rfl rfl rfl (fun c1 => ?_) (fun c1 => ?_)
  · refine e_L 1 (f' := (262, [(3, .int v3), (4, .int v4)], [.int (0 : Int32)])) rfl ?_
    exact e_rZ rfl rfl (by decide)
  · refine e_L 2 (f' := (254, [(3, .int v3), (4, .int v4)], [.int (12 : Int32), .int v4])) rfl ?_
    refine e_icmp 261 rfl rfl rfl (fun c2 => ?_) (fun c2 => ?_)
    · refine e_L 1 (f' := (262, [(3, .int v3), (4, .int v4)], [.int (0 : Int32)])) rfl ?_
      exact e_rZ rfl rfl (by decide)
    · refine e_L 2 (f' := (262, [(3, .int v3), (4, .int v4)], [.int (1 : Int32)])) rfl ?_
      exact e_rZ rfl rfl (by decide)
set_option maxRecDepth 100000 in
set_option maxHeartbeats 4000000 in
theorem le_X12_isDirect (en : pN) (d : Nat) (a1 : Int32) (a2 : Int32) (s : qS) : qle (gd (p_inB a1 200 = true) (nm (s.1 196 a1.toNatClampNeg) (fun z2 => gd (p_inB a2 200 = true) (nm (s.1 196 a2.toNatClampNeg) (fun z4 => if z2 = (20 : Int32) then some (some (.int (0 : Int32)), s) else if ¬ z4 = (20 : Int32) then if ¬ (s.1 193 a1.toNatClampNeg) = (s.1 193 a2.toNatClampNeg) then if ¬ (s.1 197 a1.toNatClampNeg) = (s.1 197 a2.toNatClampNeg) then L_X12_isDirect_67 en d a1 a2 z2 z4 (0 : Int32) s else L_X12_isDirect_67 en d a1 a2 z2 z4 (1 : Int32) s else some (some (.int (1 : Int32)), s) else some (some (.int (0 : Int32)), s)))))) (qev en (d + 1) 344 [.ref 151, .int a1, .int a2] s) := by
  refine e_enter ix_X12_isDirect (Nat.le_of_ble_eq_true rfl) ?_
  show qle _ (qE (qev en d) en (some .boolean) tb_X12_isDirect (0, [(0, .ref 151), (1, .int a1), (2, .int a2)], []) s)
  refine e_L 1 (f' := (1, [(0, .ref 151), (1, .int a1), (2, .int a2)], [.ref 151])) rfl ?_
  refine e_gR (q := 196) 12 82 rfl rfl lc_151 lr_151_82 ?_
  refine e_L 1 (f' := (5, [(0, .ref 151), (1, .int a1), (2, .int a2)], [.int a1, .ref 196])) rfl ?_
  refine qle_gd fun h1 => ?_
  refine e_ial (n := 200) (k := a1.toNatClampNeg) rfl lc_196 ln_196 h1 rfl ?_
  refine e_nI fun z2 => ?_
  refine e_L 2 (f' := (8, [(3, .int z2), (0, .ref 151), (1, .int a1), (2, .int a2)], [.ref 151])) rfl ?_
  refine e_gR (q := 196) 12 82 rfl rfl lc_151 lr_151_82 ?_
  refine e_L 1 (f' := (12, [(3, .int z2), (0, .ref 151), (1, .int a1), (2, .int a2)], [.int a2, .ref 196])) rfl ?_
  refine qle_gd fun h3 => ?_
  refine e_ial (n := 200) (k := a2.toNatClampNeg) rfl lc_196 ln_196 h3 rfl ?_
  refine e_nI fun z4 => ?_
  refine e_L 3 (f' := (18, [(4, .int z4), (3, .int z2), (0, .ref 151), (1, .int a1), (2, .int a2)], [.int (20 : Int32), .int z2])) rfl ?_
  refine e_icmp 28 rfl rfl rfl (fun c5 => ?_) (fun c5 => ?_)
  · refine e_L 1 (f' := (29, [(4, .int z4), (3, .int z2), (0, .ref 151), (1, .int a1), (2, .int a2)], [.int (0 : Int32)])) rfl ?_
    exact e_rZ rfl rfl (by decide)
  · refine e_L 2 (f' := (25, [(4, .int z4), (3, .int z2), (0, .ref 151), (1, .int a1), (2, .int a2)], [.int (20 : Int32), .int z4])) rfl ?_
    refine e_icmp 30 rfl rfl rfl (fun c6 => ?_) (fun c6 => ?_)
    · refine e_L 1 (f' := (31, [(4, .int z4), (3, .int z2), (0, .ref 151), (1, .int a1), (2, .int a2)], [.ref 151])) rfl ?_
      refine e_gR (q := 193) 12 79 rfl rfl lc_151 lr_151_79 ?_
      refine e_L 1 (f' := (35, [(4, .int z4), (3, .int z2), (0, .ref 151), (1, .int a1), (2, .int a2)], [.int a1, .ref 193])) rfl ?_
      refine e_ial (n := 200) (k := a1.toNatClampNeg) rfl lc_193 ln_193 h1 rfl ?_
      refine e_L 1 (f' := (37, [(4, .int z4), (3, .int z2), (0, .ref 151), (1, .int a1), (2, .int a2)], [.ref 151, .int (s.1 193 a1.toNatClampNeg)])) rfl ?_
      refine e_gR (q := 193) 12 79 rfl rfl lc_151 lr_151_79 ?_
      refine e_L 1 (f' := (41, [(4, .int z4), (3, .int z2), (0, .ref 151), (1, .int a1), (2, .int a2)], [.int a2, .ref 193, .int (s.1 193 a1.toNatClampNeg)])) rfl ?_
      refine e_ial (n := 200) (k := a2.toNatClampNeg) rfl lc_193 ln_193 h3 rfl ?_
      refine e_icmp 47 rfl rfl rfl (fun c7 => ?_) (fun c7 => ?_)
      · refine e_L 1 (f' := (48, [(4, .int z4), (3, .int z2), (0, .ref 151), (1, .int a1), (2, .int a2)], [.ref 151])) rfl ?_
        refine e_gR (q := 197) 12 83 rfl rfl lc_151 lr_151_83 ?_
        refine e_L 1 (f' := (52, [(4, .int z4), (3, .int z2), (0, .ref 151), (1, .int a1), (2, .int a2)], [.int a1, .ref 197])) rfl ?_
        refine e_ial (n := 200) (k := a1.toNatClampNeg) rfl lc_197 ln_197 h1 rfl ?_
        refine e_L 1 (f' := (54, [(4, .int z4), (3, .int z2), (0, .ref 151), (1, .int a1), (2, .int a2)], [.ref 151, .int (s.1 197 a1.toNatClampNeg)])) rfl ?_
        refine e_gR (q := 197) 12 83 rfl rfl lc_151 lr_151_83 ?_
        refine e_L 1 (f' := (58, [(4, .int z4), (3, .int z2), (0, .ref 151), (1, .int a1), (2, .int a2)], [.int a2, .ref 197, .int (s.1 197 a1.toNatClampNeg)])) rfl ?_
        refine e_ial (n := 200) (k := a2.toNatClampNeg) rfl lc_197 ln_197 h3 rfl ?_
        refine e_icmp 66 rfl rfl rfl (fun c8 => ?_) (fun c8 => ?_)
        · refine e_L 1 (f' := (67, [(4, .int z4), (3, .int z2), (0, .ref 151), (1, .int a1), (2, .int a2)], [.int (0 : Int32)])) rfl ?_
          exact qE_sub (qsubL [2, 3, 4, 1, 0] rfl (ks := [4, 3, 0, 1, 2]) rfl (by decide))
        · refine e_L 2 (f' := (67, [(4, .int z4), (3, .int z2), (0, .ref 151), (1, .int a1), (2, .int a2)], [.int (1 : Int32)])) rfl ?_
          exact qE_sub (qsubL [2, 3, 4, 1, 0] rfl (ks := [4, 3, 0, 1, 2]) rfl (by decide))
      · refine e_L 1 (f' := (46, [(4, .int z4), (3, .int z2), (0, .ref 151), (1, .int a1), (2, .int a2)], [.int (1 : Int32)])) rfl ?_
        exact e_rZ rfl rfl (by decide)
    · refine e_L 1 (f' := (29, [(4, .int z4), (3, .int z2), (0, .ref 151), (1, .int a1), (2, .int a2)], [.int (0 : Int32)])) rfl ?_
      exact e_rZ rfl rfl (by decide)
noncomputable def L_X12_layBefore_2 (en : pN) (d : Nat) (v1 : Int32) (s : qS) : Option qR := qE (qev en d) en none tb_X12_layBefore (2, [(0, .ref 151), (1, .int v1)], []) s
noncomputable def L_X12_layBefore_12 (en : pN) (d : Nat) (v1 : Int32) (v2 : Int32) (s : qS) : Option qR := qE (qev en d) en none tb_X12_layBefore (12, [(0, .ref 151), (1, .int v1), (2, .int v2)], []) s
noncomputable def L_X12_layBefore_43 (en : pN) (d : Nat) (v1 : Int32) (v2 : Int32) (s : qS) : Option qR := qE (qev en d) en none tb_X12_layBefore (43, [(0, .ref 151), (1, .int v1), (2, .int v2)], []) s
noncomputable def L_X12_layBefore_71 (en : pN) (d : Nat) (v1 : Int32) (v2 : Int32) (v3 : Int32) (s : qS) : Option qR := qE (qev en d) en none tb_X12_layBefore (71, [(0, .ref 151), (1, .int v1), (2, .int v2), (3, .int v3)], []) s
noncomputable def L_X12_layBefore_122 (en : pN) (d : Nat) (v1 : Int32) (v2 : Int32) (v3 : Int32) (vs1 : Int32) (vs2 : Int32) (s : qS) : Option qR := qE (qev en d) en none tb_X12_layBefore (122, [(0, .ref 151), (1, .int v1), (2, .int v2), (3, .int v3)], [.int vs2, .int vs1, .ref 200]) s
set_option maxRecDepth 100000 in
set_option maxHeartbeats 4000000 in
theorem le_X12_layBefore_2 (en : pN) (d : Nat) (v1 : Int32) (s : qS) : qle (if (s.1 151 78) ≤ v1 then some (none, s) else L_X12_layBefore_12 en d v1 (0 : Int32) s) (L_X12_layBefore_2 en d v1 s) := by
  show qle _ (qE (qev en d) en none tb_X12_layBefore (2, [(0, .ref 151), (1, .int v1)], []) s)
  refine e_L 2 (f' := (4, [(0, .ref 151), (1, .int v1)], [.ref 151, .int v1])) rfl ?_
  refine e_gI 12 78 rfl rfl lc_151 ?_
  refine e_icmp 141 rfl rfl rfl (fun c1 => ?_) (fun c1 => ?_)
  · exact e_rV rfl rfl
  · refine e_L 2 (f' := (12, [(2, .int (0 : Int32)), (0, .ref 151), (1, .int v1)], [])) rfl ?_
    exact qE_sub (qsubL [1, 2, 0] rfl (ks := [2, 0, 1]) rfl (by decide))
set_option maxRecDepth 100000 in
set_option maxHeartbeats 4000000 in
theorem le_X12_layBefore_12 (en : pN) (d : Nat) (v1 : Int32) (v2 : Int32) (s : qS) : qle (if (s.1 151 78) ≤ v2 then L_X12_layBefore_43 en d v1 (v1 - (1 : Int32)) s else gd (p_inB (((200 : Int32) * v2) + v1) 40000 = true) (nm (uI s 200 ((((200 : Int32) * v2) + v1).toNatClampNeg) (vp_nar .boolean (0 : Int32))) (fun s3 => L_X12_layBefore_12 en d v1 (v2 + (1 : Int32)) s3))) (L_X12_layBefore_12 en d v1 v2 s) := by
  show qle _ (qE (qev en d) en none tb_X12_layBefore (12, [(0, .ref 151), (1, .int v1), (2, .int v2)], []) s)
  refine e_L 2 (f' := (14, [(0, .ref 151), (1, .int v1), (2, .int v2)], [.ref 151, .int v2])) rfl ?_
  refine e_gI 12 78 rfl rfl lc_151 ?_
  refine e_icmp 39 rfl rfl rfl (fun c1 => ?_) (fun c1 => ?_)
  · refine e_L 4 (f' := (43, [(2, .int (v1 - (1 : Int32))), (0, .ref 151), (1, .int v1)], [])) rfl ?_
    exact qE_sub (qsubL [1, 2, 0] rfl (ks := [2, 0, 1]) rfl (by decide))
  · refine e_L 1 (f' := (21, [(0, .ref 151), (1, .int v1), (2, .int v2)], [.ref 151])) rfl ?_
    refine e_gR (q := 200) 12 86 rfl rfl lc_151 lr_151_86 ?_
    refine e_L 6 (f' := (32, [(0, .ref 151), (1, .int v1), (2, .int v2)], [.int (0 : Int32), .int (((200 : Int32) * v2) + v1), .ref 200])) rfl ?_
    refine qle_gd fun h2 => ?_
    refine e_bas (n := 40000) (k := (((200 : Int32) * v2) + v1).toNatClampNeg) rfl lc_200 ln_200 h2 rfl ?_
    refine e_nS fun s3 => ?_
    refine e_L 2 (f' := (12, [(2, .int (v2 + (1 : Int32))), (0, .ref 151), (1, .int v1)], [])) rfl ?_
    exact qE_sub (qsubL [1, 2, 0] rfl (ks := [2, 0, 1]) rfl (by decide))
set_option maxRecDepth 100000 in
set_option maxHeartbeats 4000000 in
theorem le_X12_layBefore_43 (en : pN) (d : Nat) (v1 : Int32) (v2 : Int32) (s : qS) : qle (if v2 < (0 : Int32) then L_X12_layBefore_2 en d (v1 + (1 : Int32)) s else bI (qev en d 344 [.ref 151, .int v2, .int v1] s) (fun w2 s3 => if w2 = (0 : Int32) then L_X12_layBefore_43 en d v1 (v2 + (-1 : Int32)) s3 else gd (p_inB (((200 : Int32) * v2) + v1) 40000 = true) (nm (uI s3 200 ((((200 : Int32) * v2) + v1).toNatClampNeg) (vp_nar .boolean (1 : Int32))) (fun s7 => L_X12_layBefore_71 en d v1 v2 (0 : Int32) s7)))) (L_X12_layBefore_43 en d v1 v2 s) := by
  show qle _ (qE (qev en d) en none tb_X12_layBefore (43, [(0, .ref 151), (1, .int v1), (2, .int v2)], []) s)
  refine e_L 1 (f' := (44, [(0, .ref 151), (1, .int v1), (2, .int v2)], [.int v2])) rfl ?_
  refine e_ifz 135 rfl rfl rfl (fun c1 => ?_) (fun c1 => ?_)
  · refine e_L 2 (f' := (2, [(1, .int (v1 + (1 : Int32))), (0, .ref 151), (2, .int v2)], [])) rfl ?_
    exact qE_sub (qsubL [1, 0] rfl (ks := [1, 0, 2]) rfl (by decide))
  · refine e_L 3 (f' := (50, [(0, .ref 151), (1, .int v1), (2, .int v2)], [.int v1, .int v2, .ref 151])) rfl ?_
    refine e_vI 344 rfl rfl ix_X12_isDirect rfl (q_recvOf lc_151 rfl) (Nat.le_of_ble_eq_true rfl) (fun w2 s3 e4 => ?_)
    refine e_ifz 129 rfl rfl rfl (fun c5 => ?_) (fun c5 => ?_)
    · refine e_L 2 (f' := (43, [(2, .int (v2 + (-1 : Int32))), (0, .ref 151), (1, .int v1)], [])) rfl ?_
      exact qE_sub (qsubL [1, 2, 0] rfl (ks := [2, 0, 1]) rfl (by decide))
    · refine e_L 1 (f' := (57, [(0, .ref 151), (1, .int v1), (2, .int v2)], [.ref 151])) rfl ?_
      refine e_gR (q := 200) 12 86 rfl rfl lc_151 lr_151_86 ?_
      refine e_L 6 (f' := (68, [(0, .ref 151), (1, .int v1), (2, .int v2)], [.int (1 : Int32), .int (((200 : Int32) * v2) + v1), .ref 200])) rfl ?_
      refine qle_gd fun h6 => ?_
      refine e_bas (n := 40000) (k := (((200 : Int32) * v2) + v1).toNatClampNeg) rfl lc_200 ln_200 h6 rfl ?_
      refine e_nS fun s7 => ?_
      refine e_L 2 (f' := (71, [(3, .int (0 : Int32)), (0, .ref 151), (1, .int v1), (2, .int v2)], [])) rfl ?_
      exact qE_sub (qsubL [1, 2, 3, 0] rfl (ks := [3, 0, 1, 2]) rfl (by decide))
set_option maxRecDepth 100000 in
set_option maxHeartbeats 4000000 in
theorem le_X12_layBefore_71 (en : pN) (d : Nat) (v1 : Int32) (v2 : Int32) (v3 : Int32) (s : qS) : qle (if v2 ≤ v3 then L_X12_layBefore_43 en d v1 (v2 + (-1 : Int32)) s else gd (p_inB (((200 : Int32) * v3) + v1) 40000 = true) (if ¬ (s.1 200 (((200 : Int32) * v3) + v1).toNatClampNeg) = (0 : Int32) then L_X12_layBefore_122 en d v1 v2 v3 (((200 : Int32) * v3) + v1) (1 : Int32) s else gd (p_inB (((200 : Int32) * v3) + v2) 40000 = true) (if (s.1 200 (((200 : Int32) * v3) + v2).toNatClampNeg) = (0 : Int32) then L_X12_layBefore_122 en d v1 v2 v3 (((200 : Int32) * v3) + v1) (0 : Int32) s else L_X12_layBefore_122 en d v1 v2 v3 (((200 : Int32) * v3) + v1) (1 : Int32) s))) (L_X12_layBefore_71 en d v1 v2 v3 s) := by
  show qle _ (qE (qev en d) en none tb_X12_layBefore (71, [(0, .ref 151), (1, .int v1), (2, .int v2), (3, .int v3)], []) s)
  refine e_L 2 (f' := (73, [(0, .ref 151), (1, .int v1), (2, .int v2), (3, .int v3)], [.int v2, .int v3])) rfl ?_
  refine e_icmp 129 rfl rfl rfl (fun c1 => ?_) (fun c1 => ?_)
  · refine e_L 2 (f' := (43, [(2, .int (v2 + (-1 : Int32))), (0, .ref 151), (1, .int v1), (3, .int v3)], [])) rfl ?_
    exact qE_sub (qsubL [1, 2, 0] rfl (ks := [2, 0, 1, 3]) rfl (by decide))
  · refine e_L 1 (f' := (77, [(0, .ref 151), (1, .int v1), (2, .int v2), (3, .int v3)], [.ref 151])) rfl ?_
    refine e_gR (q := 200) 12 86 rfl rfl lc_151 lr_151_86 ?_
    refine e_L 6 (f' := (88, [(0, .ref 151), (1, .int v1), (2, .int v2), (3, .int v3)], [.ref 151, .int (((200 : Int32) * v3) + v1), .ref 200])) rfl ?_
    refine e_gR (q := 200) 12 86 rfl rfl lc_151 lr_151_86 ?_
    refine e_L 5 (f' := (98, [(0, .ref 151), (1, .int v1), (2, .int v2), (3, .int v3)], [.int (((200 : Int32) * v3) + v1), .ref 200, .int (((200 : Int32) * v3) + v1), .ref 200])) rfl ?_
    refine qle_gd fun h2 => ?_
    refine e_bal (n := 40000) (k := (((200 : Int32) * v3) + v1).toNatClampNeg) rfl (Or.inl lc_200) ln_200 h2 rfl ?_
    refine e_ifz 117 rfl rfl rfl (fun c3 => ?_) (fun c3 => ?_)
    · refine e_L 2 (f' := (122, [(0, .ref 151), (1, .int v1), (2, .int v2), (3, .int v3)], [.int (1 : Int32), .int (((200 : Int32) * v3) + v1), .ref 200])) rfl ?_
      exact qE_sub (qsubL [0, 1, 2, 3] rfl (ks := [0, 1, 2, 3]) rfl (by decide))
    · refine e_L 1 (f' := (103, [(0, .ref 151), (1, .int v1), (2, .int v2), (3, .int v3)], [.ref 151, .int (((200 : Int32) * v3) + v1), .ref 200])) rfl ?_
      refine e_gR (q := 200) 12 86 rfl rfl lc_151 lr_151_86 ?_
      refine e_L 5 (f' := (113, [(0, .ref 151), (1, .int v1), (2, .int v2), (3, .int v3)], [.int (((200 : Int32) * v3) + v2), .ref 200, .int (((200 : Int32) * v3) + v1), .ref 200])) rfl ?_
      refine qle_gd fun h4 => ?_
      refine e_bal (n := 40000) (k := (((200 : Int32) * v3) + v2).toNatClampNeg) rfl (Or.inl lc_200) ln_200 h4 rfl ?_
      refine e_ifz 121 rfl rfl rfl (fun c5 => ?_) (fun c5 => ?_)
      · refine e_L 1 (f' := (122, [(0, .ref 151), (1, .int v1), (2, .int v2), (3, .int v3)], [.int (0 : Int32), .int (((200 : Int32) * v3) + v1), .ref 200])) rfl ?_
        exact qE_sub (qsubL [0, 1, 2, 3] rfl (ks := [0, 1, 2, 3]) rfl (by decide))
      · refine e_L 2 (f' := (122, [(0, .ref 151), (1, .int v1), (2, .int v2), (3, .int v3)], [.int (1 : Int32), .int (((200 : Int32) * v3) + v1), .ref 200])) rfl ?_
        exact qE_sub (qsubL [0, 1, 2, 3] rfl (ks := [0, 1, 2, 3]) rfl (by decide))
set_option maxRecDepth 100000 in
set_option maxHeartbeats 4000000 in
theorem le_X12_layBefore_122 (en : pN) (d : Nat) (v1 : Int32) (v2 : Int32) (v3 : Int32) (vs1 : Int32) (vs2 : Int32) (s : qS) : qle (gd (p_inB vs1 40000 = true) (nm (uI s 200 (vs1.toNatClampNeg) (vp_nar .boolean vs2)) (fun s2 => L_X12_layBefore_71 en d v1 v2 (v3 + (1 : Int32)) s2))) (L_X12_layBefore_122 en d v1 v2 v3 vs1 vs2 s) := by
  show qle _ (qE (qev en d) en none tb_X12_layBefore (122, [(0, .ref 151), (1, .int v1), (2, .int v2), (3, .int v3)], [.int vs2, .int vs1, .ref 200]) s)
  refine qle_gd fun h1 => ?_
  refine e_bas (n := 40000) (k := vs1.toNatClampNeg) rfl lc_200 ln_200 h1 rfl ?_
  refine e_nS fun s2 => ?_
  refine e_L 2 (f' := (71, [(3, .int (v3 + (1 : Int32))), (0, .ref 151), (1, .int v1), (2, .int v2)], [])) rfl ?_
  exact qE_sub (qsubL [1, 2, 3, 0] rfl (ks := [3, 0, 1, 2]) rfl (by decide))
set_option maxRecDepth 100000 in
set_option maxHeartbeats 4000000 in
theorem le_X12_layBefore (en : pN) (d : Nat) (s : qS) : qle (L_X12_layBefore_2 en d (0 : Int32) s) (qev en (d + 1) 345 [.ref 151] s) := by
  refine e_enter ix_X12_layBefore (Nat.le_of_ble_eq_true rfl) ?_
  show qle _ (qE (qev en d) en none tb_X12_layBefore (0, [(0, .ref 151)], []) s)
  refine e_L 2 (f' := (2, [(1, .int (0 : Int32)), (0, .ref 151)], [])) rfl ?_
  exact qE_sub (qsubL [1, 0] rfl (ks := [1, 0]) rfl (by decide))
set_option maxRecDepth 100000 in
set_option maxHeartbeats 4000000 in
theorem le_X12_before (en : pN) (d : Nat) (a1 : Int32) (a2 : Int32) (s : qS) : qle (if (s.1 151 74) = (0 : Int32) then some (some (.int (-1 : Int32)), s) else if a1 < (0 : Int32) then some (some (.int (-1 : Int32)), s) else if (s.1 151 78) ≤ a1 then some (some (.int (-1 : Int32)), s) else if a2 < (0 : Int32) then some (some (.int (-1 : Int32)), s) else if a2 < (s.1 151 78) then bV (qev en d 345 [.ref 151] s) (fun s7 => if a2 ≤ a1 then some (some (.int (0 : Int32)), s7) else gd (p_inB (((200 : Int32) * a1) + a2) 40000 = true) (if (s7.1 200 (((200 : Int32) * a1) + a2).toNatClampNeg) = (0 : Int32) then some (some (.int (0 : Int32)), s7) else some (some (.int (1 : Int32)), s7))) else some (some (.int (-1 : Int32)), s)) (qev en (d + 1) 346 [.ref 151, .int a1, .int a2] s) := by
  refine e_enter ix_X12_before (Nat.le_of_ble_eq_true rfl) ?_
  show qle _ (qE (qev en d) en (some .int) tb_X12_before (0, [(0, .ref 151), (1, .int a1), (2, .int a2)], []) s)
  refine e_L 1 (f' := (1, [(0, .ref 151), (1, .int a1), (2, .int a2)], [.ref 151])) rfl ?_
  refine e_gI 12 74 rfl rfl lc_151 ?_
  refine e_ifz 31 rfl rfl rfl (fun c1 => ?_) (fun c1 => ?_)
  · refine e_L 1 (f' := (32, [(0, .ref 151), (1, .int a1), (2, .int a2)], [.int (-1 : Int32)])) rfl ?_
    exact e_rI rfl rfl
  · refine e_L 1 (f' := (8, [(0, .ref 151), (1, .int a1), (2, .int a2)], [.int a1])) rfl ?_
    refine e_ifz 31 rfl rfl rfl (fun c2 => ?_) (fun c2 => ?_)
    · refine e_L 1 (f' := (32, [(0, .ref 151), (1, .int a1), (2, .int a2)], [.int (-1 : Int32)])) rfl ?_
      exact e_rI rfl rfl
    · refine e_L 2 (f' := (13, [(0, .ref 151), (1, .int a1), (2, .int a2)], [.ref 151, .int a1])) rfl ?_
      refine e_gI 12 78 rfl rfl lc_151 ?_
      refine e_icmp 31 rfl rfl rfl (fun c3 => ?_) (fun c3 => ?_)
      · refine e_L 1 (f' := (32, [(0, .ref 151), (1, .int a1), (2, .int a2)], [.int (-1 : Int32)])) rfl ?_
        exact e_rI rfl rfl
      · refine e_L 1 (f' := (20, [(0, .ref 151), (1, .int a1), (2, .int a2)], [.int a2])) rfl ?_
        refine e_ifz 31 rfl rfl rfl (fun c4 => ?_) (fun c4 => ?_)
        · refine e_L 1 (f' := (32, [(0, .ref 151), (1, .int a1), (2, .int a2)], [.int (-1 : Int32)])) rfl ?_
          exact e_rI rfl rfl
        · refine e_L 2 (f' := (25, [(0, .ref 151), (1, .int a1), (2, .int a2)], [.ref 151, .int a2])) rfl ?_
          refine e_gI 12 78 rfl rfl lc_151 ?_
          refine e_icmp 33 rfl rfl rfl (fun c5 => ?_) (fun c5 => ?_)
          · refine e_L 1 (f' := (34, [(0, .ref 151), (1, .int a1), (2, .int a2)], [.ref 151])) rfl ?_
            refine e_vV 345 rfl rfl ix_X12_layBefore rfl (q_recvOf lc_151 rfl) (Nat.le_of_ble_eq_true rfl) (fun s7 e8 => ?_)
            refine e_L 2 (f' := (39, [(0, .ref 151), (1, .int a1), (2, .int a2)], [.int a2, .int a1])) rfl ?_
            refine e_icmp 61 rfl rfl rfl (fun c9 => ?_) (fun c9 => ?_)
            · refine e_L 1 (f' := (62, [(0, .ref 151), (1, .int a1), (2, .int a2)], [.int (0 : Int32)])) rfl ?_
              exact e_rI rfl rfl
            · refine e_L 1 (f' := (43, [(0, .ref 151), (1, .int a1), (2, .int a2)], [.ref 151])) rfl ?_
              refine e_gR (q := 200) 12 86 rfl rfl lc_151 lr_151_86 ?_
              refine e_L 5 (f' := (53, [(0, .ref 151), (1, .int a1), (2, .int a2)], [.int (((200 : Int32) * a1) + a2), .ref 200])) rfl ?_
              refine qle_gd fun h10 => ?_
              refine e_bal (n := 40000) (k := (((200 : Int32) * a1) + a2).toNatClampNeg) rfl (Or.inl lc_200) ln_200 h10 rfl ?_
              refine e_ifz 61 rfl rfl rfl (fun c11 => ?_) (fun c11 => ?_)
              · refine e_L 1 (f' := (62, [(0, .ref 151), (1, .int a1), (2, .int a2)], [.int (0 : Int32)])) rfl ?_
                exact e_rI rfl rfl
              · refine e_L 2 (f' := (62, [(0, .ref 151), (1, .int a1), (2, .int a2)], [.int (1 : Int32)])) rfl ?_
                exact e_rI rfl rfl
          · refine e_L 1 (f' := (32, [(0, .ref 151), (1, .int a1), (2, .int a2)], [.int (-1 : Int32)])) rfl ?_
            exact e_rI rfl rfl
noncomputable def L_X12_areRacing_22 (en : pN) (d : Nat) (v0 : Int32) (v1 : Int32) (vs0 : Int32) (s : qS) : Option qR := qE (qev en d) en (some .boolean) tb_X12_areRacing (22, [(0, .int v0), (1, .int v1)], [.int vs0]) s
noncomputable def L_X12_areRacing_45 (en : pN) (d : Nat) (v0 : Int32) (v1 : Int32) (v2 : Int32) (vs0 : Int32) (s : qS) : Option qR := qE (qev en d) en (some .boolean) tb_X12_areRacing (45, [(0, .int v0), (1, .int v1), (2, .int v2)], [.int vs0]) s
noncomputable def L_X12_areRacing_76 (en : pN) (d : Nat) (v0 : Int32) (v1 : Int32) (s : qS) : Option qR := qE (qev en d) en (some .boolean) tb_X12_areRacing (76, [(0, .int v0), (1, .int v1)], []) s
set_option maxRecDepth 100000 in
set_option maxHeartbeats 4000000 in
theorem le_X12_areRacing_22 (en : pN) (d : Nat) (v0 : Int32) (v1 : Int32) (vs0 : Int32) (s : qS) : qle (if v1 = (1 : Int32) then L_X12_areRacing_45 en d v0 v1 vs0 (1 : Int32) s else if v1 = (2 : Int32) then L_X12_areRacing_45 en d v0 v1 vs0 (1 : Int32) s else bI (qev en d 343 [.int v1] s) (fun w3 s4 => if w3 = (0 : Int32) then L_X12_areRacing_45 en d v0 v1 vs0 (0 : Int32) s4 else L_X12_areRacing_45 en d v0 v1 vs0 (1 : Int32) s4)) (L_X12_areRacing_22 en d v0 v1 vs0 s) := by
  show qle _ (qE (qev en d) en (some .boolean) tb_X12_areRacing (22, [(0, .int v0), (1, .int v1)], [.int vs0]) s)
  refine e_L 3 (f' := (25, [(2, .int vs0), (0, .int v0), (1, .int v1)], [.int (1 : Int32), .int v1])) rfl ?_
  refine e_icmp 40 rfl rfl rfl (fun c1 => ?_) (fun c1 => ?_)
  · refine e_L 2 (f' := (45, [(2, .int vs0), (0, .int v0), (1, .int v1)], [.int (1 : Int32)])) rfl ?_
    exact qE_sub (qsubL [1, 2, 0] rfl (ks := [2, 0, 1]) rfl (by decide))
  · refine e_L 2 (f' := (30, [(2, .int vs0), (0, .int v0), (1, .int v1)], [.int (2 : Int32), .int v1])) rfl ?_
    refine e_icmp 40 rfl rfl rfl (fun c2 => ?_) (fun c2 => ?_)
    · refine e_L 2 (f' := (45, [(2, .int vs0), (0, .int v0), (1, .int v1)], [.int (1 : Int32)])) rfl ?_
      exact qE_sub (qsubL [1, 2, 0] rfl (ks := [2, 0, 1]) rfl (by decide))
    · refine e_L 1 (f' := (34, [(2, .int vs0), (0, .int v0), (1, .int v1)], [.int v1])) rfl ?_
      refine e_sI 343 rfl rfl rfl ix_X12_isAtOnce rfl (Nat.le_of_ble_eq_true rfl) (fun w3 s4 e5 => ?_)
      refine e_ifz 44 rfl rfl rfl (fun c6 => ?_) (fun c6 => ?_)
      · refine e_L 1 (f' := (45, [(2, .int vs0), (0, .int v0), (1, .int v1)], [.int (0 : Int32)])) rfl ?_
        exact qE_sub (qsubL [1, 2, 0] rfl (ks := [2, 0, 1]) rfl (by decide))
      · refine e_L 2 (f' := (45, [(2, .int vs0), (0, .int v0), (1, .int v1)], [.int (1 : Int32)])) rfl ?_
        exact qE_sub (qsubL [1, 2, 0] rfl (ks := [2, 0, 1]) rfl (by decide))
set_option maxRecDepth 100000 in
set_option maxHeartbeats 4000000 in
theorem le_X12_areRacing_45 (en : pN) (d : Nat) (v0 : Int32) (v1 : Int32) (v2 : Int32) (vs0 : Int32) (s : qS) : qle (if v2 = (0 : Int32) then some (some (.int (0 : Int32)), s) else if vs0 = (0 : Int32) then some (some (.int (0 : Int32)), s) else if v0 = (2 : Int32) then some (some (.int (1 : Int32)), s) else if v1 = (2 : Int32) then some (some (.int (1 : Int32)), s) else if ¬ v0 = (1 : Int32) then L_X12_areRacing_76 en d v0 v1 s else bI (qev en d 343 [.int v1] s) (fun w6 s7 => if ¬ w6 = (0 : Int32) then some (some (.int (1 : Int32)), s7) else L_X12_areRacing_76 en d v0 v1 s7)) (L_X12_areRacing_45 en d v0 v1 v2 vs0 s) := by
  show qle _ (qE (qev en d) en (some .boolean) tb_X12_areRacing (45, [(0, .int v0), (1, .int v1), (2, .int v2)], [.int vs0]) s)
  refine e_L 2 (f' := (47, [(3, .int vs0), (0, .int v0), (1, .int v1), (2, .int v2)], [.int v2])) rfl ?_
  refine e_ifz 92 rfl rfl rfl (fun c1 => ?_) (fun c1 => ?_)
  · refine e_L 1 (f' := (93, [(3, .int vs0), (0, .int v0), (1, .int v1), (2, .int v2)], [.int (0 : Int32)])) rfl ?_
    exact e_rZ rfl rfl (by decide)
  · refine e_L 1 (f' := (51, [(3, .int vs0), (0, .int v0), (1, .int v1), (2, .int v2)], [.int vs0])) rfl ?_
    refine e_ifz 92 rfl rfl rfl (fun c2 => ?_) (fun c2 => ?_)
    · refine e_L 1 (f' := (93, [(3, .int vs0), (0, .int v0), (1, .int v1), (2, .int v2)], [.int (0 : Int32)])) rfl ?_
      exact e_rZ rfl rfl (by decide)
    · refine e_L 2 (f' := (56, [(3, .int vs0), (0, .int v0), (1, .int v1), (2, .int v2)], [.int (2 : Int32), .int v0])) rfl ?_
      refine e_icmp 88 rfl rfl rfl (fun c3 => ?_) (fun c3 => ?_)
      · refine e_L 2 (f' := (93, [(3, .int vs0), (0, .int v0), (1, .int v1), (2, .int v2)], [.int (1 : Int32)])) rfl ?_
        exact e_rZ rfl rfl (by decide)
      · refine e_L 2 (f' := (61, [(3, .int vs0), (0, .int v0), (1, .int v1), (2, .int v2)], [.int (2 : Int32), .int v1])) rfl ?_
        refine e_icmp 88 rfl rfl rfl (fun c4 => ?_) (fun c4 => ?_)
        · refine e_L 2 (f' := (93, [(3, .int vs0), (0, .int v0), (1, .int v1), (2, .int v2)], [.int (1 : Int32)])) rfl ?_
          exact e_rZ rfl rfl (by decide)
        · refine e_L 2 (f' := (66, [(3, .int vs0), (0, .int v0), (1, .int v1), (2, .int v2)], [.int (1 : Int32), .int v0])) rfl ?_
          refine e_icmp 76 rfl rfl rfl (fun c5 => ?_) (fun c5 => ?_)
          · exact qE_sub (qsubL [1, 2] rfl (ks := [3, 0, 1, 2]) rfl (by decide))
          · refine e_L 1 (f' := (70, [(3, .int vs0), (0, .int v0), (1, .int v1), (2, .int v2)], [.int v1])) rfl ?_
            refine e_sI 343 rfl rfl rfl ix_X12_isAtOnce rfl (Nat.le_of_ble_eq_true rfl) (fun w6 s7 e8 => ?_)
            refine e_ifz 88 rfl rfl rfl (fun c9 => ?_) (fun c9 => ?_)
            · refine e_L 2 (f' := (93, [(3, .int vs0), (0, .int v0), (1, .int v1), (2, .int v2)], [.int (1 : Int32)])) rfl ?_
              exact e_rZ rfl rfl (by decide)
            · exact qE_sub (qsubL [1, 2] rfl (ks := [3, 0, 1, 2]) rfl (by decide))
set_option maxRecDepth 100000 in
set_option maxHeartbeats 4000000 in
theorem le_X12_areRacing_76 (en : pN) (d : Nat) (v0 : Int32) (v1 : Int32) (s : qS) : qle (if ¬ v1 = (1 : Int32) then some (some (.int (0 : Int32)), s) else bI (qev en d 343 [.int v0] s) (fun w2 s3 => if w2 = (0 : Int32) then some (some (.int (0 : Int32)), s3) else some (some (.int (1 : Int32)), s3))) (L_X12_areRacing_76 en d v0 v1 s) := by
  show qle _ (qE (qev en d) en (some .boolean) tb_X12_areRacing (76, [(0, .int v0), (1, .int v1)], []) s)
  refine e_L 2 (f' := (78, [(0, .int v0), (1, .int v1)], [.int (1 : Int32), .int v1])) rfl ?_
  refine e_icmp 92 rfl rfl rfl (fun c1 => ?_) (fun c1 => ?_)
  · refine e_L 1 (f' := (93, [(0, .int v0), (1, .int v1)], [.int (0 : Int32)])) rfl ?_
    exact e_rZ rfl rfl (by decide)
  · refine e_L 1 (f' := (82, [(0, .int v0), (1, .int v1)], [.int v0])) rfl ?_
    refine e_sI 343 rfl rfl rfl ix_X12_isAtOnce rfl (Nat.le_of_ble_eq_true rfl) (fun w2 s3 e4 => ?_)
    refine e_ifz 92 rfl rfl rfl (fun c5 => ?_) (fun c5 => ?_)
    · refine e_L 1 (f' := (93, [(0, .int v0), (1, .int v1)], [.int (0 : Int32)])) rfl ?_
      exact e_rZ rfl rfl (by decide)
    · refine e_L 2 (f' := (93, [(0, .int v0), (1, .int v1)], [.int (1 : Int32)])) rfl ?_
      exact e_rZ rfl rfl (by decide)
set_option maxRecDepth 100000 in
set_option maxHeartbeats 4000000 in
theorem le_X12_areRacing (en : pN) (d : Nat) (a1 : Int32) (a2 : Int32) (s : qS) : qle (if a1 = (1 : Int32) then L_X12_areRacing_22 en d a1 a2 (1 : Int32) s else if a1 = (2 : Int32) then L_X12_areRacing_22 en d a1 a2 (1 : Int32) s else bI (qev en d 343 [.int a1] s) (fun w3 s4 => if w3 = (0 : Int32) then L_X12_areRacing_22 en d a1 a2 (0 : Int32) s4 else L_X12_areRacing_22 en d a1 a2 (1 : Int32) s4)) (qev en (d + 1) 347 [.int a1, .int a2] s) := by
  refine e_enter ix_X12_areRacing (Nat.le_of_ble_eq_true rfl) ?_
  show qle _ (qE (qev en d) en (some .boolean) tb_X12_areRacing (0, [(0, .int a1), (1, .int a2)], []) s)
  refine e_L 2 (f' := (2, [(0, .int a1), (1, .int a2)], [.int (1 : Int32), .int a1])) rfl ?_
  refine e_icmp 17 rfl rfl rfl (fun c1 => ?_) (fun c1 => ?_)
  · refine e_L 2 (f' := (22, [(0, .int a1), (1, .int a2)], [.int (1 : Int32)])) rfl ?_
    exact qE_sub (qsubL [0, 1] rfl (ks := [0, 1]) rfl (by decide))
  · refine e_L 2 (f' := (7, [(0, .int a1), (1, .int a2)], [.int (2 : Int32), .int a1])) rfl ?_
    refine e_icmp 17 rfl rfl rfl (fun c2 => ?_) (fun c2 => ?_)
    · refine e_L 2 (f' := (22, [(0, .int a1), (1, .int a2)], [.int (1 : Int32)])) rfl ?_
      exact qE_sub (qsubL [0, 1] rfl (ks := [0, 1]) rfl (by decide))
    · refine e_L 1 (f' := (11, [(0, .int a1), (1, .int a2)], [.int a1])) rfl ?_
      refine e_sI 343 rfl rfl rfl ix_X12_isAtOnce rfl (Nat.le_of_ble_eq_true rfl) (fun w3 s4 e5 => ?_)
      refine e_ifz 21 rfl rfl rfl (fun c6 => ?_) (fun c6 => ?_)
      · refine e_L 1 (f' := (22, [(0, .int a1), (1, .int a2)], [.int (0 : Int32)])) rfl ?_
        exact qE_sub (qsubL [0, 1] rfl (ks := [0, 1]) rfl (by decide))
      · refine e_L 2 (f' := (22, [(0, .int a1), (1, .int a2)], [.int (1 : Int32)])) rfl ?_
        exact qE_sub (qsubL [0, 1] rfl (ks := [0, 1]) rfl (by decide))
noncomputable def L_X12_runRace_32 (en : pN) (d : Nat) (v1 : Int32) (v2 : Int32) (v3 : Int32) (v4 : Int32) (s : qS) : Option qR := qE (qev en d) en (some .int) tb_X12_runRace (32, [(0, .ref 151), (1, .int v1), (2, .int v2), (3, .int v3), (4, .int v4)], []) s
noncomputable def L_X12_runRace_44 (en : pN) (d : Nat) (v1 : Int32) (v2 : Int32) (v3 : Int32) (v4 : Int32) (v5 : Int32) (s : qS) : Option qR := qE (qev en d) en (some .int) tb_X12_runRace (44, [(0, .ref 151), (1, .int v1), (2, .int v2), (3, .int v3), (4, .int v4), (5, .int v5)], []) s
noncomputable def L_X12_runRace_127 (en : pN) (d : Nat) (v1 : Int32) (v2 : Int32) (v3 : Int32) (v4 : Int32) (v5 : Int32) (vs0 : Int32) (s : qS) : Option qR := qE (qev en d) en (some .int) tb_X12_runRace (127, [(0, .ref 151), (1, .int v1), (2, .int v2), (3, .int v3), (4, .int v4), (5, .int v5)], [.int vs0]) s
set_option maxRecDepth 100000 in
set_option maxHeartbeats 4000000 in
theorem le_X12_runRace_32 (en : pN) (d : Nat) (v1 : Int32) (v2 : Int32) (v3 : Int32) (v4 : Int32) (s : qS) : qle (if (s.1 151 78) ≤ v4 then if ¬ v1 = (-1 : Int32) then some (some (.int (-1 : Int32)), s) else some (some (.int v3), s) else L_X12_runRace_44 en d v1 v2 v3 v4 (0 : Int32) s) (L_X12_runRace_32 en d v1 v2 v3 v4 s) := by
  show qle _ (qE (qev en d) en (some .int) tb_X12_runRace (32, [(0, .ref 151), (1, .int v1), (2, .int v2), (3, .int v3), (4, .int v4)], []) s)
  refine e_L 2 (f' := (35, [(0, .ref 151), (1, .int v1), (2, .int v2), (3, .int v3), (4, .int v4)], [.ref 151, .int v4])) rfl ?_
  refine e_gI 12 78 rfl rfl lc_151 ?_
  refine e_icmp 181 rfl rfl rfl (fun c1 => ?_) (fun c1 => ?_)
  · refine e_L 2 (f' := (183, [(0, .ref 151), (1, .int v1), (2, .int v2), (3, .int v3), (4, .int v4)], [.int (-1 : Int32), .int v1])) rfl ?_
    refine e_icmp 190 rfl rfl rfl (fun c2 => ?_) (fun c2 => ?_)
    · refine e_L 1 (f' := (191, [(0, .ref 151), (1, .int v1), (2, .int v2), (3, .int v3), (4, .int v4)], [.int (-1 : Int32)])) rfl ?_
      exact e_rI rfl rfl
    · refine e_L 2 (f' := (191, [(0, .ref 151), (1, .int v1), (2, .int v2), (3, .int v3), (4, .int v4)], [.int v3])) rfl ?_
      exact e_rI rfl rfl
  · refine e_L 2 (f' := (44, [(5, .int (0 : Int32)), (0, .ref 151), (1, .int v1), (2, .int v2), (3, .int v3), (4, .int v4)], [])) rfl ?_
    exact qE_sub (qsubL [1, 2, 3, 4, 5, 0] rfl (ks := [5, 0, 1, 2, 3, 4]) rfl (by decide))
set_option maxRecDepth 100000 in
set_option maxHeartbeats 4000000 in
theorem le_X12_runRace_44 (en : pN) (d : Nat) (v1 : Int32) (v2 : Int32) (v3 : Int32) (v4 : Int32) (v5 : Int32) (s : qS) : qle (if v4 ≤ v5 then L_X12_runRace_32 en d v1 v2 v3 (v4 + (1 : Int32)) s else gd (p_inB v5 200 = true) (gd (p_inB v4 200 = true) (bI (qev en d 347 [.int (s.1 196 v5.toNatClampNeg), .int (s.1 196 v4.toNatClampNeg)] s) (fun w4 s5 => if w4 = (0 : Int32) then L_X12_runRace_127 en d v1 v2 v3 v4 v5 (0 : Int32) s5 else if (s5.1 193 v5.toNatClampNeg) = (s5.1 193 v4.toNatClampNeg) then L_X12_runRace_127 en d v1 v2 v3 v4 v5 (0 : Int32) s5 else if ¬ (s5.1 197 v5.toNatClampNeg) = (s5.1 197 v4.toNatClampNeg) then L_X12_runRace_127 en d v1 v2 v3 v4 v5 (0 : Int32) s5 else gd (p_inB (((200 : Int32) * v5) + v4) 40000 = true) (if ¬ (s5.1 200 (((200 : Int32) * v5) + v4).toNatClampNeg) = (0 : Int32) then L_X12_runRace_127 en d v1 v2 v3 v4 v5 (0 : Int32) s5 else L_X12_runRace_127 en d v1 v2 v3 v4 v5 (1 : Int32) s5))))) (L_X12_runRace_44 en d v1 v2 v3 v4 v5 s) := by
  show qle _ (qE (qev en d) en (some .int) tb_X12_runRace (44, [(0, .ref 151), (1, .int v1), (2, .int v2), (3, .int v3), (4, .int v4), (5, .int v5)], []) s)
  refine e_L 2 (f' := (48, [(0, .ref 151), (1, .int v1), (2, .int v2), (3, .int v3), (4, .int v4), (5, .int v5)], [.int v4, .int v5])) rfl ?_
  refine e_icmp 175 rfl rfl rfl (fun c1 => ?_) (fun c1 => ?_)
  · refine e_L 2 (f' := (32, [(4, .int (v4 + (1 : Int32))), (0, .ref 151), (1, .int v1), (2, .int v2), (3, .int v3), (5, .int v5)], [])) rfl ?_
    exact qE_sub (qsubL [1, 2, 3, 4, 0] rfl (ks := [4, 0, 1, 2, 3, 5]) rfl (by decide))
  · refine e_L 1 (f' := (52, [(0, .ref 151), (1, .int v1), (2, .int v2), (3, .int v3), (4, .int v4), (5, .int v5)], [.ref 151])) rfl ?_
    refine e_gR (q := 196) 12 82 rfl rfl lc_151 lr_151_82 ?_
    refine e_L 1 (f' := (57, [(0, .ref 151), (1, .int v1), (2, .int v2), (3, .int v3), (4, .int v4), (5, .int v5)], [.int v5, .ref 196])) rfl ?_
    refine qle_gd fun h2 => ?_
    refine e_ial (n := 200) (k := v5.toNatClampNeg) rfl lc_196 ln_196 h2 rfl ?_
    refine e_L 1 (f' := (59, [(0, .ref 151), (1, .int v1), (2, .int v2), (3, .int v3), (4, .int v4), (5, .int v5)], [.ref 151, .int (s.1 196 v5.toNatClampNeg)])) rfl ?_
    refine e_gR (q := 196) 12 82 rfl rfl lc_151 lr_151_82 ?_
    refine e_L 1 (f' := (64, [(0, .ref 151), (1, .int v1), (2, .int v2), (3, .int v3), (4, .int v4), (5, .int v5)], [.int v4, .ref 196, .int (s.1 196 v5.toNatClampNeg)])) rfl ?_
    refine qle_gd fun h3 => ?_
    refine e_ial (n := 200) (k := v4.toNatClampNeg) rfl lc_196 ln_196 h3 rfl ?_
    refine e_sI 347 rfl rfl rfl ix_X12_areRacing rfl (Nat.le_of_ble_eq_true rfl) (fun w4 s5 e6 => ?_)
    refine e_ifz 126 rfl rfl rfl (fun c7 => ?_) (fun c7 => ?_)
    · refine e_L 1 (f' := (127, [(0, .ref 151), (1, .int v1), (2, .int v2), (3, .int v3), (4, .int v4), (5, .int v5)], [.int (0 : Int32)])) rfl ?_
      exact qE_sub (qsubL [0, 1, 2, 3, 4, 5] rfl (ks := [0, 1, 2, 3, 4, 5]) rfl (by decide))
    · refine e_L 1 (f' := (72, [(0, .ref 151), (1, .int v1), (2, .int v2), (3, .int v3), (4, .int v4), (5, .int v5)], [.ref 151])) rfl ?_
      refine e_gR (q := 193) 12 79 rfl rfl lc_151 lr_151_79 ?_
      refine e_L 1 (f' := (77, [(0, .ref 151), (1, .int v1), (2, .int v2), (3, .int v3), (4, .int v4), (5, .int v5)], [.int v5, .ref 193])) rfl ?_
      refine e_ial (n := 200) (k := v5.toNatClampNeg) rfl lc_193 ln_193 h2 rfl ?_
      refine e_L 1 (f' := (79, [(0, .ref 151), (1, .int v1), (2, .int v2), (3, .int v3), (4, .int v4), (5, .int v5)], [.ref 151, .int (s5.1 193 v5.toNatClampNeg)])) rfl ?_
      refine e_gR (q := 193) 12 79 rfl rfl lc_151 lr_151_79 ?_
      refine e_L 1 (f' := (84, [(0, .ref 151), (1, .int v1), (2, .int v2), (3, .int v3), (4, .int v4), (5, .int v5)], [.int v4, .ref 193, .int (s5.1 193 v5.toNatClampNeg)])) rfl ?_
      refine e_ial (n := 200) (k := v4.toNatClampNeg) rfl lc_193 ln_193 h3 rfl ?_
      refine e_icmp 126 rfl rfl rfl (fun c8 => ?_) (fun c8 => ?_)
      · refine e_L 1 (f' := (127, [(0, .ref 151), (1, .int v1), (2, .int v2), (3, .int v3), (4, .int v4), (5, .int v5)], [.int (0 : Int32)])) rfl ?_
        exact qE_sub (qsubL [0, 1, 2, 3, 4, 5] rfl (ks := [0, 1, 2, 3, 4, 5]) rfl (by decide))
      · refine e_L 1 (f' := (89, [(0, .ref 151), (1, .int v1), (2, .int v2), (3, .int v3), (4, .int v4), (5, .int v5)], [.ref 151])) rfl ?_
        refine e_gR (q := 197) 12 83 rfl rfl lc_151 lr_151_83 ?_
        refine e_L 1 (f' := (94, [(0, .ref 151), (1, .int v1), (2, .int v2), (3, .int v3), (4, .int v4), (5, .int v5)], [.int v5, .ref 197])) rfl ?_
        refine e_ial (n := 200) (k := v5.toNatClampNeg) rfl lc_197 ln_197 h2 rfl ?_
        refine e_L 1 (f' := (96, [(0, .ref 151), (1, .int v1), (2, .int v2), (3, .int v3), (4, .int v4), (5, .int v5)], [.ref 151, .int (s5.1 197 v5.toNatClampNeg)])) rfl ?_
        refine e_gR (q := 197) 12 83 rfl rfl lc_151 lr_151_83 ?_
        refine e_L 1 (f' := (101, [(0, .ref 151), (1, .int v1), (2, .int v2), (3, .int v3), (4, .int v4), (5, .int v5)], [.int v4, .ref 197, .int (s5.1 197 v5.toNatClampNeg)])) rfl ?_
        refine e_ial (n := 200) (k := v4.toNatClampNeg) rfl lc_197 ln_197 h3 rfl ?_
        refine e_icmp 126 rfl rfl rfl (fun c9 => ?_) (fun c9 => ?_)
        · refine e_L 1 (f' := (127, [(0, .ref 151), (1, .int v1), (2, .int v2), (3, .int v3), (4, .int v4), (5, .int v5)], [.int (0 : Int32)])) rfl ?_
          exact qE_sub (qsubL [0, 1, 2, 3, 4, 5] rfl (ks := [0, 1, 2, 3, 4, 5]) rfl (by decide))
        · refine e_L 1 (f' := (106, [(0, .ref 151), (1, .int v1), (2, .int v2), (3, .int v3), (4, .int v4), (5, .int v5)], [.ref 151])) rfl ?_
          refine e_gR (q := 200) 12 86 rfl rfl lc_151 lr_151_86 ?_
          refine e_L 5 (f' := (118, [(0, .ref 151), (1, .int v1), (2, .int v2), (3, .int v3), (4, .int v4), (5, .int v5)], [.int (((200 : Int32) * v5) + v4), .ref 200])) rfl ?_
          refine qle_gd fun h10 => ?_
          refine e_bal (n := 40000) (k := (((200 : Int32) * v5) + v4).toNatClampNeg) rfl (Or.inl lc_200) ln_200 h10 rfl ?_
          refine e_ifz 126 rfl rfl rfl (fun c11 => ?_) (fun c11 => ?_)
          · refine e_L 1 (f' := (127, [(0, .ref 151), (1, .int v1), (2, .int v2), (3, .int v3), (4, .int v4), (5, .int v5)], [.int (0 : Int32)])) rfl ?_
            exact qE_sub (qsubL [0, 1, 2, 3, 4, 5] rfl (ks := [0, 1, 2, 3, 4, 5]) rfl (by decide))
          · refine e_L 2 (f' := (127, [(0, .ref 151), (1, .int v1), (2, .int v2), (3, .int v3), (4, .int v4), (5, .int v5)], [.int (1 : Int32)])) rfl ?_
            exact qE_sub (qsubL [0, 1, 2, 3, 4, 5] rfl (ks := [0, 1, 2, 3, 4, 5]) rfl (by decide))
set_option maxRecDepth 100000 in
set_option maxHeartbeats 4000000 in
theorem le_X12_runRace_127 (en : pN) (d : Nat) (v1 : Int32) (v2 : Int32) (v3 : Int32) (v4 : Int32) (v5 : Int32) (vs0 : Int32) (s : qS) : qle (if vs0 = (0 : Int32) then L_X12_runRace_44 en d v1 v2 v3 v4 (v5 + (1 : Int32)) s else gd (p_inB v5 200 = true) (gd (p_inB (s.1 197 v5.toNatClampNeg) 8 = true) (if ¬ (s.1 155 (s.1 197 v5.toNatClampNeg).toNatClampNeg) = (0 : Int32) then L_X12_runRace_44 en d v1 v2 v3 v4 (v5 + (1 : Int32)) s else if ¬ v3 = v1 then L_X12_runRace_44 en d v1 v2 (v3 + (1 : Int32)) v4 (v5 + (1 : Int32)) s else if ¬ v2 = (0 : Int32) then some (some (.int v4), s) else some (some (.int v5), s)))) (L_X12_runRace_127 en d v1 v2 v3 v4 v5 vs0 s) := by
  show qle _ (qE (qev en d) en (some .int) tb_X12_runRace (127, [(0, .ref 151), (1, .int v1), (2, .int v2), (3, .int v3), (4, .int v4), (5, .int v5)], [.int vs0]) s)
  refine e_L 2 (f' := (131, [(6, .int vs0), (0, .ref 151), (1, .int v1), (2, .int v2), (3, .int v3), (4, .int v4), (5, .int v5)], [.int vs0])) rfl ?_
  refine e_ifz 169 rfl rfl rfl (fun c1 => ?_) (fun c1 => ?_)
  · refine e_L 2 (f' := (44, [(5, .int (v5 + (1 : Int32))), (6, .int vs0), (0, .ref 151), (1, .int v1), (2, .int v2), (3, .int v3), (4, .int v4)], [])) rfl ?_
    exact qE_sub (qsubL [2, 3, 4, 5, 6, 0] rfl (ks := [5, 6, 0, 1, 2, 3, 4]) rfl (by decide))
  · refine e_L 1 (f' := (135, [(6, .int vs0), (0, .ref 151), (1, .int v1), (2, .int v2), (3, .int v3), (4, .int v4), (5, .int v5)], [.ref 151])) rfl ?_
    refine e_gR (q := 155) 12 15 rfl rfl lc_151 lr_151_15 ?_
    refine e_L 1 (f' := (139, [(6, .int vs0), (0, .ref 151), (1, .int v1), (2, .int v2), (3, .int v3), (4, .int v4), (5, .int v5)], [.ref 151, .ref 155])) rfl ?_
    refine e_gR (q := 197) 12 83 rfl rfl lc_151 lr_151_83 ?_
    refine e_L 1 (f' := (144, [(6, .int vs0), (0, .ref 151), (1, .int v1), (2, .int v2), (3, .int v3), (4, .int v4), (5, .int v5)], [.int v5, .ref 197, .ref 155])) rfl ?_
    refine qle_gd fun h2 => ?_
    refine e_ial (n := 200) (k := v5.toNatClampNeg) rfl lc_197 ln_197 h2 rfl ?_
    refine qle_gd fun h3 => ?_
    refine e_bal (n := 8) (k := (s.1 197 v5.toNatClampNeg).toNatClampNeg) rfl (Or.inl lc_155) ln_155 h3 rfl ?_
    refine e_ifz 169 rfl rfl rfl (fun c4 => ?_) (fun c4 => ?_)
    · refine e_L 2 (f' := (44, [(5, .int (v5 + (1 : Int32))), (6, .int vs0), (0, .ref 151), (1, .int v1), (2, .int v2), (3, .int v3), (4, .int v4)], [])) rfl ?_
      exact qE_sub (qsubL [2, 3, 4, 5, 6, 0] rfl (ks := [5, 6, 0, 1, 2, 3, 4]) rfl (by decide))
    · refine e_L 2 (f' := (151, [(6, .int vs0), (0, .ref 151), (1, .int v1), (2, .int v2), (3, .int v3), (4, .int v4), (5, .int v5)], [.int v1, .int v3])) rfl ?_
      refine e_icmp 166 rfl rfl rfl (fun c5 => ?_) (fun c5 => ?_)
      · refine e_L 3 (f' := (44, [(5, .int (v5 + (1 : Int32))), (3, .int (v3 + (1 : Int32))), (6, .int vs0), (0, .ref 151), (1, .int v1), (2, .int v2), (4, .int v4)], [])) rfl ?_
        exact qE_sub (qsubL [3, 4, 5, 1, 6, 0] rfl (ks := [5, 3, 6, 0, 1, 2, 4]) rfl (by decide))
      · refine e_L 1 (f' := (155, [(6, .int vs0), (0, .ref 151), (1, .int v1), (2, .int v2), (3, .int v3), (4, .int v4), (5, .int v5)], [.int v2])) rfl ?_
        refine e_ifz 163 rfl rfl rfl (fun c6 => ?_) (fun c6 => ?_)
        · refine e_L 1 (f' := (165, [(6, .int vs0), (0, .ref 151), (1, .int v1), (2, .int v2), (3, .int v3), (4, .int v4), (5, .int v5)], [.int v4])) rfl ?_
          exact e_rI rfl rfl
        · refine e_L 2 (f' := (165, [(6, .int vs0), (0, .ref 151), (1, .int v1), (2, .int v2), (3, .int v3), (4, .int v4), (5, .int v5)], [.int v5])) rfl ?_
          exact e_rI rfl rfl
set_option maxRecDepth 100000 in
set_option maxHeartbeats 4000000 in
theorem le_X12_runRace (en : pN) (d : Nat) (a1 : Int32) (a2 : Int32) (s : qS) : qle (if (s.1 151 74) = (0 : Int32) then some (some (.int (-1 : Int32)), s) else if a1 < (-1 : Int32) then some (some (.int (-1 : Int32)), s) else if a2 < (0 : Int32) then some (some (.int (-1 : Int32)), s) else if a2 ≤ (1 : Int32) then bV (qev en d 345 [.ref 151] s) (fun s6 => L_X12_runRace_32 en d a1 a2 (0 : Int32) (0 : Int32) s6) else some (some (.int (-1 : Int32)), s)) (qev en (d + 1) 348 [.ref 151, .int a1, .int a2] s) := by
  refine e_enter ix_X12_runRace (Nat.le_of_ble_eq_true rfl) ?_
  show qle _ (qE (qev en d) en (some .int) tb_X12_runRace (0, [(0, .ref 151), (1, .int a1), (2, .int a2)], []) s)
  refine e_L 1 (f' := (1, [(0, .ref 151), (1, .int a1), (2, .int a2)], [.ref 151])) rfl ?_
  refine e_gI 12 74 rfl rfl lc_151 ?_
  refine e_ifz 21 rfl rfl rfl (fun c1 => ?_) (fun c1 => ?_)
  · refine e_L 1 (f' := (22, [(0, .ref 151), (1, .int a1), (2, .int a2)], [.int (-1 : Int32)])) rfl ?_
    exact e_rI rfl rfl
  · refine e_L 2 (f' := (9, [(0, .ref 151), (1, .int a1), (2, .int a2)], [.int (-1 : Int32), .int a1])) rfl ?_
    refine e_icmp 21 rfl rfl rfl (fun c2 => ?_) (fun c2 => ?_)
    · refine e_L 1 (f' := (22, [(0, .ref 151), (1, .int a1), (2, .int a2)], [.int (-1 : Int32)])) rfl ?_
      exact e_rI rfl rfl
    · refine e_L 1 (f' := (13, [(0, .ref 151), (1, .int a1), (2, .int a2)], [.int a2])) rfl ?_
      refine e_ifz 21 rfl rfl rfl (fun c3 => ?_) (fun c3 => ?_)
      · refine e_L 1 (f' := (22, [(0, .ref 151), (1, .int a1), (2, .int a2)], [.int (-1 : Int32)])) rfl ?_
        exact e_rI rfl rfl
      · refine e_L 2 (f' := (18, [(0, .ref 151), (1, .int a1), (2, .int a2)], [.int (1 : Int32), .int a2])) rfl ?_
        refine e_icmp 23 rfl rfl rfl (fun c4 => ?_) (fun c4 => ?_)
        · refine e_L 1 (f' := (24, [(0, .ref 151), (1, .int a1), (2, .int a2)], [.ref 151])) rfl ?_
          refine e_vV 345 rfl rfl ix_X12_layBefore rfl (q_recvOf lc_151 rfl) (Nat.le_of_ble_eq_true rfl) (fun s6 e7 => ?_)
          refine e_L 4 (f' := (32, [(4, .int (0 : Int32)), (3, .int (0 : Int32)), (0, .ref 151), (1, .int a1), (2, .int a2)], [])) rfl ?_
          exact qE_sub (qsubL [2, 3, 4, 1, 0] rfl (ks := [4, 3, 0, 1, 2]) rfl (by decide))
        · refine e_L 1 (f' := (22, [(0, .ref 151), (1, .int a1), (2, .int a2)], [.int (-1 : Int32)])) rfl ?_
          exact e_rI rfl rfl
noncomputable def L_X12_doesOf_35 (en : pN) (d : Nat) (v0 : Int32) (v1 : Int64) (vs0 : Int64) (s : qS) : Option qR := qE (qev en d) en (some .int) tb_X12_doesOf (35, [(0, .int v0), (1, .long v1)], [.long vs0]) s
noncomputable def L_X12_doesOf_61 (en : pN) (d : Nat) (v1 : Int64) (v3 : Int64) (vs0 : Int64) (s : qS) : Option qR := qE (qev en d) en (some .int) tb_X12_doesOf (61, [(1, .long v1), (3, .long v3)], [.long vs0]) s
set_option maxRecDepth 100000 in
set_option maxHeartbeats 4000000 in
theorem le_X12_doesOf_35 (en : pN) (d : Nat) (v0 : Int32) (v1 : Int64) (vs0 : Int64) (s : qS) : qle (if (2 : Int32) ≤ v0 then if ¬ v0 = (2 : Int32) then L_X12_doesOf_61 en d v1 vs0 (6776180 : Int64) s else L_X12_doesOf_61 en d v1 vs0 (7368560 : Int64) s else L_X12_doesOf_61 en d v1 vs0 (1919246692 : Int64) s) (L_X12_doesOf_35 en d v0 v1 vs0 s) := by
  show qle _ (qE (qev en d) en (some .int) tb_X12_doesOf (35, [(0, .int v0), (1, .long v1)], [.long vs0]) s)
  refine e_L 3 (f' := (38, [(3, .long vs0), (0, .int v0), (1, .long v1)], [.int (2 : Int32), .int v0])) rfl ?_
  refine e_icmp 47 rfl rfl rfl (fun c1 => ?_) (fun c1 => ?_)
  · refine e_L 2 (f' := (49, [(3, .long vs0), (0, .int v0), (1, .long v1)], [.int (2 : Int32), .int v0])) rfl ?_
    refine e_icmp 58 rfl rfl rfl (fun c2 => ?_) (fun c2 => ?_)
    · refine e_gs (w := .long (6776180 : Int64)) rfl rfl ?_
      exact qE_sub (qsubL [2, 0] rfl (ks := [3, 0, 1]) rfl (by decide))
    · refine e_gs (w := .long (7368560 : Int64)) rfl rfl ?_
      refine e_L 1 (f' := (61, [(3, .long vs0), (0, .int v0), (1, .long v1)], [.long (7368560 : Int64)])) rfl ?_
      exact qE_sub (qsubL [2, 0] rfl (ks := [3, 0, 1]) rfl (by decide))
  · refine e_gs (w := .long (1919246692 : Int64)) rfl rfl ?_
    refine e_L 1 (f' := (61, [(3, .long vs0), (0, .int v0), (1, .long v1)], [.long (1919246692 : Int64)])) rfl ?_
    exact qE_sub (qsubL [2, 0] rfl (ks := [3, 0, 1]) rfl (by decide))
set_option maxRecDepth 100000 in
set_option maxHeartbeats 4000000 in
theorem le_X12_doesOf_61 (en : pN) (d : Nat) (v1 : Int64) (v3 : Int64) (vs0 : Int64) (s : qS) : qle (if ¬ (lg_cmp v1 v3) = (0 : Int32) then if ¬ (lg_cmp v1 vs0) = (0 : Int32) then some (some (.int (-1 : Int32)), s) else some (some (.int (1 : Int32)), s) else some (some (.int (0 : Int32)), s)) (L_X12_doesOf_61 en d v1 v3 vs0 s) := by
  show qle _ (qE (qev en d) en (some .int) tb_X12_doesOf (61, [(1, .long v1), (3, .long v3)], [.long vs0]) s)
  refine e_L 4 (f' := (66, [(5, .long vs0), (1, .long v1), (3, .long v3)], [.int (lg_cmp v1 v3)])) rfl ?_
  refine e_ifz 73 rfl rfl rfl (fun c1 => ?_) (fun c1 => ?_)
  · refine e_L 3 (f' := (77, [(5, .long vs0), (1, .long v1), (3, .long v3)], [.int (lg_cmp v1 vs0)])) rfl ?_
    refine e_ifz 84 rfl rfl rfl (fun c2 => ?_) (fun c2 => ?_)
    · refine e_L 1 (f' := (85, [(5, .long vs0), (1, .long v1), (3, .long v3)], [.int (-1 : Int32)])) rfl ?_
      exact e_rI rfl rfl
    · refine e_L 2 (f' := (85, [(5, .long vs0), (1, .long v1), (3, .long v3)], [.int (1 : Int32)])) rfl ?_
      exact e_rI rfl rfl
  · refine e_L 2 (f' := (85, [(5, .long vs0), (1, .long v1), (3, .long v3)], [.int (0 : Int32)])) rfl ?_
    exact e_rI rfl rfl
set_option maxRecDepth 100000 in
set_option maxHeartbeats 4000000 in
theorem le_X12_doesOf (en : pN) (d : Nat) (a1 : Int32) (a2 : Int64) (s : qS) : qle (if ¬ a1 = (0 : Int32) then if ¬ a1 = (1 : Int32) then if ¬ a1 = (2 : Int32) then L_X12_doesOf_35 en d a1 a2 (7370100 : Int64) s else L_X12_doesOf_35 en d a1 a2 (1886745448 : Int64) s else L_X12_doesOf_35 en d a1 a2 (1886156147 : Int64) s else L_X12_doesOf_35 en d a1 a2 (513020621925 : Int64) s) (qev en (d + 1) 349 [.int a1, .long a2] s) := by
  refine e_enter ix_X12_doesOf (Nat.le_of_ble_eq_true rfl) ?_
  show qle _ (qE (qev en d) en (some .int) tb_X12_doesOf (0, [(0, .int a1), (1, .long a2)], []) s)
  refine e_L 1 (f' := (1, [(0, .int a1), (1, .long a2)], [.int a1])) rfl ?_
  refine e_ifz 10 rfl rfl rfl (fun c1 => ?_) (fun c1 => ?_)
  · refine e_L 2 (f' := (12, [(0, .int a1), (1, .long a2)], [.int (1 : Int32), .int a1])) rfl ?_
    refine e_icmp 21 rfl rfl rfl (fun c2 => ?_) (fun c2 => ?_)
    · refine e_L 2 (f' := (23, [(0, .int a1), (1, .long a2)], [.int (2 : Int32), .int a1])) rfl ?_
      refine e_icmp 32 rfl rfl rfl (fun c3 => ?_) (fun c3 => ?_)
      · refine e_gs (w := .long (7370100 : Int64)) rfl rfl ?_
        exact qE_sub (qsubL [0, 1] rfl (ks := [0, 1]) rfl (by decide))
      · refine e_gs (w := .long (1886745448 : Int64)) rfl rfl ?_
        refine e_L 1 (f' := (35, [(0, .int a1), (1, .long a2)], [.long (1886745448 : Int64)])) rfl ?_
        exact qE_sub (qsubL [0, 1] rfl (ks := [0, 1]) rfl (by decide))
    · refine e_gs (w := .long (1886156147 : Int64)) rfl rfl ?_
      refine e_L 1 (f' := (35, [(0, .int a1), (1, .long a2)], [.long (1886156147 : Int64)])) rfl ?_
      exact qE_sub (qsubL [0, 1] rfl (ks := [0, 1]) rfl (by decide))
  · refine e_gs (w := .long (513020621925 : Int64)) rfl rfl ?_
    refine e_L 1 (f' := (35, [(0, .int a1), (1, .long a2)], [.long (513020621925 : Int64)])) rfl ?_
    exact qE_sub (qsubL [0, 1] rfl (ks := [0, 1]) rfl (by decide))
noncomputable def L_X12_layCalls_9 (en : pN) (d : Nat) (v1 : Int32) (v2 : Int32) (v3 : Int32) (s : qS) : Option qR := qE (qev en d) en (some .boolean) tb_X12_layCalls (9, [(0, .ref 151), (1, .int v1), (2, .int v2), (3, .int v3)], []) s
noncomputable def L_X12_layCalls_30 (en : pN) (d : Nat) (v1 : Int32) (v2 : Int32) (v3 : Int32) (s : qS) : Option qR := qE (qev en d) en (some .boolean) tb_X12_layCalls (30, [(0, .ref 151), (1, .int v1), (2, .int v2), (3, .int v3)], []) s
noncomputable def L_X12_layCalls_96 (en : pN) (d : Nat) (v1 : Int32) (v3 : Int32) (v4 : Int32) (v5 : Int32) (vs0 : Int32) (s : qS) : Option qR := qE (qev en d) en (some .boolean) tb_X12_layCalls (96, [(0, .ref 151), (1, .int v1), (3, .int v3), (4, .int v4), (5, .int v5)], [.int vs0]) s
noncomputable def L_X12_layCalls_201 (en : pN) (d : Nat) (v1 : Int32) (v3 : Int32) (v4 : Int32) (vs0 : Int32) (s : qS) : Option qR := qE (qev en d) en (some .boolean) tb_X12_layCalls (201, [(0, .ref 151), (1, .int v1), (3, .int v3), (4, .int v4)], [.int vs0]) s
noncomputable def L_X12_layCalls_245 (en : pN) (d : Nat) (v1 : Int32) (v2 : Int32) (v3 : Int32) (v4 : Int32) (s : qS) : Option qR := qE (qev en d) en (some .boolean) tb_X12_layCalls (245, [(0, .ref 151), (1, .int v1), (2, .int v2), (3, .int v3), (4, .int v4)], []) s
set_option maxRecDepth 100000 in
set_option maxHeartbeats 4000000 in
theorem le_X12_layCalls_9 (en : pN) (d : Nat) (v1 : Int32) (v2 : Int32) (v3 : Int32) (s : qS) : qle (if (4 : Int32) ≤ v3 then L_X12_layCalls_30 en d v1 v2 (0 : Int32) s else gd (p_inB v3 4 = true) (nm (uI s 206 (v3.toNatClampNeg) (-2 : Int32)) (fun s3 => L_X12_layCalls_9 en d v1 v2 (v3 + (1 : Int32)) s3))) (L_X12_layCalls_9 en d v1 v2 v3 s) := by
  show qle _ (qE (qev en d) en (some .boolean) tb_X12_layCalls (9, [(0, .ref 151), (1, .int v1), (2, .int v2), (3, .int v3)], []) s)
  refine e_L 2 (f' := (11, [(0, .ref 151), (1, .int v1), (2, .int v2), (3, .int v3)], [.int (4 : Int32), .int v3])) rfl ?_
  refine e_icmp 28 rfl rfl rfl (fun c1 => ?_) (fun c1 => ?_)
  · refine e_L 2 (f' := (30, [(3, .int (0 : Int32)), (0, .ref 151), (1, .int v1), (2, .int v2)], [])) rfl ?_
    exact qE_sub (qsubL [1, 2, 3, 0] rfl (ks := [3, 0, 1, 2]) rfl (by decide))
  · refine e_L 1 (f' := (15, [(0, .ref 151), (1, .int v1), (2, .int v2), (3, .int v3)], [.ref 151])) rfl ?_
    refine e_gR (q := 206) 12 93 rfl rfl lc_151 lr_151_93 ?_
    refine e_L 2 (f' := (21, [(0, .ref 151), (1, .int v1), (2, .int v2), (3, .int v3)], [.int (-2 : Int32), .int v3, .ref 206])) rfl ?_
    refine qle_gd fun h2 => ?_
    refine e_ias (n := 4) (k := v3.toNatClampNeg) rfl lc_206 ln_206 h2 rfl ?_
    refine e_nS fun s3 => ?_
    refine e_L 2 (f' := (9, [(3, .int (v3 + (1 : Int32))), (0, .ref 151), (1, .int v1), (2, .int v2)], [])) rfl ?_
    exact qE_sub (qsubL [1, 2, 3, 0] rfl (ks := [3, 0, 1, 2]) rfl (by decide))
set_option maxRecDepth 100000 in
set_option maxHeartbeats 4000000 in
theorem le_X12_layCalls_30 (en : pN) (d : Nat) (v1 : Int32) (v2 : Int32) (v3 : Int32) (s : qS) : qle (if (s.1 151 78) ≤ v3 then gd (v2 = 0 ∨ v2 = 1) (some (some (.int v2), s)) else gd (p_inB v3 200 = true) (nm (s.1 193 v3.toNatClampNeg) (fun z4 => if ¬ (s.1 196 v3.toNatClampNeg) = (15 : Int32) then if ¬ (s.1 196 v3.toNatClampNeg) = (16 : Int32) then L_X12_layCalls_30 en d v1 v2 (v3 + (1 : Int32)) s else if v2 = (0 : Int32) then L_X12_layCalls_201 en d v1 v3 z4 (0 : Int32) s else gd (p_inB z4 4 = true) (if (s.1 206 z4.toNatClampNeg) = (-2 : Int32) then L_X12_layCalls_201 en d v1 v3 z4 (0 : Int32) s else L_X12_layCalls_201 en d v1 v3 z4 (1 : Int32) s) else bI (qev en d 349 [.int v1, .long (s.2.1 199 v3.toNatClampNeg)] s) (fun w10 s11 => if v2 = (0 : Int32) then L_X12_layCalls_96 en d v1 v3 z4 w10 (0 : Int32) s11 else gd (p_inB z4 4 = true) (if ¬ (s11.1 206 z4.toNatClampNeg) = (-2 : Int32) then L_X12_layCalls_96 en d v1 v3 z4 w10 (0 : Int32) s11 else if w10 = (-1 : Int32) then L_X12_layCalls_96 en d v1 v3 z4 w10 (0 : Int32) s11 else L_X12_layCalls_96 en d v1 v3 z4 w10 (1 : Int32) s11))))) (L_X12_layCalls_30 en d v1 v2 v3 s) := by
  show qle _ (qE (qev en d) en (some .boolean) tb_X12_layCalls (30, [(0, .ref 151), (1, .int v1), (2, .int v2), (3, .int v3)], []) s)
  refine e_L 2 (f' := (32, [(0, .ref 151), (1, .int v1), (2, .int v2), (3, .int v3)], [.ref 151, .int v3])) rfl ?_
  refine e_gI 12 78 rfl rfl lc_151 ?_
  refine e_icmp 260 rfl rfl rfl (fun c1 => ?_) (fun c1 => ?_)
  · refine e_L 1 (f' := (261, [(0, .ref 151), (1, .int v1), (2, .int v2), (3, .int v3)], [.int v2])) rfl ?_
    exact qle_gd fun h2 => e_rZ rfl rfl h2
  · refine e_L 1 (f' := (39, [(0, .ref 151), (1, .int v1), (2, .int v2), (3, .int v3)], [.ref 151])) rfl ?_
    refine e_gR (q := 193) 12 79 rfl rfl lc_151 lr_151_79 ?_
    refine e_L 1 (f' := (43, [(0, .ref 151), (1, .int v1), (2, .int v2), (3, .int v3)], [.int v3, .ref 193])) rfl ?_
    refine qle_gd fun h3 => ?_
    refine e_ial (n := 200) (k := v3.toNatClampNeg) rfl lc_193 ln_193 h3 rfl ?_
    refine e_nI fun z4 => ?_
    refine e_L 2 (f' := (47, [(4, .int z4), (0, .ref 151), (1, .int v1), (2, .int v2), (3, .int v3)], [.ref 151])) rfl ?_
    refine e_gR (q := 196) 12 82 rfl rfl lc_151 lr_151_82 ?_
    refine e_L 1 (f' := (51, [(4, .int z4), (0, .ref 151), (1, .int v1), (2, .int v2), (3, .int v3)], [.int v3, .ref 196])) rfl ?_
    refine e_ial (n := 200) (k := v3.toNatClampNeg) rfl lc_196 ln_196 h3 rfl ?_
    refine e_L 1 (f' := (54, [(4, .int z4), (0, .ref 151), (1, .int v1), (2, .int v2), (3, .int v3)], [.int (15 : Int32), .int (s.1 196 v3.toNatClampNeg)])) rfl ?_
    refine e_icmp 169 rfl rfl rfl (fun c5 => ?_) (fun c5 => ?_)
    · refine e_L 1 (f' := (170, [(4, .int z4), (0, .ref 151), (1, .int v1), (2, .int v2), (3, .int v3)], [.ref 151])) rfl ?_
      refine e_gR (q := 196) 12 82 rfl rfl lc_151 lr_151_82 ?_
      refine e_L 1 (f' := (174, [(4, .int z4), (0, .ref 151), (1, .int v1), (2, .int v2), (3, .int v3)], [.int v3, .ref 196])) rfl ?_
      refine e_ial (n := 200) (k := v3.toNatClampNeg) rfl lc_196 ln_196 h3 rfl ?_
      refine e_L 1 (f' := (177, [(4, .int z4), (0, .ref 151), (1, .int v1), (2, .int v2), (3, .int v3)], [.int (16 : Int32), .int (s.1 196 v3.toNatClampNeg)])) rfl ?_
      refine e_icmp 254 rfl rfl rfl (fun c6 => ?_) (fun c6 => ?_)
      · refine e_L 2 (f' := (30, [(3, .int (v3 + (1 : Int32))), (4, .int z4), (0, .ref 151), (1, .int v1), (2, .int v2)], [])) rfl ?_
        exact qE_sub (qsubL [2, 3, 4, 0] rfl (ks := [3, 4, 0, 1, 2]) rfl (by decide))
      · refine e_L 1 (f' := (181, [(4, .int z4), (0, .ref 151), (1, .int v1), (2, .int v2), (3, .int v3)], [.int v2])) rfl ?_
        refine e_ifz 200 rfl rfl rfl (fun c7 => ?_) (fun c7 => ?_)
        · refine e_L 1 (f' := (201, [(4, .int z4), (0, .ref 151), (1, .int v1), (2, .int v2), (3, .int v3)], [.int (0 : Int32)])) rfl ?_
          exact qE_sub (qsubL [1, 2, 4, 0] rfl (ks := [4, 0, 1, 2, 3]) rfl (by decide))
        · refine e_L 1 (f' := (185, [(4, .int z4), (0, .ref 151), (1, .int v1), (2, .int v2), (3, .int v3)], [.ref 151])) rfl ?_
          refine e_gR (q := 206) 12 93 rfl rfl lc_151 lr_151_93 ?_
          refine e_L 1 (f' := (190, [(4, .int z4), (0, .ref 151), (1, .int v1), (2, .int v2), (3, .int v3)], [.int z4, .ref 206])) rfl ?_
          refine qle_gd fun h8 => ?_
          refine e_ial (n := 4) (k := z4.toNatClampNeg) rfl lc_206 ln_206 h8 rfl ?_
          refine e_L 1 (f' := (193, [(4, .int z4), (0, .ref 151), (1, .int v1), (2, .int v2), (3, .int v3)], [.int (-2 : Int32), .int (s.1 206 z4.toNatClampNeg)])) rfl ?_
          refine e_icmp 200 rfl rfl rfl (fun c9 => ?_) (fun c9 => ?_)
          · refine e_L 1 (f' := (201, [(4, .int z4), (0, .ref 151), (1, .int v1), (2, .int v2), (3, .int v3)], [.int (0 : Int32)])) rfl ?_
            exact qE_sub (qsubL [1, 2, 4, 0] rfl (ks := [4, 0, 1, 2, 3]) rfl (by decide))
          · refine e_L 2 (f' := (201, [(4, .int z4), (0, .ref 151), (1, .int v1), (2, .int v2), (3, .int v3)], [.int (1 : Int32)])) rfl ?_
            exact qE_sub (qsubL [1, 2, 4, 0] rfl (ks := [4, 0, 1, 2, 3]) rfl (by decide))
    · refine e_L 2 (f' := (59, [(4, .int z4), (0, .ref 151), (1, .int v1), (2, .int v2), (3, .int v3)], [.ref 151, .int v1])) rfl ?_
      refine e_gR (q := 199) 12 85 rfl rfl lc_151 lr_151_85 ?_
      refine e_L 1 (f' := (63, [(4, .int z4), (0, .ref 151), (1, .int v1), (2, .int v2), (3, .int v3)], [.int v3, .ref 199, .int v1])) rfl ?_
      refine e_lal (n := 200) (k := v3.toNatClampNeg) rfl lc_199 ln_199 h3 rfl ?_
      refine e_sI 349 rfl rfl rfl ix_X12_doesOf rfl (Nat.le_of_ble_eq_true rfl) (fun w10 s11 e12 => ?_)
      refine e_L 2 (f' := (70, [(5, .int w10), (4, .int z4), (0, .ref 151), (1, .int v1), (2, .int v2), (3, .int v3)], [.int v2])) rfl ?_
      refine e_ifz 95 rfl rfl rfl (fun c13 => ?_) (fun c13 => ?_)
      · refine e_L 1 (f' := (96, [(5, .int w10), (4, .int z4), (0, .ref 151), (1, .int v1), (2, .int v2), (3, .int v3)], [.int (0 : Int32)])) rfl ?_
        exact qE_sub (qsubL [2, 3, 5, 1, 0] rfl (ks := [5, 4, 0, 1, 2, 3]) rfl (by decide))
      · refine e_L 1 (f' := (74, [(5, .int w10), (4, .int z4), (0, .ref 151), (1, .int v1), (2, .int v2), (3, .int v3)], [.ref 151])) rfl ?_
        refine e_gR (q := 206) 12 93 rfl rfl lc_151 lr_151_93 ?_
        refine e_L 1 (f' := (79, [(5, .int w10), (4, .int z4), (0, .ref 151), (1, .int v1), (2, .int v2), (3, .int v3)], [.int z4, .ref 206])) rfl ?_
        refine qle_gd fun h14 => ?_
        refine e_ial (n := 4) (k := z4.toNatClampNeg) rfl lc_206 ln_206 h14 rfl ?_
        refine e_L 1 (f' := (82, [(5, .int w10), (4, .int z4), (0, .ref 151), (1, .int v1), (2, .int v2), (3, .int v3)], [.int (-2 : Int32), .int (s11.1 206 z4.toNatClampNeg)])) rfl ?_
        refine e_icmp 95 rfl rfl rfl (fun c15 => ?_) (fun c15 => ?_)
        · refine e_L 1 (f' := (96, [(5, .int w10), (4, .int z4), (0, .ref 151), (1, .int v1), (2, .int v2), (3, .int v3)], [.int (0 : Int32)])) rfl ?_
          exact qE_sub (qsubL [2, 3, 5, 1, 0] rfl (ks := [5, 4, 0, 1, 2, 3]) rfl (by decide))
        · refine e_L 2 (f' := (88, [(5, .int w10), (4, .int z4), (0, .ref 151), (1, .int v1), (2, .int v2), (3, .int v3)], [.int (-1 : Int32), .int w10])) rfl ?_
          refine e_icmp 95 rfl rfl rfl (fun c16 => ?_) (fun c16 => ?_)
          · refine e_L 1 (f' := (96, [(5, .int w10), (4, .int z4), (0, .ref 151), (1, .int v1), (2, .int v2), (3, .int v3)], [.int (0 : Int32)])) rfl ?_
            exact qE_sub (qsubL [2, 3, 5, 1, 0] rfl (ks := [5, 4, 0, 1, 2, 3]) rfl (by decide))
          · refine e_L 2 (f' := (96, [(5, .int w10), (4, .int z4), (0, .ref 151), (1, .int v1), (2, .int v2), (3, .int v3)], [.int (1 : Int32)])) rfl ?_
            exact qE_sub (qsubL [2, 3, 5, 1, 0] rfl (ks := [5, 4, 0, 1, 2, 3]) rfl (by decide))
set_option maxRecDepth 100000 in
set_option maxHeartbeats 4000000 in
theorem le_X12_layCalls_96 (en : pN) (d : Nat) (v1 : Int32) (v3 : Int32) (v4 : Int32) (v5 : Int32) (vs0 : Int32) (s : qS) : qle (gd (p_inB (s.1 151 87) 200 = true) (nm (uI s 201 ((s.1 151 87).toNatClampNeg) v3) (fun s2 => gd (p_inB (s2.1 151 87) 200 = true) (nm (uI s2 202 ((s2.1 151 87).toNatClampNeg) (1000 : Int32)) (fun s4 => gd (p_inB v3 200 = true) (gd (p_inB (s4.1 151 87) 200 = true) (nm (uI s4 203 ((s4.1 151 87).toNatClampNeg) (s4.1 198 v3.toNatClampNeg)) (fun s7 => gd (p_inB (s7.1 151 87) 200 = true) (nm (uI s7 205 ((s7.1 151 87).toNatClampNeg) v5) (fun s9 => gd (p_inB v4 4 = true) (nm (uI s9 206 (v4.toNatClampNeg) (s9.1 151 87)) (fun s11 => nm (uI s11 151 87 ((s11.1 151 87) + (1 : Int32))) (fun s12 => L_X12_layCalls_30 en d v1 vs0 (v3 + (1 : Int32)) s12))))))))))))) (L_X12_layCalls_96 en d v1 v3 v4 v5 vs0 s) := by
  show qle _ (qE (qev en d) en (some .boolean) tb_X12_layCalls (96, [(0, .ref 151), (1, .int v1), (3, .int v3), (4, .int v4), (5, .int v5)], [.int vs0]) s)
  refine e_L 2 (f' := (98, [(2, .int vs0), (0, .ref 151), (1, .int v1), (3, .int v3), (4, .int v4), (5, .int v5)], [.ref 151])) rfl ?_
  refine e_gR (q := 201) 12 88 rfl rfl lc_151 lr_151_88 ?_
  refine e_L 1 (f' := (102, [(2, .int vs0), (0, .ref 151), (1, .int v1), (3, .int v3), (4, .int v4), (5, .int v5)], [.ref 151, .ref 201])) rfl ?_
  refine e_gI 12 87 rfl rfl lc_151 ?_
  refine e_L 1 (f' := (106, [(2, .int vs0), (0, .ref 151), (1, .int v1), (3, .int v3), (4, .int v4), (5, .int v5)], [.int v3, .int (s.1 151 87), .ref 201])) rfl ?_
  refine qle_gd fun h1 => ?_
  refine e_ias (n := 200) (k := (s.1 151 87).toNatClampNeg) rfl lc_201 ln_201 h1 rfl ?_
  refine e_nS fun s2 => ?_
  refine e_L 1 (f' := (108, [(2, .int vs0), (0, .ref 151), (1, .int v1), (3, .int v3), (4, .int v4), (5, .int v5)], [.ref 151])) rfl ?_
  refine e_gR (q := 202) 12 89 rfl rfl lc_151 lr_151_89 ?_
  refine e_L 1 (f' := (112, [(2, .int vs0), (0, .ref 151), (1, .int v1), (3, .int v3), (4, .int v4), (5, .int v5)], [.ref 151, .ref 202])) rfl ?_
  refine e_gI 12 87 rfl rfl lc_151 ?_
  refine e_L 1 (f' := (118, [(2, .int vs0), (0, .ref 151), (1, .int v1), (3, .int v3), (4, .int v4), (5, .int v5)], [.int (1000 : Int32), .int (s2.1 151 87), .ref 202])) rfl ?_
  refine qle_gd fun h3 => ?_
  refine e_ias (n := 200) (k := (s2.1 151 87).toNatClampNeg) rfl lc_202 ln_202 h3 rfl ?_
  refine e_nS fun s4 => ?_
  refine e_L 1 (f' := (120, [(2, .int vs0), (0, .ref 151), (1, .int v1), (3, .int v3), (4, .int v4), (5, .int v5)], [.ref 151])) rfl ?_
  refine e_gR (q := 203) 12 90 rfl rfl lc_151 lr_151_90 ?_
  refine e_L 1 (f' := (124, [(2, .int vs0), (0, .ref 151), (1, .int v1), (3, .int v3), (4, .int v4), (5, .int v5)], [.ref 151, .ref 203])) rfl ?_
  refine e_gI 12 87 rfl rfl lc_151 ?_
  refine e_L 1 (f' := (128, [(2, .int vs0), (0, .ref 151), (1, .int v1), (3, .int v3), (4, .int v4), (5, .int v5)], [.ref 151, .int (s4.1 151 87), .ref 203])) rfl ?_
  refine e_gR (q := 198) 12 84 rfl rfl lc_151 lr_151_84 ?_
  refine e_L 1 (f' := (132, [(2, .int vs0), (0, .ref 151), (1, .int v1), (3, .int v3), (4, .int v4), (5, .int v5)], [.int v3, .ref 198, .int (s4.1 151 87), .ref 203])) rfl ?_
  refine qle_gd fun h5 => ?_
  refine e_ial (n := 200) (k := v3.toNatClampNeg) rfl lc_198 ln_198 h5 rfl ?_
  refine qle_gd fun h6 => ?_
  refine e_ias (n := 200) (k := (s4.1 151 87).toNatClampNeg) rfl lc_203 ln_203 h6 rfl ?_
  refine e_nS fun s7 => ?_
  refine e_L 1 (f' := (135, [(2, .int vs0), (0, .ref 151), (1, .int v1), (3, .int v3), (4, .int v4), (5, .int v5)], [.ref 151])) rfl ?_
  refine e_gR (q := 205) 12 92 rfl rfl lc_151 lr_151_92 ?_
  refine e_L 1 (f' := (139, [(2, .int vs0), (0, .ref 151), (1, .int v1), (3, .int v3), (4, .int v4), (5, .int v5)], [.ref 151, .ref 205])) rfl ?_
  refine e_gI 12 87 rfl rfl lc_151 ?_
  refine e_L 1 (f' := (144, [(2, .int vs0), (0, .ref 151), (1, .int v1), (3, .int v3), (4, .int v4), (5, .int v5)], [.int v5, .int (s7.1 151 87), .ref 205])) rfl ?_
  refine qle_gd fun h8 => ?_
  refine e_ias (n := 200) (k := (s7.1 151 87).toNatClampNeg) rfl lc_205 ln_205 h8 rfl ?_
  refine e_nS fun s9 => ?_
  refine e_L 1 (f' := (146, [(2, .int vs0), (0, .ref 151), (1, .int v1), (3, .int v3), (4, .int v4), (5, .int v5)], [.ref 151])) rfl ?_
  refine e_gR (q := 206) 12 93 rfl rfl lc_151 lr_151_93 ?_
  refine e_L 2 (f' := (152, [(2, .int vs0), (0, .ref 151), (1, .int v1), (3, .int v3), (4, .int v4), (5, .int v5)], [.ref 151, .int v4, .ref 206])) rfl ?_
  refine e_gI 12 87 rfl rfl lc_151 ?_
  refine qle_gd fun h10 => ?_
  refine e_ias (n := 4) (k := v4.toNatClampNeg) rfl lc_206 ln_206 h10 rfl ?_
  refine e_nS fun s11 => ?_
  refine e_L 2 (f' := (158, [(2, .int vs0), (0, .ref 151), (1, .int v1), (3, .int v3), (4, .int v4), (5, .int v5)], [.ref 151, .ref 151])) rfl ?_
  refine e_gI 12 87 rfl rfl lc_151 ?_
  refine e_L 2 (f' := (163, [(2, .int vs0), (0, .ref 151), (1, .int v1), (3, .int v3), (4, .int v4), (5, .int v5)], [.int ((s11.1 151 87) + (1 : Int32)), .ref 151])) rfl ?_
  refine e_pI 12 87 rfl rfl lc_151 rfl ?_
  refine e_nS fun s12 => ?_
  refine e_L 3 (f' := (30, [(3, .int (v3 + (1 : Int32))), (2, .int vs0), (0, .ref 151), (1, .int v1), (4, .int v4), (5, .int v5)], [])) rfl ?_
  exact qE_sub (qsubL [2, 3, 1, 0] rfl (ks := [3, 2, 0, 1, 4, 5]) rfl (by decide))
set_option maxRecDepth 100000 in
set_option maxHeartbeats 4000000 in
theorem le_X12_layCalls_201 (en : pN) (d : Nat) (v1 : Int32) (v3 : Int32) (v4 : Int32) (vs0 : Int32) (s : qS) : qle (gd (p_inB v4 4 = true) (if (s.1 206 v4.toNatClampNeg) = (-2 : Int32) then L_X12_layCalls_245 en d v1 vs0 v3 v4 s else gd (p_inB (s.1 206 v4.toNatClampNeg) 200 = true) (nm (uI s 202 ((s.1 206 v4.toNatClampNeg).toNatClampNeg) v3) (fun s4 => gd (p_inB v3 200 = true) (gd (p_inB (s4.1 206 v4.toNatClampNeg) 200 = true) (nm (uI s4 204 ((s4.1 206 v4.toNatClampNeg).toNatClampNeg) (s4.1 198 v3.toNatClampNeg)) (fun s7 => L_X12_layCalls_245 en d v1 vs0 v3 v4 s7))))))) (L_X12_layCalls_201 en d v1 v3 v4 vs0 s) := by
  show qle _ (qE (qev en d) en (some .boolean) tb_X12_layCalls (201, [(0, .ref 151), (1, .int v1), (3, .int v3), (4, .int v4)], [.int vs0]) s)
  refine e_L 2 (f' := (203, [(2, .int vs0), (0, .ref 151), (1, .int v1), (3, .int v3), (4, .int v4)], [.ref 151])) rfl ?_
  refine e_gR (q := 206) 12 93 rfl rfl lc_151 lr_151_93 ?_
  refine e_L 1 (f' := (208, [(2, .int vs0), (0, .ref 151), (1, .int v1), (3, .int v3), (4, .int v4)], [.int v4, .ref 206])) rfl ?_
  refine qle_gd fun h1 => ?_
  refine e_ial (n := 4) (k := v4.toNatClampNeg) rfl lc_206 ln_206 h1 rfl ?_
  refine e_L 1 (f' := (211, [(2, .int vs0), (0, .ref 151), (1, .int v1), (3, .int v3), (4, .int v4)], [.int (-2 : Int32), .int (s.1 206 v4.toNatClampNeg)])) rfl ?_
  refine e_icmp 245 rfl rfl rfl (fun c2 => ?_) (fun c2 => ?_)
  · exact qE_sub (qsubL [1, 2, 0, 3, 4] rfl (ks := [2, 0, 1, 3, 4]) rfl (by decide))
  · refine e_L 1 (f' := (215, [(2, .int vs0), (0, .ref 151), (1, .int v1), (3, .int v3), (4, .int v4)], [.ref 151])) rfl ?_
    refine e_gR (q := 202) 12 89 rfl rfl lc_151 lr_151_89 ?_
    refine e_L 1 (f' := (219, [(2, .int vs0), (0, .ref 151), (1, .int v1), (3, .int v3), (4, .int v4)], [.ref 151, .ref 202])) rfl ?_
    refine e_gR (q := 206) 12 93 rfl rfl lc_151 lr_151_93 ?_
    refine e_L 1 (f' := (224, [(2, .int vs0), (0, .ref 151), (1, .int v1), (3, .int v3), (4, .int v4)], [.int v4, .ref 206, .ref 202])) rfl ?_
    refine e_ial (n := 4) (k := v4.toNatClampNeg) rfl lc_206 ln_206 h1 rfl ?_
    refine e_L 1 (f' := (226, [(2, .int vs0), (0, .ref 151), (1, .int v1), (3, .int v3), (4, .int v4)], [.int v3, .int (s.1 206 v4.toNatClampNeg), .ref 202])) rfl ?_
    refine qle_gd fun h3 => ?_
    refine e_ias (n := 200) (k := (s.1 206 v4.toNatClampNeg).toNatClampNeg) rfl lc_202 ln_202 h3 rfl ?_
    refine e_nS fun s4 => ?_
    refine e_L 1 (f' := (228, [(2, .int vs0), (0, .ref 151), (1, .int v1), (3, .int v3), (4, .int v4)], [.ref 151])) rfl ?_
    refine e_gR (q := 204) 12 91 rfl rfl lc_151 lr_151_91 ?_
    refine e_L 1 (f' := (232, [(2, .int vs0), (0, .ref 151), (1, .int v1), (3, .int v3), (4, .int v4)], [.ref 151, .ref 204])) rfl ?_
    refine e_gR (q := 206) 12 93 rfl rfl lc_151 lr_151_93 ?_
    refine e_L 1 (f' := (237, [(2, .int vs0), (0, .ref 151), (1, .int v1), (3, .int v3), (4, .int v4)], [.int v4, .ref 206, .ref 204])) rfl ?_
    refine e_ial (n := 4) (k := v4.toNatClampNeg) rfl lc_206 ln_206 h1 rfl ?_
    refine e_L 1 (f' := (239, [(2, .int vs0), (0, .ref 151), (1, .int v1), (3, .int v3), (4, .int v4)], [.ref 151, .int (s4.1 206 v4.toNatClampNeg), .ref 204])) rfl ?_
    refine e_gR (q := 198) 12 84 rfl rfl lc_151 lr_151_84 ?_
    refine e_L 1 (f' := (243, [(2, .int vs0), (0, .ref 151), (1, .int v1), (3, .int v3), (4, .int v4)], [.int v3, .ref 198, .int (s4.1 206 v4.toNatClampNeg), .ref 204])) rfl ?_
    refine qle_gd fun h5 => ?_
    refine e_ial (n := 200) (k := v3.toNatClampNeg) rfl lc_198 ln_198 h5 rfl ?_
    refine qle_gd fun h6 => ?_
    refine e_ias (n := 200) (k := (s4.1 206 v4.toNatClampNeg).toNatClampNeg) rfl lc_204 ln_204 h6 rfl ?_
    refine e_nS fun s7 => ?_
    exact qE_sub (qsubL [1, 2, 0, 3, 4] rfl (ks := [2, 0, 1, 3, 4]) rfl (by decide))
set_option maxRecDepth 100000 in
set_option maxHeartbeats 4000000 in
theorem le_X12_layCalls_245 (en : pN) (d : Nat) (v1 : Int32) (v2 : Int32) (v3 : Int32) (v4 : Int32) (s : qS) : qle (gd (p_inB v4 4 = true) (nm (uI s 206 (v4.toNatClampNeg) (-2 : Int32)) (fun s2 => L_X12_layCalls_30 en d v1 v2 (v3 + (1 : Int32)) s2))) (L_X12_layCalls_245 en d v1 v2 v3 v4 s) := by
  show qle _ (qE (qev en d) en (some .boolean) tb_X12_layCalls (245, [(0, .ref 151), (1, .int v1), (2, .int v2), (3, .int v3), (4, .int v4)], []) s)
  refine e_L 1 (f' := (246, [(0, .ref 151), (1, .int v1), (2, .int v2), (3, .int v3), (4, .int v4)], [.ref 151])) rfl ?_
  refine e_gR (q := 206) 12 93 rfl rfl lc_151 lr_151_93 ?_
  refine e_L 2 (f' := (253, [(0, .ref 151), (1, .int v1), (2, .int v2), (3, .int v3), (4, .int v4)], [.int (-2 : Int32), .int v4, .ref 206])) rfl ?_
  refine qle_gd fun h1 => ?_
  refine e_ias (n := 4) (k := v4.toNatClampNeg) rfl lc_206 ln_206 h1 rfl ?_
  refine e_nS fun s2 => ?_
  refine e_L 2 (f' := (30, [(3, .int (v3 + (1 : Int32))), (0, .ref 151), (1, .int v1), (2, .int v2), (4, .int v4)], [])) rfl ?_
  exact qE_sub (qsubL [1, 2, 3, 0] rfl (ks := [3, 0, 1, 2, 4]) rfl (by decide))
set_option maxRecDepth 100000 in
set_option maxHeartbeats 4000000 in
theorem le_X12_layCalls (en : pN) (d : Nat) (a1 : Int32) (s : qS) : qle (nm (uI s 151 87 (0 : Int32)) (fun s1 => L_X12_layCalls_9 en d a1 (1 : Int32) (0 : Int32) s1)) (qev en (d + 1) 350 [.ref 151, .int a1] s) := by
  refine e_enter ix_X12_layCalls (Nat.le_of_ble_eq_true rfl) ?_
  show qle _ (qE (qev en d) en (some .boolean) tb_X12_layCalls (0, [(0, .ref 151), (1, .int a1)], []) s)
  refine e_L 2 (f' := (2, [(0, .ref 151), (1, .int a1)], [.int (0 : Int32), .ref 151])) rfl ?_
  refine e_pI 12 87 rfl rfl lc_151 rfl ?_
  refine e_nS fun s1 => ?_
  refine e_L 4 (f' := (9, [(3, .int (0 : Int32)), (2, .int (1 : Int32)), (0, .ref 151), (1, .int a1)], [])) rfl ?_
  exact qE_sub (qsubL [2, 3, 1, 0] rfl (ks := [3, 2, 0, 1]) rfl (by decide))
noncomputable def L_X12_given_14 (en : pN) (d : Nat) (v1 : Int32) (v2 : Int32) (v3 : Int32) (v4 : Int32) (v5 : Int32) (v6 : Int32) (v7 : Int32) (s : qS) : Option qR := qE (qev en d) en (some .int) tb_X12_given (14, [(0, .ref 151), (1, .int v1), (2, .int v2), (3, .int v3), (4, .int v4), (5, .int v5), (6, .int v6), (7, .int v7)], []) s
noncomputable def L_X12_given_44 (en : pN) (d : Nat) (v1 : Int32) (v2 : Int32) (v3 : Int32) (v4 : Int32) (v5 : Int32) (v7 : Int32) (v8 : Int32) (vs0 : Int32) (s : qS) : Option qR := qE (qev en d) en (some .int) tb_X12_given (44, [(0, .ref 151), (1, .int v1), (2, .int v2), (3, .int v3), (4, .int v4), (5, .int v5), (7, .int v7), (8, .int v8)], [.int vs0]) s
noncomputable def L_X12_given_66 (en : pN) (d : Nat) (v1 : Int32) (v2 : Int32) (v3 : Int32) (v4 : Int32) (v5 : Int32) (v7 : Int32) (v8 : Int32) (v9 : Int32) (vs0 : Int32) (s : qS) : Option qR := qE (qev en d) en (some .int) tb_X12_given (66, [(0, .ref 151), (1, .int v1), (2, .int v2), (3, .int v3), (4, .int v4), (5, .int v5), (7, .int v7), (8, .int v8), (9, .int v9)], [.int vs0]) s
set_option maxRecDepth 100000 in
set_option maxHeartbeats 4000000 in
theorem le_X12_given_14 (en : pN) (d : Nat) (v1 : Int32) (v2 : Int32) (v3 : Int32) (v4 : Int32) (v5 : Int32) (v6 : Int32) (v7 : Int32) (s : qS) : qle (if v2 ≤ v7 then some (some (.int v6), s) else gd (p_inB v7 13 = true) (nm (s.1 207 v7.toNatClampNeg) (fun z3 => gd (p_inB z3 200 = true) (if ¬ (s.1 205 z3.toNatClampNeg) = (0 : Int32) then L_X12_given_44 en d v1 v2 v3 v4 v5 v7 z3 (0 : Int32) s else L_X12_given_44 en d v1 v2 v3 v4 v5 v7 z3 (1 : Int32) s)))) (L_X12_given_14 en d v1 v2 v3 v4 v5 v6 v7 s) := by
  show qle _ (qE (qev en d) en (some .int) tb_X12_given (14, [(0, .ref 151), (1, .int v1), (2, .int v2), (3, .int v3), (4, .int v4), (5, .int v5), (6, .int v6), (7, .int v7)], []) s)
  refine e_L 2 (f' := (17, [(0, .ref 151), (1, .int v1), (2, .int v2), (3, .int v3), (4, .int v4), (5, .int v5), (6, .int v6), (7, .int v7)], [.int v2, .int v7])) rfl ?_
  refine e_icmp 183 rfl rfl rfl (fun c1 => ?_) (fun c1 => ?_)
  · refine e_L 1 (f' := (185, [(0, .ref 151), (1, .int v1), (2, .int v2), (3, .int v3), (4, .int v4), (5, .int v5), (6, .int v6), (7, .int v7)], [.int v6])) rfl ?_
    exact e_rI rfl rfl
  · refine e_L 1 (f' := (21, [(0, .ref 151), (1, .int v1), (2, .int v2), (3, .int v3), (4, .int v4), (5, .int v5), (6, .int v6), (7, .int v7)], [.ref 151])) rfl ?_
    refine e_gR (q := 207) 12 94 rfl rfl lc_151 lr_151_94 ?_
    refine e_L 1 (f' := (26, [(0, .ref 151), (1, .int v1), (2, .int v2), (3, .int v3), (4, .int v4), (5, .int v5), (6, .int v6), (7, .int v7)], [.int v7, .ref 207])) rfl ?_
    refine qle_gd fun h2 => ?_
    refine e_ial (n := 13) (k := v7.toNatClampNeg) rfl lc_207 ln_207 h2 rfl ?_
    refine e_nI fun z3 => ?_
    refine e_L 2 (f' := (30, [(8, .int z3), (0, .ref 151), (1, .int v1), (2, .int v2), (3, .int v3), (4, .int v4), (5, .int v5), (6, .int v6), (7, .int v7)], [.ref 151])) rfl ?_
    refine e_gR (q := 205) 12 92 rfl rfl lc_151 lr_151_92 ?_
    refine e_L 1 (f' := (35, [(8, .int z3), (0, .ref 151), (1, .int v1), (2, .int v2), (3, .int v3), (4, .int v4), (5, .int v5), (6, .int v6), (7, .int v7)], [.int z3, .ref 205])) rfl ?_
    refine qle_gd fun h4 => ?_
    refine e_ial (n := 200) (k := z3.toNatClampNeg) rfl lc_205 ln_205 h4 rfl ?_
    refine e_ifz 43 rfl rfl rfl (fun c5 => ?_) (fun c5 => ?_)
    · refine e_L 1 (f' := (44, [(8, .int z3), (0, .ref 151), (1, .int v1), (2, .int v2), (3, .int v3), (4, .int v4), (5, .int v5), (6, .int v6), (7, .int v7)], [.int (0 : Int32)])) rfl ?_
      exact qE_sub (qsubL [1, 2, 3, 4, 5, 6, 8, 0] rfl (ks := [8, 0, 1, 2, 3, 4, 5, 6, 7]) rfl (by decide))
    · refine e_L 2 (f' := (44, [(8, .int z3), (0, .ref 151), (1, .int v1), (2, .int v2), (3, .int v3), (4, .int v4), (5, .int v5), (6, .int v6), (7, .int v7)], [.int (1 : Int32)])) rfl ?_
      exact qE_sub (qsubL [1, 2, 3, 4, 5, 6, 8, 0] rfl (ks := [8, 0, 1, 2, 3, 4, 5, 6, 7]) rfl (by decide))
set_option maxRecDepth 100000 in
set_option maxHeartbeats 4000000 in
theorem le_X12_given_44 (en : pN) (d : Nat) (v1 : Int32) (v2 : Int32) (v3 : Int32) (v4 : Int32) (v5 : Int32) (v7 : Int32) (v8 : Int32) (vs0 : Int32) (s : qS) : qle (if (2 : Int32) ≤ v1 then if vs0 = (0 : Int32) then if ¬ v3 = v4 then if ¬ v1 = (2 : Int32) then gd (p_inB v4 16 = true) (nm (s.1 209 v4.toNatClampNeg) (fun z6 => L_X12_given_14 en d v1 v2 v3 (v4 + (1 : Int32)) v5 z6 (v7 + (1 : Int32)) s)) else gd (p_inB (v3 + (-1 : Int32)) 16 = true) (nm (s.1 209 (v3 + (-1 : Int32)).toNatClampNeg) (fun z8 => L_X12_given_14 en d v1 v2 (v3 + (-1 : Int32)) v4 v5 z8 (v7 + (1 : Int32)) s)) else L_X12_given_14 en d v1 v2 v3 v4 v5 (-1 : Int32) (v7 + (1 : Int32)) s else gd (p_inB v8 200 = true) (gd (p_inB v3 16 = true) (nm (uI s 209 (v3.toNatClampNeg) (s.1 203 v8.toNatClampNeg)) (fun s11 => L_X12_given_14 en d v1 v2 (v3 + (1 : Int32)) v4 v5 (0 : Int32) (v7 + (1 : Int32)) s11))) else if vs0 = (0 : Int32) then L_X12_given_66 en d v1 v2 v3 v4 v5 v7 v8 vs0 v5 s else if ¬ v1 = (0 : Int32) then L_X12_given_66 en d v1 v2 v3 v4 v5 v7 v8 vs0 v5 s else L_X12_given_66 en d v1 v2 v3 v4 v5 v7 v8 vs0 (0 : Int32) s) (L_X12_given_44 en d v1 v2 v3 v4 v5 v7 v8 vs0 s) := by
  show qle _ (qE (qev en d) en (some .int) tb_X12_given (44, [(0, .ref 151), (1, .int v1), (2, .int v2), (3, .int v3), (4, .int v4), (5, .int v5), (7, .int v7), (8, .int v8)], [.int vs0]) s)
  refine e_L 3 (f' := (48, [(9, .int vs0), (0, .ref 151), (1, .int v1), (2, .int v2), (3, .int v3), (4, .int v4), (5, .int v5), (7, .int v7), (8, .int v8)], [.int (2 : Int32), .int v1])) rfl ?_
  refine e_icmp 107 rfl rfl rfl (fun c1 => ?_) (fun c1 => ?_)
  · refine e_L 1 (f' := (109, [(9, .int vs0), (0, .ref 151), (1, .int v1), (2, .int v2), (3, .int v3), (4, .int v4), (5, .int v5), (7, .int v7), (8, .int v8)], [.int vs0])) rfl ?_
    refine e_ifz 134 rfl rfl rfl (fun c2 => ?_) (fun c2 => ?_)
    · refine e_L 2 (f' := (137, [(9, .int vs0), (0, .ref 151), (1, .int v1), (2, .int v2), (3, .int v3), (4, .int v4), (5, .int v5), (7, .int v7), (8, .int v8)], [.int v4, .int v3])) rfl ?_
      refine e_icmp 146 rfl rfl rfl (fun c3 => ?_) (fun c3 => ?_)
      · refine e_L 2 (f' := (148, [(9, .int vs0), (0, .ref 151), (1, .int v1), (2, .int v2), (3, .int v3), (4, .int v4), (5, .int v5), (7, .int v7), (8, .int v8)], [.int (2 : Int32), .int v1])) rfl ?_
        refine e_icmp 165 rfl rfl rfl (fun c4 => ?_) (fun c4 => ?_)
        · refine e_L 1 (f' := (166, [(9, .int vs0), (0, .ref 151), (1, .int v1), (2, .int v2), (3, .int v3), (4, .int v4), (5, .int v5), (7, .int v7), (8, .int v8)], [.ref 151])) rfl ?_
          refine e_gR (q := 209) 12 97 rfl rfl lc_151 lr_151_97 ?_
          refine e_L 1 (f' := (171, [(9, .int vs0), (0, .ref 151), (1, .int v1), (2, .int v2), (3, .int v3), (4, .int v4), (5, .int v5), (7, .int v7), (8, .int v8)], [.int v4, .ref 209])) rfl ?_
          refine qle_gd fun h5 => ?_
          refine e_ial (n := 16) (k := v4.toNatClampNeg) rfl lc_209 ln_209 h5 rfl ?_
          refine e_nI fun z6 => ?_
          refine e_L 4 (f' := (14, [(7, .int (v7 + (1 : Int32))), (4, .int (v4 + (1 : Int32))), (6, .int z6), (9, .int vs0), (0, .ref 151), (1, .int v1), (2, .int v2), (3, .int v3), (5, .int v5), (8, .int v8)], [])) rfl ?_
          exact qE_sub (qsubL [4, 5, 6, 7, 1, 8, 2, 0] rfl (ks := [7, 4, 6, 9, 0, 1, 2, 3, 5, 8]) rfl (by decide))
        · refine e_L 2 (f' := (155, [(3, .int (v3 + (-1 : Int32))), (9, .int vs0), (0, .ref 151), (1, .int v1), (2, .int v2), (4, .int v4), (5, .int v5), (7, .int v7), (8, .int v8)], [.ref 151])) rfl ?_
          refine e_gR (q := 209) 12 97 rfl rfl lc_151 lr_151_97 ?_
          refine e_L 1 (f' := (159, [(3, .int (v3 + (-1 : Int32))), (9, .int vs0), (0, .ref 151), (1, .int v1), (2, .int v2), (4, .int v4), (5, .int v5), (7, .int v7), (8, .int v8)], [.int (v3 + (-1 : Int32)), .ref 209])) rfl ?_
          refine qle_gd fun h7 => ?_
          refine e_ial (n := 16) (k := (v3 + (-1 : Int32)).toNatClampNeg) rfl lc_209 ln_209 h7 rfl ?_
          refine e_nI fun z8 => ?_
          refine e_L 4 (f' := (14, [(7, .int (v7 + (1 : Int32))), (6, .int z8), (3, .int (v3 + (-1 : Int32))), (9, .int vs0), (0, .ref 151), (1, .int v1), (2, .int v2), (4, .int v4), (5, .int v5), (8, .int v8)], [])) rfl ?_
          exact qE_sub (qsubL [4, 5, 6, 2, 7, 8, 1, 0] rfl (ks := [7, 6, 3, 9, 0, 1, 2, 4, 5, 8]) rfl (by decide))
      · refine e_L 5 (f' := (14, [(7, .int (v7 + (1 : Int32))), (6, .int (-1 : Int32)), (9, .int vs0), (0, .ref 151), (1, .int v1), (2, .int v2), (3, .int v3), (4, .int v4), (5, .int v5), (8, .int v8)], [])) rfl ?_
        exact qE_sub (qsubL [3, 4, 5, 6, 7, 8, 1, 0] rfl (ks := [7, 6, 9, 0, 1, 2, 3, 4, 5, 8]) rfl (by decide))
    · refine e_L 1 (f' := (113, [(9, .int vs0), (0, .ref 151), (1, .int v1), (2, .int v2), (3, .int v3), (4, .int v4), (5, .int v5), (7, .int v7), (8, .int v8)], [.ref 151])) rfl ?_
      refine e_gR (q := 209) 12 97 rfl rfl lc_151 lr_151_97 ?_
      refine e_L 2 (f' := (118, [(9, .int vs0), (0, .ref 151), (1, .int v1), (2, .int v2), (3, .int v3), (4, .int v4), (5, .int v5), (7, .int v7), (8, .int v8)], [.ref 151, .int v3, .ref 209])) rfl ?_
      refine e_gR (q := 203) 12 90 rfl rfl lc_151 lr_151_90 ?_
      refine e_L 1 (f' := (123, [(9, .int vs0), (0, .ref 151), (1, .int v1), (2, .int v2), (3, .int v3), (4, .int v4), (5, .int v5), (7, .int v7), (8, .int v8)], [.int v8, .ref 203, .int v3, .ref 209])) rfl ?_
      refine qle_gd fun h9 => ?_
      refine e_ial (n := 200) (k := v8.toNatClampNeg) rfl lc_203 ln_203 h9 rfl ?_
      refine qle_gd fun h10 => ?_
      refine e_ias (n := 16) (k := v3.toNatClampNeg) rfl lc_209 ln_209 h10 rfl ?_
      refine e_nS fun s11 => ?_
      refine e_L 6 (f' := (14, [(7, .int (v7 + (1 : Int32))), (6, .int (0 : Int32)), (3, .int (v3 + (1 : Int32))), (9, .int vs0), (0, .ref 151), (1, .int v1), (2, .int v2), (4, .int v4), (5, .int v5), (8, .int v8)], [])) rfl ?_
      exact qE_sub (qsubL [4, 5, 6, 2, 7, 8, 1, 0] rfl (ks := [7, 6, 3, 9, 0, 1, 2, 4, 5, 8]) rfl (by decide))
  · refine e_L 1 (f' := (53, [(9, .int vs0), (0, .ref 151), (1, .int v1), (2, .int v2), (3, .int v3), (4, .int v4), (5, .int v5), (7, .int v7), (8, .int v8)], [.int vs0])) rfl ?_
    refine e_ifz 64 rfl rfl rfl (fun c12 => ?_) (fun c12 => ?_)
    · refine e_L 1 (f' := (66, [(9, .int vs0), (0, .ref 151), (1, .int v1), (2, .int v2), (3, .int v3), (4, .int v4), (5, .int v5), (7, .int v7), (8, .int v8)], [.int v5])) rfl ?_
      exact qE_sub (qsubL [1, 2, 3, 4, 5, 6, 7, 8, 0] rfl (ks := [9, 0, 1, 2, 3, 4, 5, 7, 8]) rfl (by decide))
    · refine e_L 1 (f' := (57, [(9, .int vs0), (0, .ref 151), (1, .int v1), (2, .int v2), (3, .int v3), (4, .int v4), (5, .int v5), (7, .int v7), (8, .int v8)], [.int v1])) rfl ?_
      refine e_ifz 64 rfl rfl rfl (fun c13 => ?_) (fun c13 => ?_)
      · refine e_L 1 (f' := (66, [(9, .int vs0), (0, .ref 151), (1, .int v1), (2, .int v2), (3, .int v3), (4, .int v4), (5, .int v5), (7, .int v7), (8, .int v8)], [.int v5])) rfl ?_
        exact qE_sub (qsubL [1, 2, 3, 4, 5, 6, 7, 8, 0] rfl (ks := [9, 0, 1, 2, 3, 4, 5, 7, 8]) rfl (by decide))
      · refine e_L 2 (f' := (66, [(9, .int vs0), (0, .ref 151), (1, .int v1), (2, .int v2), (3, .int v3), (4, .int v4), (5, .int v5), (7, .int v7), (8, .int v8)], [.int (0 : Int32)])) rfl ?_
        exact qE_sub (qsubL [1, 2, 3, 4, 5, 6, 7, 8, 0] rfl (ks := [9, 0, 1, 2, 3, 4, 5, 7, 8]) rfl (by decide))
set_option maxRecDepth 100000 in
set_option maxHeartbeats 4000000 in
theorem le_X12_given_66 (en : pN) (d : Nat) (v1 : Int32) (v2 : Int32) (v3 : Int32) (v4 : Int32) (v5 : Int32) (v7 : Int32) (v8 : Int32) (v9 : Int32) (vs0 : Int32) (s : qS) : qle (if ¬ v9 = (0 : Int32) then if ¬ v1 = (0 : Int32) then gd (p_inB v8 200 = true) (nm (v5 + (s.1 203 v8.toNatClampNeg)) (fun z4 => L_X12_given_14 en d v1 v2 v3 v4 z4 vs0 (v7 + (1 : Int32)) s)) else gd (p_inB v8 200 = true) (nm (s.1 203 v8.toNatClampNeg) (fun z6 => L_X12_given_14 en d v1 v2 v3 v4 z6 vs0 (v7 + (1 : Int32)) s)) else L_X12_given_14 en d v1 v2 v3 v4 v5 vs0 (v7 + (1 : Int32)) s) (L_X12_given_66 en d v1 v2 v3 v4 v5 v7 v8 v9 vs0 s) := by
  show qle _ (qE (qev en d) en (some .int) tb_X12_given (66, [(0, .ref 151), (1, .int v1), (2, .int v2), (3, .int v3), (4, .int v4), (5, .int v5), (7, .int v7), (8, .int v8), (9, .int v9)], [.int vs0]) s)
  refine e_L 2 (f' := (70, [(6, .int vs0), (0, .ref 151), (1, .int v1), (2, .int v2), (3, .int v3), (4, .int v4), (5, .int v5), (7, .int v7), (8, .int v8), (9, .int v9)], [.int v9])) rfl ?_
  refine e_ifz 78 rfl rfl rfl (fun c1 => ?_) (fun c1 => ?_)
  · refine e_L 1 (f' := (79, [(6, .int vs0), (0, .ref 151), (1, .int v1), (2, .int v2), (3, .int v3), (4, .int v4), (5, .int v5), (7, .int v7), (8, .int v8), (9, .int v9)], [.int v1])) rfl ?_
    refine e_ifz 92 rfl rfl rfl (fun c2 => ?_) (fun c2 => ?_)
    · refine e_L 2 (f' := (95, [(6, .int vs0), (0, .ref 151), (1, .int v1), (2, .int v2), (3, .int v3), (4, .int v4), (5, .int v5), (7, .int v7), (8, .int v8), (9, .int v9)], [.ref 151, .int v5])) rfl ?_
      refine e_gR (q := 203) 12 90 rfl rfl lc_151 lr_151_90 ?_
      refine e_L 1 (f' := (100, [(6, .int vs0), (0, .ref 151), (1, .int v1), (2, .int v2), (3, .int v3), (4, .int v4), (5, .int v5), (7, .int v7), (8, .int v8), (9, .int v9)], [.int v8, .ref 203, .int v5])) rfl ?_
      refine qle_gd fun h3 => ?_
      refine e_ial (n := 200) (k := v8.toNatClampNeg) rfl lc_203 ln_203 h3 rfl ?_
      refine e_L 1 (f' := (102, [(6, .int vs0), (0, .ref 151), (1, .int v1), (2, .int v2), (3, .int v3), (4, .int v4), (5, .int v5), (7, .int v7), (8, .int v8), (9, .int v9)], [.int (v5 + (s.1 203 v8.toNatClampNeg))])) rfl ?_
      refine e_nI fun z4 => ?_
      refine e_L 4 (f' := (14, [(7, .int (v7 + (1 : Int32))), (5, .int z4), (6, .int vs0), (0, .ref 151), (1, .int v1), (2, .int v2), (3, .int v3), (4, .int v4), (8, .int v8), (9, .int v9)], [])) rfl ?_
      exact qE_sub (qsubL [3, 4, 5, 6, 7, 1, 2, 0] rfl (ks := [7, 5, 6, 0, 1, 2, 3, 4, 8, 9]) rfl (by decide))
    · refine e_L 1 (f' := (83, [(6, .int vs0), (0, .ref 151), (1, .int v1), (2, .int v2), (3, .int v3), (4, .int v4), (5, .int v5), (7, .int v7), (8, .int v8), (9, .int v9)], [.ref 151])) rfl ?_
      refine e_gR (q := 203) 12 90 rfl rfl lc_151 lr_151_90 ?_
      refine e_L 1 (f' := (88, [(6, .int vs0), (0, .ref 151), (1, .int v1), (2, .int v2), (3, .int v3), (4, .int v4), (5, .int v5), (7, .int v7), (8, .int v8), (9, .int v9)], [.int v8, .ref 203])) rfl ?_
      refine qle_gd fun h5 => ?_
      refine e_ial (n := 200) (k := v8.toNatClampNeg) rfl lc_203 ln_203 h5 rfl ?_
      refine e_L 1 (f' := (102, [(6, .int vs0), (0, .ref 151), (1, .int v1), (2, .int v2), (3, .int v3), (4, .int v4), (5, .int v5), (7, .int v7), (8, .int v8), (9, .int v9)], [.int (s.1 203 v8.toNatClampNeg)])) rfl ?_
      refine e_nI fun z6 => ?_
      refine e_L 4 (f' := (14, [(7, .int (v7 + (1 : Int32))), (5, .int z6), (6, .int vs0), (0, .ref 151), (1, .int v1), (2, .int v2), (3, .int v3), (4, .int v4), (8, .int v8), (9, .int v9)], [])) rfl ?_
      exact qE_sub (qsubL [3, 4, 5, 6, 7, 1, 2, 0] rfl (ks := [7, 5, 6, 0, 1, 2, 3, 4, 8, 9]) rfl (by decide))
  · refine e_L 6 (f' := (14, [(7, .int (v7 + (1 : Int32))), (5, .int v5), (6, .int vs0), (0, .ref 151), (1, .int v1), (2, .int v2), (3, .int v3), (4, .int v4), (8, .int v8), (9, .int v9)], [])) rfl ?_
    exact qE_sub (qsubL [3, 4, 5, 6, 7, 1, 2, 0] rfl (ks := [7, 5, 6, 0, 1, 2, 3, 4, 8, 9]) rfl (by decide))
set_option maxRecDepth 100000 in
set_option maxHeartbeats 4000000 in
theorem le_X12_given (en : pN) (d : Nat) (a1 : Int32) (a2 : Int32) (s : qS) : qle (L_X12_given_14 en d a1 a2 (0 : Int32) (0 : Int32) (0 : Int32) (0 : Int32) (0 : Int32) s) (qev en (d + 1) 351 [.ref 151, .int a1, .int a2] s) := by
  refine e_enter ix_X12_given (Nat.le_of_ble_eq_true rfl) ?_
  show qle _ (qE (qev en d) en (some .int) tb_X12_given (0, [(0, .ref 151), (1, .int a1), (2, .int a2)], []) s)
  refine e_L 10 (f' := (14, [(7, .int (0 : Int32)), (6, .int (0 : Int32)), (5, .int (0 : Int32)), (4, .int (0 : Int32)), (3, .int (0 : Int32)), (0, .ref 151), (1, .int a1), (2, .int a2)], [])) rfl ?_
  exact qE_sub (qsubL [5, 6, 7, 4, 3, 2, 1, 0] rfl (ks := [7, 6, 5, 4, 3, 0, 1, 2]) rfl (by decide))
noncomputable def L_X12_canBeNext_17 (en : pN) (d : Nat) (v1 : Int32) (v2 : Int32) (v3 : Int32) (v4 : Int32) (s : qS) : Option qR := qE (qev en d) en (some .boolean) tb_X12_canBeNext (17, [(0, .ref 151), (1, .int v1), (2, .int v2), (3, .int v3), (4, .int v4)], []) s
set_option maxRecDepth 100000 in
set_option maxHeartbeats 4000000 in
theorem le_X12_canBeNext_17 (en : pN) (d : Nat) (v1 : Int32) (v2 : Int32) (v3 : Int32) (v4 : Int32) (s : qS) : qle (if (s.1 151 87) ≤ v4 then gd (v3 = 0 ∨ v3 = 1) (some (some (.int v3), s)) else if v3 = (0 : Int32) then gd (v3 = 0 ∨ v3 = 1) (some (some (.int v3), s)) else if ((v2 >>> (v4 &&& 31)) &&& (1 : Int32)) = (1 : Int32) then L_X12_canBeNext_17 en d v1 v2 (1 : Int32) (v4 + (1 : Int32)) s else gd (p_inB v4 200 = true) (gd (p_inB v1 200 = true) (if (s.1 202 v4.toNatClampNeg) ≤ (s.1 201 v1.toNatClampNeg) then L_X12_canBeNext_17 en d v1 v2 (0 : Int32) (v4 + (1 : Int32)) s else L_X12_canBeNext_17 en d v1 v2 (1 : Int32) (v4 + (1 : Int32)) s))) (L_X12_canBeNext_17 en d v1 v2 v3 v4 s) := by
  show qle _ (qE (qev en d) en (some .boolean) tb_X12_canBeNext (17, [(0, .ref 151), (1, .int v1), (2, .int v2), (3, .int v3), (4, .int v4)], []) s)
  refine e_L 2 (f' := (20, [(0, .ref 151), (1, .int v1), (2, .int v2), (3, .int v3), (4, .int v4)], [.ref 151, .int v4])) rfl ?_
  refine e_gI 12 87 rfl rfl lc_151 ?_
  refine e_icmp 68 rfl rfl rfl (fun c1 => ?_) (fun c1 => ?_)
  · refine e_L 1 (f' := (69, [(0, .ref 151), (1, .int v1), (2, .int v2), (3, .int v3), (4, .int v4)], [.int v3])) rfl ?_
    exact qle_gd fun h2 => e_rZ rfl rfl h2
  · refine e_L 1 (f' := (27, [(0, .ref 151), (1, .int v1), (2, .int v2), (3, .int v3), (4, .int v4)], [.int v3])) rfl ?_
    refine e_ifz 68 rfl rfl rfl (fun c3 => ?_) (fun c3 => ?_)
    · refine e_L 1 (f' := (69, [(0, .ref 151), (1, .int v1), (2, .int v2), (3, .int v3), (4, .int v4)], [.int v3])) rfl ?_
      exact qle_gd fun h4 => e_rZ rfl rfl h4
    · refine e_L 6 (f' := (37, [(0, .ref 151), (1, .int v1), (2, .int v2), (3, .int v3), (4, .int v4)], [.int (1 : Int32), .int ((v2 >>> (v4 &&& 31)) &&& (1 : Int32))])) rfl ?_
      refine e_icmp 56 rfl rfl rfl (fun c5 => ?_) (fun c5 => ?_)
      · refine e_L 5 (f' := (17, [(4, .int (v4 + (1 : Int32))), (3, .int (1 : Int32)), (0, .ref 151), (1, .int v1), (2, .int v2)], [])) rfl ?_
        exact qE_sub (qsubL [2, 3, 4, 1, 0] rfl (ks := [4, 3, 0, 1, 2]) rfl (by decide))
      · refine e_L 1 (f' := (41, [(0, .ref 151), (1, .int v1), (2, .int v2), (3, .int v3), (4, .int v4)], [.ref 151])) rfl ?_
        refine e_gR (q := 202) 12 89 rfl rfl lc_151 lr_151_89 ?_
        refine e_L 1 (f' := (46, [(0, .ref 151), (1, .int v1), (2, .int v2), (3, .int v3), (4, .int v4)], [.int v4, .ref 202])) rfl ?_
        refine qle_gd fun h6 => ?_
        refine e_ial (n := 200) (k := v4.toNatClampNeg) rfl lc_202 ln_202 h6 rfl ?_
        refine e_L 1 (f' := (48, [(0, .ref 151), (1, .int v1), (2, .int v2), (3, .int v3), (4, .int v4)], [.ref 151, .int (s.1 202 v4.toNatClampNeg)])) rfl ?_
        refine e_gR (q := 201) 12 88 rfl rfl lc_151 lr_151_88 ?_
        refine e_L 1 (f' := (52, [(0, .ref 151), (1, .int v1), (2, .int v2), (3, .int v3), (4, .int v4)], [.int v1, .ref 201, .int (s.1 202 v4.toNatClampNeg)])) rfl ?_
        refine qle_gd fun h7 => ?_
        refine e_ial (n := 200) (k := v1.toNatClampNeg) rfl lc_201 ln_201 h7 rfl ?_
        refine e_icmp 60 rfl rfl rfl (fun c8 => ?_) (fun c8 => ?_)
        · refine e_L 4 (f' := (17, [(4, .int (v4 + (1 : Int32))), (3, .int (0 : Int32)), (0, .ref 151), (1, .int v1), (2, .int v2)], [])) rfl ?_
          exact qE_sub (qsubL [2, 3, 4, 1, 0] rfl (ks := [4, 3, 0, 1, 2]) rfl (by decide))
        · refine e_L 5 (f' := (17, [(4, .int (v4 + (1 : Int32))), (3, .int (1 : Int32)), (0, .ref 151), (1, .int v1), (2, .int v2)], [])) rfl ?_
          exact qE_sub (qsubL [2, 3, 4, 1, 0] rfl (ks := [4, 3, 0, 1, 2]) rfl (by decide))
set_option maxRecDepth 100000 in
set_option maxHeartbeats 4000000 in
theorem le_X12_canBeNext (en : pN) (d : Nat) (a1 : Int32) (a2 : Int32) (s : qS) : qle (if ¬ ((a2 >>> (a1 &&& 31)) &&& (1 : Int32)) = (0 : Int32) then L_X12_canBeNext_17 en d a1 a2 (0 : Int32) (0 : Int32) s else L_X12_canBeNext_17 en d a1 a2 (1 : Int32) (0 : Int32) s) (qev en (d + 1) 352 [.ref 151, .int a1, .int a2] s) := by
  refine e_enter ix_X12_canBeNext (Nat.le_of_ble_eq_true rfl) ?_
  show qle _ (qE (qev en d) en (some .boolean) tb_X12_canBeNext (0, [(0, .ref 151), (1, .int a1), (2, .int a2)], []) s)
  refine e_L 5 (f' := (5, [(0, .ref 151), (1, .int a1), (2, .int a2)], [.int ((a2 >>> (a1 &&& 31)) &&& (1 : Int32))])) rfl ?_
  refine e_ifz 12 rfl rfl rfl (fun c1 => ?_) (fun c1 => ?_)
  · refine e_L 4 (f' := (17, [(4, .int (0 : Int32)), (3, .int (0 : Int32)), (0, .ref 151), (1, .int a1), (2, .int a2)], [])) rfl ?_
    exact qE_sub (qsubL [2, 3, 4, 1, 0] rfl (ks := [4, 3, 0, 1, 2]) rfl (by decide))
  · refine e_L 5 (f' := (17, [(4, .int (0 : Int32)), (3, .int (1 : Int32)), (0, .ref 151), (1, .int a1), (2, .int a2)], [])) rfl ?_
    exact qE_sub (qsubL [2, 3, 4, 1, 0] rfl (ks := [4, 3, 0, 1, 2]) rfl (by decide))
noncomputable def L_X12_linear_45 (en : pN) (d : Nat) (v1 : Int32) (v2 : Int32) (v3 : Int32) (s : qS) : Option qR := qE (qev en d) en (some .int) tb_X12_linear (45, [(0, .ref 151), (1, .int v1), (2, .int v2), (3, .int v3)], []) s
noncomputable def L_X12_linear_89 (en : pN) (d : Nat) (v1 : Int32) (v2 : Int32) (v3 : Int32) (v4 : Int32) (v5 : Int32) (s : qS) : Option qR := qE (qev en d) en (some .int) tb_X12_linear (89, [(0, .ref 151), (1, .int v1), (2, .int v2), (3, .int v3), (4, .int v4), (5, .int v5)], []) s
noncomputable def L_X12_linear_108 (en : pN) (d : Nat) (v1 : Int32) (v2 : Int32) (v3 : Int32) (v4 : Int32) (v5 : Int32) (v6 : Int32) (v7 : Int32) (s : qS) : Option qR := qE (qev en d) en (some .int) tb_X12_linear (108, [(0, .ref 151), (1, .int v1), (2, .int v2), (3, .int v3), (4, .int v4), (5, .int v5), (6, .int v6), (7, .int v7)], []) s
noncomputable def L_X12_linear_179 (en : pN) (d : Nat) (v1 : Int32) (v2 : Int32) (v3 : Int32) (v4 : Int32) (v5 : Int32) (v6 : Int32) (v7 : Int32) (s : qS) : Option qR := qE (qev en d) en (some .int) tb_X12_linear (179, [(0, .ref 151), (1, .int v1), (2, .int v2), (3, .int v3), (4, .int v4), (5, .int v5), (6, .int v6), (7, .int v7)], []) s
noncomputable def L_X12_linear_197 (en : pN) (d : Nat) (v1 : Int32) (v2 : Int32) (v3 : Int32) (v4 : Int32) (v5 : Int32) (v6 : Int32) (v7 : Int32) (s : qS) : Option qR := qE (qev en d) en (some .int) tb_X12_linear (197, [(0, .ref 151), (1, .int v1), (2, .int v2), (3, .int v3), (4, .int v4), (5, .int v5), (6, .int v6), (7, .int v7)], []) s
noncomputable def L_X12_linear_255 (en : pN) (d : Nat) (v3 : Int32) (s : qS) : Option qR := qE (qev en d) en (some .int) tb_X12_linear (255, [(0, .ref 151), (3, .int v3)], []) s
noncomputable def L_X12_linear_269 (en : pN) (d : Nat) (v3 : Int32) (v6 : Int32) (s : qS) : Option qR := qE (qev en d) en (some .int) tb_X12_linear (269, [(0, .ref 151), (3, .int v3), (6, .int v6)], []) s
set_option maxRecDepth 100000 in
set_option maxHeartbeats 4000000 in
theorem le_X12_linear_45 (en : pN) (d : Nat) (v1 : Int32) (v2 : Int32) (v3 : Int32) (s : qS) : qle (if (s.1 151 87) ≤ v3 then L_X12_linear_89 en d v1 v2 (0 : Int32) (0 : Int32) (0 : Int32) s else gd (p_inB v3 200 = true) (if (1000 : Int32) ≤ (s.1 202 v3.toNatClampNeg) then L_X12_linear_45 en d v1 (v2 ||| (0 : Int32)) (v3 + (1 : Int32)) s else nm (v2 ||| ((1 : Int32) <<< (v3 &&& 31))) (fun z4 => L_X12_linear_45 en d v1 z4 (v3 + (1 : Int32)) s))) (L_X12_linear_45 en d v1 v2 v3 s) := by
  show qle _ (qE (qev en d) en (some .int) tb_X12_linear (45, [(0, .ref 151), (1, .int v1), (2, .int v2), (3, .int v3)], []) s)
  refine e_L 2 (f' := (47, [(0, .ref 151), (1, .int v1), (2, .int v2), (3, .int v3)], [.ref 151, .int v3])) rfl ?_
  refine e_gI 12 87 rfl rfl lc_151 ?_
  refine e_icmp 81 rfl rfl rfl (fun c1 => ?_) (fun c1 => ?_)
  · refine e_L 6 (f' := (89, [(5, .int (0 : Int32)), (4, .int (0 : Int32)), (3, .int (0 : Int32)), (0, .ref 151), (1, .int v1), (2, .int v2)], [])) rfl ?_
    exact qE_sub (qsubL [3, 4, 5, 2, 1, 0] rfl (ks := [5, 4, 3, 0, 1, 2]) rfl (by decide))
  · refine e_L 2 (f' := (55, [(0, .ref 151), (1, .int v1), (2, .int v2), (3, .int v3)], [.ref 151, .int v2])) rfl ?_
    refine e_gR (q := 202) 12 89 rfl rfl lc_151 lr_151_89 ?_
    refine e_L 1 (f' := (59, [(0, .ref 151), (1, .int v1), (2, .int v2), (3, .int v3)], [.int v3, .ref 202, .int v2])) rfl ?_
    refine qle_gd fun h2 => ?_
    refine e_ial (n := 200) (k := v3.toNatClampNeg) rfl lc_202 ln_202 h2 rfl ?_
    refine e_L 1 (f' := (63, [(0, .ref 151), (1, .int v1), (2, .int v2), (3, .int v3)], [.int (1000 : Int32), .int (s.1 202 v3.toNatClampNeg), .int v2])) rfl ?_
    refine e_icmp 72 rfl rfl rfl (fun c3 => ?_) (fun c3 => ?_)
    · refine e_L 5 (f' := (45, [(3, .int (v3 + (1 : Int32))), (2, .int (v2 ||| (0 : Int32))), (0, .ref 151), (1, .int v1)], [])) rfl ?_
      exact qE_sub (qsubL [2, 3, 1, 0] rfl (ks := [3, 2, 0, 1]) rfl (by decide))
    · refine e_L 5 (f' := (74, [(0, .ref 151), (1, .int v1), (2, .int v2), (3, .int v3)], [.int (v2 ||| ((1 : Int32) <<< (v3 &&& 31)))])) rfl ?_
      refine e_nI fun z4 => ?_
      refine e_L 3 (f' := (45, [(3, .int (v3 + (1 : Int32))), (2, .int z4), (0, .ref 151), (1, .int v1)], [])) rfl ?_
      exact qE_sub (qsubL [2, 3, 1, 0] rfl (ks := [3, 2, 0, 1]) rfl (by decide))
set_option maxRecDepth 100000 in
set_option maxHeartbeats 4000000 in
theorem le_X12_linear_89 (en : pN) (d : Nat) (v1 : Int32) (v2 : Int32) (v3 : Int32) (v4 : Int32) (v5 : Int32) (s : qS) : qle (if v3 < (0 : Int32) then L_X12_linear_255 en d v3 s else if (v4 &&& v2) = v2 then L_X12_linear_255 en d v3 s else L_X12_linear_108 en d v1 v2 v3 v4 v5 v5 (0 : Int32) s) (L_X12_linear_89 en d v1 v2 v3 v4 v5 s) := by
  show qle _ (qE (qev en d) en (some .int) tb_X12_linear (89, [(0, .ref 151), (1, .int v1), (2, .int v2), (3, .int v3), (4, .int v4), (5, .int v5)], []) s)
  refine e_L 1 (f' := (90, [(0, .ref 151), (1, .int v1), (2, .int v2), (3, .int v3), (4, .int v4), (5, .int v5)], [.int v3])) rfl ?_
  refine e_ifz 255 rfl rfl rfl (fun c1 => ?_) (fun c1 => ?_)
  · exact qE_sub (qsubL [0, 3] rfl (ks := [0, 1, 2, 3, 4, 5]) rfl (by decide))
  · refine e_L 4 (f' := (98, [(0, .ref 151), (1, .int v1), (2, .int v2), (3, .int v3), (4, .int v4), (5, .int v5)], [.int v2, .int (v4 &&& v2)])) rfl ?_
    refine e_icmp 255 rfl rfl rfl (fun c2 => ?_) (fun c2 => ?_)
    · exact qE_sub (qsubL [0, 3] rfl (ks := [0, 1, 2, 3, 4, 5]) rfl (by decide))
    · refine e_L 4 (f' := (108, [(7, .int (0 : Int32)), (6, .int v5), (0, .ref 151), (1, .int v1), (2, .int v2), (3, .int v3), (4, .int v4), (5, .int v5)], [])) rfl ?_
      exact qE_sub (qsubL [2, 3, 4, 5, 6, 7, 1, 0] rfl (ks := [7, 6, 0, 1, 2, 3, 4, 5]) rfl (by decide))
set_option maxRecDepth 100000 in
set_option maxHeartbeats 4000000 in
theorem le_X12_linear_108 (en : pN) (d : Nat) (v1 : Int32) (v2 : Int32) (v3 : Int32) (v4 : Int32) (v5 : Int32) (v6 : Int32) (v7 : Int32) (s : qS) : qle (if (s.1 151 87) ≤ v6 then L_X12_linear_197 en d v1 v2 v3 v4 v5 v6 v7 s else if ¬ v7 = (0 : Int32) then L_X12_linear_197 en d v1 v2 v3 v4 v5 v6 v7 s else bI (qev en d 352 [.ref 151, .int v6, .int v4] s) (fun w3 s4 => if w3 = (0 : Int32) then L_X12_linear_179 en d v1 v2 v3 v4 v5 v6 v7 s4 else gd (p_inB v3 13 = true) (nm (uI s4 207 (v3.toNatClampNeg) v6) (fun s8 => gd (p_inB v6 200 = true) (if (s8.1 202 v6.toNatClampNeg) = (1000 : Int32) then L_X12_linear_179 en d v1 v2 v3 v4 v5 v6 (1 : Int32) s8 else bI (qev en d 351 [.ref 151, .int v1, .int (v3 + (1 : Int32))] s8) (fun w11 s12 => if ¬ w11 = (s12.1 204 v6.toNatClampNeg) then L_X12_linear_179 en d v1 v2 v3 v4 v5 v6 (0 : Int32) s12 else L_X12_linear_179 en d v1 v2 v3 v4 v5 v6 (1 : Int32) s12)))))) (L_X12_linear_108 en d v1 v2 v3 v4 v5 v6 v7 s) := by
  show qle _ (qE (qev en d) en (some .int) tb_X12_linear (108, [(0, .ref 151), (1, .int v1), (2, .int v2), (3, .int v3), (4, .int v4), (5, .int v5), (6, .int v6), (7, .int v7)], []) s)
  refine e_L 2 (f' := (111, [(0, .ref 151), (1, .int v1), (2, .int v2), (3, .int v3), (4, .int v4), (5, .int v5), (6, .int v6), (7, .int v7)], [.ref 151, .int v6])) rfl ?_
  refine e_gI 12 87 rfl rfl lc_151 ?_
  refine e_icmp 197 rfl rfl rfl (fun c1 => ?_) (fun c1 => ?_)
  · exact qE_sub (qsubL [0, 1, 2, 3, 4, 5, 6, 7] rfl (ks := [0, 1, 2, 3, 4, 5, 6, 7]) rfl (by decide))
  · refine e_L 1 (f' := (119, [(0, .ref 151), (1, .int v1), (2, .int v2), (3, .int v3), (4, .int v4), (5, .int v5), (6, .int v6), (7, .int v7)], [.int v7])) rfl ?_
    refine e_ifz 197 rfl rfl rfl (fun c2 => ?_) (fun c2 => ?_)
    · exact qE_sub (qsubL [0, 1, 2, 3, 4, 5, 6, 7] rfl (ks := [0, 1, 2, 3, 4, 5, 6, 7]) rfl (by decide))
    · refine e_L 3 (f' := (127, [(0, .ref 151), (1, .int v1), (2, .int v2), (3, .int v3), (4, .int v4), (5, .int v5), (6, .int v6), (7, .int v7)], [.int v4, .int v6, .ref 151])) rfl ?_
      refine e_vI 352 rfl rfl ix_X12_canBeNext rfl (q_recvOf lc_151 rfl) (Nat.le_of_ble_eq_true rfl) (fun w3 s4 e5 => ?_)
      refine e_ifz 179 rfl rfl rfl (fun c6 => ?_) (fun c6 => ?_)
      · exact qE_sub (qsubL [0, 1, 2, 3, 4, 5, 6, 7] rfl (ks := [0, 1, 2, 3, 4, 5, 6, 7]) rfl (by decide))
      · refine e_L 1 (f' := (134, [(0, .ref 151), (1, .int v1), (2, .int v2), (3, .int v3), (4, .int v4), (5, .int v5), (6, .int v6), (7, .int v7)], [.ref 151])) rfl ?_
        refine e_gR (q := 207) 12 94 rfl rfl lc_151 lr_151_94 ?_
        refine e_L 2 (f' := (140, [(0, .ref 151), (1, .int v1), (2, .int v2), (3, .int v3), (4, .int v4), (5, .int v5), (6, .int v6), (7, .int v7)], [.int v6, .int v3, .ref 207])) rfl ?_
        refine qle_gd fun h7 => ?_
        refine e_ias (n := 13) (k := v3.toNatClampNeg) rfl lc_207 ln_207 h7 rfl ?_
        refine e_nS fun s8 => ?_
        refine e_L 1 (f' := (142, [(0, .ref 151), (1, .int v1), (2, .int v2), (3, .int v3), (4, .int v4), (5, .int v5), (6, .int v6), (7, .int v7)], [.ref 151])) rfl ?_
        refine e_gR (q := 202) 12 89 rfl rfl lc_151 lr_151_89 ?_
        refine e_L 1 (f' := (147, [(0, .ref 151), (1, .int v1), (2, .int v2), (3, .int v3), (4, .int v4), (5, .int v5), (6, .int v6), (7, .int v7)], [.int v6, .ref 202])) rfl ?_
        refine qle_gd fun h9 => ?_
        refine e_ial (n := 200) (k := v6.toNatClampNeg) rfl lc_202 ln_202 h9 rfl ?_
        refine e_L 1 (f' := (151, [(0, .ref 151), (1, .int v1), (2, .int v2), (3, .int v3), (4, .int v4), (5, .int v5), (6, .int v6), (7, .int v7)], [.int (1000 : Int32), .int (s8.1 202 v6.toNatClampNeg)])) rfl ?_
        refine e_icmp 172 rfl rfl rfl (fun c10 => ?_) (fun c10 => ?_)
        · refine e_L 3 (f' := (179, [(7, .int (1 : Int32)), (0, .ref 151), (1, .int v1), (2, .int v2), (3, .int v3), (4, .int v4), (5, .int v5), (6, .int v6)], [])) rfl ?_
          exact qE_sub (qsubL [1, 2, 3, 4, 5, 6, 7, 0] rfl (ks := [7, 0, 1, 2, 3, 4, 5, 6]) rfl (by decide))
        · refine e_L 5 (f' := (159, [(0, .ref 151), (1, .int v1), (2, .int v2), (3, .int v3), (4, .int v4), (5, .int v5), (6, .int v6), (7, .int v7)], [.int (v3 + (1 : Int32)), .int v1, .ref 151])) rfl ?_
          refine e_vI 351 rfl rfl ix_X12_given rfl (q_recvOf lc_151 rfl) (Nat.le_of_ble_eq_true rfl) (fun w11 s12 e13 => ?_)
          refine e_L 1 (f' := (163, [(0, .ref 151), (1, .int v1), (2, .int v2), (3, .int v3), (4, .int v4), (5, .int v5), (6, .int v6), (7, .int v7)], [.ref 151, .int w11])) rfl ?_
          refine e_gR (q := 204) 12 91 rfl rfl lc_151 lr_151_91 ?_
          refine e_L 1 (f' := (168, [(0, .ref 151), (1, .int v1), (2, .int v2), (3, .int v3), (4, .int v4), (5, .int v5), (6, .int v6), (7, .int v7)], [.int v6, .ref 204, .int w11])) rfl ?_
          refine e_ial (n := 200) (k := v6.toNatClampNeg) rfl lc_204 ln_204 h9 rfl ?_
          refine e_icmp 176 rfl rfl rfl (fun c14 => ?_) (fun c14 => ?_)
          · refine e_L 2 (f' := (179, [(7, .int (0 : Int32)), (0, .ref 151), (1, .int v1), (2, .int v2), (3, .int v3), (4, .int v4), (5, .int v5), (6, .int v6)], [])) rfl ?_
            exact qE_sub (qsubL [1, 2, 3, 4, 5, 6, 7, 0] rfl (ks := [7, 0, 1, 2, 3, 4, 5, 6]) rfl (by decide))
          · refine e_L 3 (f' := (179, [(7, .int (1 : Int32)), (0, .ref 151), (1, .int v1), (2, .int v2), (3, .int v3), (4, .int v4), (5, .int v5), (6, .int v6)], [])) rfl ?_
            exact qE_sub (qsubL [1, 2, 3, 4, 5, 6, 7, 0] rfl (ks := [7, 0, 1, 2, 3, 4, 5, 6]) rfl (by decide))
set_option maxRecDepth 100000 in
set_option maxHeartbeats 4000000 in
theorem le_X12_linear_179 (en : pN) (d : Nat) (v1 : Int32) (v2 : Int32) (v3 : Int32) (v4 : Int32) (v5 : Int32) (v6 : Int32) (v7 : Int32) (s : qS) : qle (if v7 = (0 : Int32) then L_X12_linear_108 en d v1 v2 v3 v4 v5 (v6 + (1 : Int32)) v7 s else L_X12_linear_108 en d v1 v2 v3 v4 v5 (v6 + (0 : Int32)) v7 s) (L_X12_linear_179 en d v1 v2 v3 v4 v5 v6 v7 s) := by
  show qle _ (qE (qev en d) en (some .int) tb_X12_linear (179, [(0, .ref 151), (1, .int v1), (2, .int v2), (3, .int v3), (4, .int v4), (5, .int v5), (6, .int v6), (7, .int v7)], []) s)
  refine e_L 2 (f' := (183, [(0, .ref 151), (1, .int v1), (2, .int v2), (3, .int v3), (4, .int v4), (5, .int v5), (6, .int v6), (7, .int v7)], [.int v7, .int v6])) rfl ?_
  refine e_ifz 190 rfl rfl rfl (fun c1 => ?_) (fun c1 => ?_)
  · refine e_L 4 (f' := (108, [(6, .int (v6 + (1 : Int32))), (0, .ref 151), (1, .int v1), (2, .int v2), (3, .int v3), (4, .int v4), (5, .int v5), (7, .int v7)], [])) rfl ?_
    exact qE_sub (qsubL [1, 2, 3, 4, 5, 6, 0, 7] rfl (ks := [6, 0, 1, 2, 3, 4, 5, 7]) rfl (by decide))
  · refine e_L 5 (f' := (108, [(6, .int (v6 + (0 : Int32))), (0, .ref 151), (1, .int v1), (2, .int v2), (3, .int v3), (4, .int v4), (5, .int v5), (7, .int v7)], [])) rfl ?_
    exact qE_sub (qsubL [1, 2, 3, 4, 5, 6, 0, 7] rfl (ks := [6, 0, 1, 2, 3, 4, 5, 7]) rfl (by decide))
set_option maxRecDepth 100000 in
set_option maxHeartbeats 4000000 in
theorem le_X12_linear_197 (en : pN) (d : Nat) (v1 : Int32) (v2 : Int32) (v3 : Int32) (v4 : Int32) (v5 : Int32) (v6 : Int32) (v7 : Int32) (s : qS) : qle (if v7 = (0 : Int32) then if (v3 + (-1 : Int32)) < (0 : Int32) then L_X12_linear_89 en d v1 v2 (v3 + (-1 : Int32)) v4 v5 s else gd (p_inB (v3 + (-1 : Int32)) 13 = true) (nm (v4 &&& (((1 : Int32) <<< ((s.1 207 (v3 + (-1 : Int32)).toNatClampNeg) &&& 31)) ^^^ (-1 : Int32))) (fun z4 => nm ((s.1 207 (v3 + (-1 : Int32)).toNatClampNeg) + (1 : Int32)) (fun z5 => L_X12_linear_89 en d v1 v2 (v3 + (-1 : Int32)) z4 z5 s))) else nm (v4 ||| ((1 : Int32) <<< (v6 &&& 31))) (fun z6 => L_X12_linear_89 en d v1 v2 (v3 + (1 : Int32)) z6 (0 : Int32) s)) (L_X12_linear_197 en d v1 v2 v3 v4 v5 v6 v7 s) := by
  show qle _ (qE (qev en d) en (some .int) tb_X12_linear (197, [(0, .ref 151), (1, .int v1), (2, .int v2), (3, .int v3), (4, .int v4), (5, .int v5), (6, .int v6), (7, .int v7)], []) s)
  refine e_L 1 (f' := (199, [(0, .ref 151), (1, .int v1), (2, .int v2), (3, .int v3), (4, .int v4), (5, .int v5), (6, .int v6), (7, .int v7)], [.int v7])) rfl ?_
  refine e_ifz 220 rfl rfl rfl (fun c1 => ?_) (fun c1 => ?_)
  · refine e_L 2 (f' := (224, [(3, .int (v3 + (-1 : Int32))), (0, .ref 151), (1, .int v1), (2, .int v2), (4, .int v4), (5, .int v5), (6, .int v6), (7, .int v7)], [.int (v3 + (-1 : Int32))])) rfl ?_
    refine e_ifz 252 rfl rfl rfl (fun c2 => ?_) (fun c2 => ?_)
    · refine e_L 1 (f' := (89, [(3, .int (v3 + (-1 : Int32))), (0, .ref 151), (1, .int v1), (2, .int v2), (4, .int v4), (5, .int v5), (6, .int v6), (7, .int v7)], [])) rfl ?_
      exact qE_sub (qsubL [1, 2, 3, 0, 4, 5] rfl (ks := [3, 0, 1, 2, 4, 5, 6, 7]) rfl (by decide))
    · refine e_L 3 (f' := (231, [(3, .int (v3 + (-1 : Int32))), (0, .ref 151), (1, .int v1), (2, .int v2), (4, .int v4), (5, .int v5), (6, .int v6), (7, .int v7)], [.ref 151, .int (1 : Int32), .int v4])) rfl ?_
      refine e_gR (q := 207) 12 94 rfl rfl lc_151 lr_151_94 ?_
      refine e_L 1 (f' := (235, [(3, .int (v3 + (-1 : Int32))), (0, .ref 151), (1, .int v1), (2, .int v2), (4, .int v4), (5, .int v5), (6, .int v6), (7, .int v7)], [.int (v3 + (-1 : Int32)), .ref 207, .int (1 : Int32), .int v4])) rfl ?_
      refine qle_gd fun h3 => ?_
      refine e_ial (n := 13) (k := (v3 + (-1 : Int32)).toNatClampNeg) rfl lc_207 ln_207 h3 rfl ?_
      refine e_L 4 (f' := (240, [(3, .int (v3 + (-1 : Int32))), (0, .ref 151), (1, .int v1), (2, .int v2), (4, .int v4), (5, .int v5), (6, .int v6), (7, .int v7)], [.int (v4 &&& (((1 : Int32) <<< ((s.1 207 (v3 + (-1 : Int32)).toNatClampNeg) &&& 31)) ^^^ (-1 : Int32)))])) rfl ?_
      refine e_nI fun z4 => ?_
      refine e_L 2 (f' := (243, [(4, .int z4), (3, .int (v3 + (-1 : Int32))), (0, .ref 151), (1, .int v1), (2, .int v2), (5, .int v5), (6, .int v6), (7, .int v7)], [.ref 151])) rfl ?_
      refine e_gR (q := 207) 12 94 rfl rfl lc_151 lr_151_94 ?_
      refine e_L 1 (f' := (247, [(4, .int z4), (3, .int (v3 + (-1 : Int32))), (0, .ref 151), (1, .int v1), (2, .int v2), (5, .int v5), (6, .int v6), (7, .int v7)], [.int (v3 + (-1 : Int32)), .ref 207])) rfl ?_
      refine e_ial (n := 13) (k := (v3 + (-1 : Int32)).toNatClampNeg) rfl lc_207 ln_207 h3 rfl ?_
      refine e_L 2 (f' := (250, [(4, .int z4), (3, .int (v3 + (-1 : Int32))), (0, .ref 151), (1, .int v1), (2, .int v2), (5, .int v5), (6, .int v6), (7, .int v7)], [.int ((s.1 207 (v3 + (-1 : Int32)).toNatClampNeg) + (1 : Int32))])) rfl ?_
      refine e_nI fun z5 => ?_
      refine e_L 2 (f' := (89, [(5, .int z5), (4, .int z4), (3, .int (v3 + (-1 : Int32))), (0, .ref 151), (1, .int v1), (2, .int v2), (6, .int v6), (7, .int v7)], [])) rfl ?_
      exact qE_sub (qsubL [3, 4, 5, 2, 1, 0] rfl (ks := [5, 4, 3, 0, 1, 2, 6, 7]) rfl (by decide))
  · refine e_L 5 (f' := (209, [(0, .ref 151), (1, .int v1), (2, .int v2), (3, .int v3), (4, .int v4), (5, .int v5), (6, .int v6), (7, .int v7)], [.int (v4 ||| ((1 : Int32) <<< (v6 &&& 31)))])) rfl ?_
    refine e_nI fun z6 => ?_
    refine e_L 6 (f' := (89, [(5, .int (0 : Int32)), (3, .int (v3 + (1 : Int32))), (4, .int z6), (0, .ref 151), (1, .int v1), (2, .int v2), (6, .int v6), (7, .int v7)], [])) rfl ?_
    exact qE_sub (qsubL [3, 4, 5, 1, 2, 0] rfl (ks := [5, 3, 4, 0, 1, 2, 6, 7]) rfl (by decide))
set_option maxRecDepth 100000 in
set_option maxHeartbeats 4000000 in
theorem le_X12_linear_255 (en : pN) (d : Nat) (v3 : Int32) (s : qS) : qle (if (0 : Int32) ≤ v3 then nm (uI s 151 96 v3) (fun s2 => L_X12_linear_269 en d v3 (0 : Int32) s2) else some (some (.int (0 : Int32)), s)) (L_X12_linear_255 en d v3 s) := by
  show qle _ (qE (qev en d) en (some .int) tb_X12_linear (255, [(0, .ref 151), (3, .int v3)], []) s)
  refine e_L 1 (f' := (256, [(0, .ref 151), (3, .int v3)], [.int v3])) rfl ?_
  refine e_ifz 261 rfl rfl rfl (fun c1 => ?_) (fun c1 => ?_)
  · refine e_L 2 (f' := (263, [(0, .ref 151), (3, .int v3)], [.int v3, .ref 151])) rfl ?_
    refine e_pI 12 96 rfl rfl lc_151 rfl ?_
    refine e_nS fun s2 => ?_
    refine e_L 2 (f' := (269, [(6, .int (0 : Int32)), (0, .ref 151), (3, .int v3)], [])) rfl ?_
    exact qE_sub (qsubL [1, 2, 0] rfl (ks := [6, 0, 3]) rfl (by decide))
  · refine e_L 1 (f' := (260, [(0, .ref 151), (3, .int v3)], [.int (0 : Int32)])) rfl ?_
    exact e_rI rfl rfl
set_option maxRecDepth 100000 in
set_option maxHeartbeats 4000000 in
theorem le_X12_linear_269 (en : pN) (d : Nat) (v3 : Int32) (v6 : Int32) (s : qS) : qle (if v3 ≤ v6 then some (some (.int (1 : Int32)), s) else gd (p_inB v6 13 = true) (gd (p_inB v6 12 = true) (nm (uI s 208 (v6.toNatClampNeg) (s.1 207 v6.toNatClampNeg)) (fun s4 => L_X12_linear_269 en d v3 (v6 + (1 : Int32)) s4)))) (L_X12_linear_269 en d v3 v6 s) := by
  show qle _ (qE (qev en d) en (some .int) tb_X12_linear (269, [(0, .ref 151), (3, .int v3), (6, .int v6)], []) s)
  refine e_L 2 (f' := (272, [(0, .ref 151), (3, .int v3), (6, .int v6)], [.int v3, .int v6])) rfl ?_
  refine e_icmp 295 rfl rfl rfl (fun c1 => ?_) (fun c1 => ?_)
  · refine e_L 1 (f' := (296, [(0, .ref 151), (3, .int v3), (6, .int v6)], [.int (1 : Int32)])) rfl ?_
    exact e_rI rfl rfl
  · refine e_L 1 (f' := (276, [(0, .ref 151), (3, .int v3), (6, .int v6)], [.ref 151])) rfl ?_
    refine e_gR (q := 208) 12 95 rfl rfl lc_151 lr_151_95 ?_
    refine e_L 2 (f' := (282, [(0, .ref 151), (3, .int v3), (6, .int v6)], [.ref 151, .int v6, .ref 208])) rfl ?_
    refine e_gR (q := 207) 12 94 rfl rfl lc_151 lr_151_94 ?_
    refine e_L 1 (f' := (287, [(0, .ref 151), (3, .int v3), (6, .int v6)], [.int v6, .ref 207, .int v6, .ref 208])) rfl ?_
    refine qle_gd fun h2 => ?_
    refine e_ial (n := 13) (k := v6.toNatClampNeg) rfl lc_207 ln_207 h2 rfl ?_
    refine qle_gd fun h3 => ?_
    refine e_ias (n := 12) (k := v6.toNatClampNeg) rfl lc_208 ln_208 h3 rfl ?_
    refine e_nS fun s4 => ?_
    refine e_L 2 (f' := (269, [(6, .int (v6 + (1 : Int32))), (0, .ref 151), (3, .int v3)], [])) rfl ?_
    exact qE_sub (qsubL [1, 2, 0] rfl (ks := [6, 0, 3]) rfl (by decide))
set_option maxRecDepth 100000 in
set_option maxHeartbeats 4000000 in
theorem le_X12_linear (en : pN) (d : Nat) (a1 : Int32) (s : qS) : qle (if (s.1 151 74) = (0 : Int32) then some (some (.int (-1 : Int32)), s) else if a1 < (0 : Int32) then some (some (.int (-1 : Int32)), s) else if a1 ≤ (3 : Int32) then bI (qev en d 350 [.ref 151, .int a1] s) (fun w4 s5 => if ¬ w4 = (0 : Int32) then if (s5.1 151 87) ≤ (12 : Int32) then L_X12_linear_45 en d a1 (0 : Int32) (0 : Int32) s5 else some (some (.int (-3 : Int32)), s5) else some (some (.int (-2 : Int32)), s5)) else some (some (.int (-1 : Int32)), s)) (qev en (d + 1) 353 [.ref 151, .int a1] s) := by
  refine e_enter ix_X12_linear (Nat.le_of_ble_eq_true rfl) ?_
  show qle _ (qE (qev en d) en (some .int) tb_X12_linear (0, [(0, .ref 151), (1, .int a1)], []) s)
  refine e_L 1 (f' := (1, [(0, .ref 151), (1, .int a1)], [.ref 151])) rfl ?_
  refine e_gI 12 74 rfl rfl lc_151 ?_
  refine e_ifz 16 rfl rfl rfl (fun c1 => ?_) (fun c1 => ?_)
  · refine e_L 1 (f' := (17, [(0, .ref 151), (1, .int a1)], [.int (-1 : Int32)])) rfl ?_
    exact e_rI rfl rfl
  · refine e_L 1 (f' := (8, [(0, .ref 151), (1, .int a1)], [.int a1])) rfl ?_
    refine e_ifz 16 rfl rfl rfl (fun c2 => ?_) (fun c2 => ?_)
    · refine e_L 1 (f' := (17, [(0, .ref 151), (1, .int a1)], [.int (-1 : Int32)])) rfl ?_
      exact e_rI rfl rfl
    · refine e_L 2 (f' := (13, [(0, .ref 151), (1, .int a1)], [.int (3 : Int32), .int a1])) rfl ?_
      refine e_icmp 18 rfl rfl rfl (fun c3 => ?_) (fun c3 => ?_)
      · refine e_L 2 (f' := (20, [(0, .ref 151), (1, .int a1)], [.int a1, .ref 151])) rfl ?_
        refine e_vI 350 rfl rfl ix_X12_layCalls rfl (q_recvOf lc_151 rfl) (Nat.le_of_ble_eq_true rfl) (fun w4 s5 e6 => ?_)
        refine e_ifz 29 rfl rfl rfl (fun c7 => ?_) (fun c7 => ?_)
        · refine e_L 1 (f' := (30, [(0, .ref 151), (1, .int a1)], [.ref 151])) rfl ?_
          refine e_gI 12 87 rfl rfl lc_151 ?_
          refine e_L 1 (f' := (35, [(0, .ref 151), (1, .int a1)], [.int (12 : Int32), .int (s5.1 151 87)])) rfl ?_
          refine e_icmp 41 rfl rfl rfl (fun c8 => ?_) (fun c8 => ?_)
          · refine e_L 4 (f' := (45, [(3, .int (0 : Int32)), (2, .int (0 : Int32)), (0, .ref 151), (1, .int a1)], [])) rfl ?_
            exact qE_sub (qsubL [2, 3, 1, 0] rfl (ks := [3, 2, 0, 1]) rfl (by decide))
          · refine e_L 1 (f' := (40, [(0, .ref 151), (1, .int a1)], [.int (-3 : Int32)])) rfl ?_
            exact e_rI rfl rfl
        · refine e_L 1 (f' := (28, [(0, .ref 151), (1, .int a1)], [.int (-2 : Int32)])) rfl ?_
          exact e_rI rfl rfl
      · refine e_L 1 (f' := (17, [(0, .ref 151), (1, .int a1)], [.int (-1 : Int32)])) rfl ?_
        exact e_rI rfl rfl
