/-! what methods do, printed by program out of their tables: L_cell .. -/
set_option maxRecDepth 100000 in
set_option maxHeartbeats 4000000 in
theorem le_L_cell (en : pN) (d : Nat) (a2 : Int32) (s : qS) : qle (if (Int32.ofNat en.1) ≤ a2 then some (some (.int (((173 : Int32) * a2) + (37 : Int32))), s) else gd (p_inB a2 en.1 = true) (some (some (.int (en.2 a2.toNatClampNeg)), s))) (qev en (d + 1) 438 [.retAddr 0, .int a2] s) := by
  refine e_enter ix_L_cell (Nat.le_of_ble_eq_true rfl) ?_
  show qle _ (qE (qev en d) en (some .int) tb_L_cell (0, [(0, .retAddr 0), (1, .int a2)], []) s)
  refine e_L 2 (f' := (2, [(0, .retAddr 0), (1, .int a2)], [.retAddr 0, .int a2])) rfl ?_
  refine e_olen (v := (Int32.ofNat en.1)) rfl rfl rfl ?_
  refine e_icmp 12 rfl rfl rfl (fun c1 => ?_) (fun c1 => ?_)
  · refine e_L 5 (f' := (20, [(0, .retAddr 0), (1, .int a2)], [.int (((173 : Int32) * a2) + (37 : Int32))])) rfl ?_
    exact e_rI rfl rfl
  · refine e_L 2 (f' := (8, [(0, .retAddr 0), (1, .int a2)], [.int a2, .retAddr 0])) rfl ?_
    refine qle_gd fun h2 => ?_
    refine e_oal (n := en.1) (f := en.2) rfl rfl h2 ?_
    refine e_L 1 (f' := (20, [(0, .retAddr 0), (1, .int a2)], [.int (en.2 a2.toNatClampNeg)])) rfl ?_
    exact e_rI rfl rfl
set_option maxRecDepth 100000 in
set_option maxHeartbeats 4000000 in
theorem le_L_say (en : pN) (d : Nat) (a2 : Int64) (a3 : Int64) (a4 : Int32) (s : qS) : qle (bI (qev en d 202 [.ref 0, .int (a2 >>> ((32 : Int32).toInt64 &&& 63)).toInt32, .int a2.toInt32, .int (a3 >>> ((32 : Int32).toInt64 &&& 63)).toInt32, .int a3.toInt32, .int (0 : Int32)] s) (fun w1 s2 => bI (qev en d 203 [.ref 0, .int a4] s2) (fun w4 s5 => some (some (.int w4), s5)))) (qev en (d + 1) 439 [.ref 0, .long a2, .long a3, .int a4] s) := by
  refine e_enter ix_L_say (Nat.le_of_ble_eq_true rfl) ?_
  show qle _ (qE (qev en d) en (some .int) tb_L_say (0, [(0, .ref 0), (1, .long a2), (3, .long a3), (5, .int a4)], []) s)
  refine e_L 14 (f' := (16, [(0, .ref 0), (1, .long a2), (3, .long a3), (5, .int a4)], [.int (0 : Int32), .int a3.toInt32, .int (a3 >>> ((32 : Int32).toInt64 &&& 63)).toInt32, .int a2.toInt32, .int (a2 >>> ((32 : Int32).toInt64 &&& 63)).toInt32, .ref 0])) rfl ?_
  refine e_vI 202 rfl rfl ix_X11_feed rfl (q_recvOf lc_0 rfl) (Nat.le_of_ble_eq_true rfl) (fun w1 s2 e3 => ?_)
  refine e_L 3 (f' := (24, [(6, .int w1), (0, .ref 0), (1, .long a2), (3, .long a3), (5, .int a4)], [.int a4, .ref 0])) rfl ?_
  refine e_vI 203 rfl rfl ix_X11_end rfl (q_recvOf lc_0 rfl) (Nat.le_of_ble_eq_true rfl) (fun w4 s5 e6 => ?_)
  exact e_rI rfl rfl
set_option maxRecDepth 100000 in
set_option maxHeartbeats 4000000 in
theorem le_L_statement (en : pN) (d : Nat) (a2 : Int32) (s : qS) : qle (swI (a2 &&& (15 : Int32)).toInt 0 [bI (qev en d 439 [.ref 0, .long (8655985692280291328 : Int64), .long (0 : Int64), .int (6 : Int32)] s) (fun w1 s2 => some (some (.int w1), s2)), bI (qev en d 439 [.ref 0, .long (8079524941168050176 : Int64), .long (0 : Int64), .int (6 : Int32)] s) (fun w4 s5 => some (some (.int w4), s5)), bI (qev en d 439 [.ref 0, .long (8728043287375183872 : Int64), .long (0 : Int64), .int (6 : Int32)] s) (fun w7 s8 => some (some (.int w7), s8)), bI (qev en d 439 [.ref 0, .long (8151582535222755328 : Int64), .long (0 : Int64), .int (6 : Int32)] s) (fun w10 s11 => some (some (.int w10), s11)), bI (qev en d 439 [.ref 0, .long (7813573190266993440 : Int64), .long (8655985693337264245 : Int64), .int (16 : Int32)] s) (fun w13 s14 => bI (qev en d 439 [.ref 0, .long (7956857114446553403 : Int64), .long (0 : Int64), .int (8 : Int32)] s14) (fun w16 s17 => some (some (.int w16), s17))), bI (qev en d 439 [.ref 0, .long (7017844209967964209 : Int64), .long (2335519328127971643 : Int64), .int (16 : Int32)] s) (fun w19 s20 => some (some (.int w19), s20)), bI (qev en d 439 [.ref 0, .long (7161131465804881968 : Int64), .long (3179597551224386671 : Int64), .int (16 : Int32)] s) (fun w22 s23 => bI (qev en d 439 [.ref 0, .long (2337433077791326208 : Int64), .long (0 : Int64), .int (3 : Int32)] s23) (fun w25 s26 => some (some (.int w25), s26))), bI (qev en d 439 [.ref 0, .long (7378424937695608832 : Int64), .long (0 : Int64), .int (6 : Int32)] s) (fun w28 s29 => some (some (.int w28), s29)), bI (qev en d 439 [.ref 0, .long (7594793487560286329 : Int64), .long (2323048382905482528 : Int64), .int (16 : Int32)] s) (fun w31 s32 => bI (qev en d 439 [.ref 0, .long (7308343173489303665 : Int64), .long (2323048395790384384 : Int64), .int (15 : Int32)] s32) (fun w34 s35 => some (some (.int w34), s35))), bI (qev en d 439 [.ref 0, .long (8079524941032074016 : Int64), .long (3547429131484397568 : Int64), .int (10 : Int32)] s) (fun w37 s38 => some (some (.int w37), s38)), bI (qev en d 439 [.ref 0, .long (8800100881429889024 : Int64), .long (0 : Int64), .int (6 : Int32)] s) (fun w40 s41 => some (some (.int w40), s41)), bI (qev en d 439 [.ref 0, .long (8151582535239532544 : Int64), .long (0 : Int64), .int (6 : Int32)] s) (fun w43 s44 => some (some (.int w43), s44)), bI (qev en d 439 [.ref 0, .long (7813573190267058976 : Int64), .long (8151582535205986421 : Int64), .int (16 : Int32)] s) (fun w46 s47 => bI (qev en d 439 [.ref 0, .long (7956857114446553659 : Int64), .long (0 : Int64), .int (8 : Int32)] s47) (fun w49 s50 => some (some (.int w49), s50))), bI (qev en d 439 [.ref 0, .long (7022083123549839473 : Int64), .long (2322766937991413760 : Int64), .int (13 : Int32)] s) (fun w52 s53 => some (some (.int w52), s53)), bI (qev en d 439 [.ref 0, .long (8728043286418882560 : Int64), .long (0 : Int64), .int (6 : Int32)] s) (fun w55 s56 => some (some (.int w55), s56))] (bI (qev en d 439 [.ref 0, .long (7813573190266993440 : Int64), .long (7813573190267058976 : Int64), .int (16 : Int32)] s) (fun w58 s59 => bI (qev en d 439 [.ref 0, .long (8461819975540875362 : Int64), .long (4260534364618580843 : Int64), .int (16 : Int32)] s59) (fun w61 s62 => bI (qev en d 439 [.ref 0, .long (2333210953140666368 : Int64), .long (0 : Int64), .int (3 : Int32)] s62) (fun w64 s65 => some (some (.int w64), s65)))))) (qev en (d + 1) 440 [.ref 0, .int a2] s) := by
  refine e_enter ix_L_statement (Nat.le_of_ble_eq_true rfl) ?_
  show qle _ (qE (qev en d) en (some .int) tb_L_statement (0, [(0, .ref 0), (1, .int a2)], []) s)
  refine e_L 5 (f' := (6, [(2, .int (0 : Int32)), (0, .ref 0), (1, .int a2)], [.int (a2 &&& (15 : Int32))])) rfl ?_
  refine e_tsw rfl (by decide) ⟨?_, ?_, ?_, ?_, ?_, ?_, ?_, ?_, ?_, ?_, ?_, ?_, ?_, ?_, ?_, trivial⟩ ?_
  · refine e_L 1 (f' := (81, [(2, .int (0 : Int32)), (0, .ref 0), (1, .int a2)], [.ref 0])) rfl ?_
    refine e_ldc2 (v := (8655985692280291328 : Int64)) rfl (by decide +kernel) ?_
    refine e_L 2 (f' := (87, [(2, .int (0 : Int32)), (0, .ref 0), (1, .int a2)], [.int (6 : Int32), .long (0 : Int64), .long (8655985692280291328 : Int64), .ref 0])) rfl ?_
    refine e_sI 439 rfl rfl rfl ix_L_say rfl (Nat.le_of_ble_eq_true rfl) (fun w1 s2 e3 => ?_)
    refine e_L 3 (f' := (386, [(2, .int w1), (0, .ref 0), (1, .int a2)], [.int w1])) rfl ?_
    exact e_rI rfl rfl
  · refine e_L 1 (f' := (95, [(2, .int (0 : Int32)), (0, .ref 0), (1, .int a2)], [.ref 0])) rfl ?_
    refine e_ldc2 (v := (8079524941168050176 : Int64)) rfl (by decide +kernel) ?_
    refine e_L 2 (f' := (101, [(2, .int (0 : Int32)), (0, .ref 0), (1, .int a2)], [.int (6 : Int32), .long (0 : Int64), .long (8079524941168050176 : Int64), .ref 0])) rfl ?_
    refine e_sI 439 rfl rfl rfl ix_L_say rfl (Nat.le_of_ble_eq_true rfl) (fun w4 s5 e6 => ?_)
    refine e_L 3 (f' := (386, [(2, .int w4), (0, .ref 0), (1, .int a2)], [.int w4])) rfl ?_
    exact e_rI rfl rfl
  · refine e_L 1 (f' := (109, [(2, .int (0 : Int32)), (0, .ref 0), (1, .int a2)], [.ref 0])) rfl ?_
    refine e_ldc2 (v := (8728043287375183872 : Int64)) rfl (by decide +kernel) ?_
    refine e_L 2 (f' := (115, [(2, .int (0 : Int32)), (0, .ref 0), (1, .int a2)], [.int (6 : Int32), .long (0 : Int64), .long (8728043287375183872 : Int64), .ref 0])) rfl ?_
    refine e_sI 439 rfl rfl rfl ix_L_say rfl (Nat.le_of_ble_eq_true rfl) (fun w7 s8 e9 => ?_)
    refine e_L 3 (f' := (386, [(2, .int w7), (0, .ref 0), (1, .int a2)], [.int w7])) rfl ?_
    exact e_rI rfl rfl
  · refine e_L 1 (f' := (123, [(2, .int (0 : Int32)), (0, .ref 0), (1, .int a2)], [.ref 0])) rfl ?_
    refine e_ldc2 (v := (8151582535222755328 : Int64)) rfl (by decide +kernel) ?_
    refine e_L 2 (f' := (129, [(2, .int (0 : Int32)), (0, .ref 0), (1, .int a2)], [.int (6 : Int32), .long (0 : Int64), .long (8151582535222755328 : Int64), .ref 0])) rfl ?_
    refine e_sI 439 rfl rfl rfl ix_L_say rfl (Nat.le_of_ble_eq_true rfl) (fun w10 s11 e12 => ?_)
    refine e_L 3 (f' := (386, [(2, .int w10), (0, .ref 0), (1, .int a2)], [.int w10])) rfl ?_
    exact e_rI rfl rfl
  · refine e_L 1 (f' := (137, [(2, .int (0 : Int32)), (0, .ref 0), (1, .int a2)], [.ref 0])) rfl ?_
    refine e_ldc2 (v := (7813573190266993440 : Int64)) rfl (by decide +kernel) ?_
    refine e_ldc2 (v := (8655985693337264245 : Int64)) rfl (by decide +kernel) ?_
    refine e_L 1 (f' := (145, [(2, .int (0 : Int32)), (0, .ref 0), (1, .int a2)], [.int (16 : Int32), .long (8655985693337264245 : Int64), .long (7813573190266993440 : Int64), .ref 0])) rfl ?_
    refine e_sI 439 rfl rfl rfl ix_L_say rfl (Nat.le_of_ble_eq_true rfl) (fun w13 s14 e15 => ?_)
    refine e_L 2 (f' := (150, [(2, .int w13), (0, .ref 0), (1, .int a2)], [.ref 0])) rfl ?_
    refine e_ldc2 (v := (7956857114446553403 : Int64)) rfl (by decide +kernel) ?_
    refine e_L 2 (f' := (156, [(2, .int w13), (0, .ref 0), (1, .int a2)], [.int (8 : Int32), .long (0 : Int64), .long (7956857114446553403 : Int64), .ref 0])) rfl ?_
    refine e_sI 439 rfl rfl rfl ix_L_say rfl (Nat.le_of_ble_eq_true rfl) (fun w16 s17 e18 => ?_)
    refine e_L 3 (f' := (386, [(2, .int w16), (0, .ref 0), (1, .int a2)], [.int w16])) rfl ?_
    exact e_rI rfl rfl
  · refine e_L 1 (f' := (164, [(2, .int (0 : Int32)), (0, .ref 0), (1, .int a2)], [.ref 0])) rfl ?_
    refine e_ldc2 (v := (7017844209967964209 : Int64)) rfl (by decide +kernel) ?_
    refine e_ldc2 (v := (2335519328127971643 : Int64)) rfl (by decide +kernel) ?_
    refine e_L 1 (f' := (172, [(2, .int (0 : Int32)), (0, .ref 0), (1, .int a2)], [.int (16 : Int32), .long (2335519328127971643 : Int64), .long (7017844209967964209 : Int64), .ref 0])) rfl ?_
    refine e_sI 439 rfl rfl rfl ix_L_say rfl (Nat.le_of_ble_eq_true rfl) (fun w19 s20 e21 => ?_)
    refine e_L 3 (f' := (386, [(2, .int w19), (0, .ref 0), (1, .int a2)], [.int w19])) rfl ?_
    exact e_rI rfl rfl
  · refine e_L 1 (f' := (180, [(2, .int (0 : Int32)), (0, .ref 0), (1, .int a2)], [.ref 0])) rfl ?_
    refine e_ldc2 (v := (7161131465804881968 : Int64)) rfl (by decide +kernel) ?_
    refine e_ldc2 (v := (3179597551224386671 : Int64)) rfl (by decide +kernel) ?_
    refine e_L 1 (f' := (188, [(2, .int (0 : Int32)), (0, .ref 0), (1, .int a2)], [.int (16 : Int32), .long (3179597551224386671 : Int64), .long (7161131465804881968 : Int64), .ref 0])) rfl ?_
    refine e_sI 439 rfl rfl rfl ix_L_say rfl (Nat.le_of_ble_eq_true rfl) (fun w22 s23 e24 => ?_)
    refine e_L 2 (f' := (193, [(2, .int w22), (0, .ref 0), (1, .int a2)], [.ref 0])) rfl ?_
    refine e_ldc2 (v := (2337433077791326208 : Int64)) rfl (by decide +kernel) ?_
    refine e_L 2 (f' := (198, [(2, .int w22), (0, .ref 0), (1, .int a2)], [.int (3 : Int32), .long (0 : Int64), .long (2337433077791326208 : Int64), .ref 0])) rfl ?_
    refine e_sI 439 rfl rfl rfl ix_L_say rfl (Nat.le_of_ble_eq_true rfl) (fun w25 s26 e27 => ?_)
    refine e_L 3 (f' := (386, [(2, .int w25), (0, .ref 0), (1, .int a2)], [.int w25])) rfl ?_
    exact e_rI rfl rfl
  · refine e_L 1 (f' := (206, [(2, .int (0 : Int32)), (0, .ref 0), (1, .int a2)], [.ref 0])) rfl ?_
    refine e_ldc2 (v := (7378424937695608832 : Int64)) rfl (by decide +kernel) ?_
    refine e_L 2 (f' := (212, [(2, .int (0 : Int32)), (0, .ref 0), (1, .int a2)], [.int (6 : Int32), .long (0 : Int64), .long (7378424937695608832 : Int64), .ref 0])) rfl ?_
    refine e_sI 439 rfl rfl rfl ix_L_say rfl (Nat.le_of_ble_eq_true rfl) (fun w28 s29 e30 => ?_)
    refine e_L 3 (f' := (386, [(2, .int w28), (0, .ref 0), (1, .int a2)], [.int w28])) rfl ?_
    exact e_rI rfl rfl
  · refine e_L 1 (f' := (220, [(2, .int (0 : Int32)), (0, .ref 0), (1, .int a2)], [.ref 0])) rfl ?_
    refine e_ldc2 (v := (7594793487560286329 : Int64)) rfl (by decide +kernel) ?_
    refine e_ldc2 (v := (2323048382905482528 : Int64)) rfl (by decide +kernel) ?_
    refine e_L 1 (f' := (228, [(2, .int (0 : Int32)), (0, .ref 0), (1, .int a2)], [.int (16 : Int32), .long (2323048382905482528 : Int64), .long (7594793487560286329 : Int64), .ref 0])) rfl ?_
    refine e_sI 439 rfl rfl rfl ix_L_say rfl (Nat.le_of_ble_eq_true rfl) (fun w31 s32 e33 => ?_)
    refine e_L 2 (f' := (233, [(2, .int w31), (0, .ref 0), (1, .int a2)], [.ref 0])) rfl ?_
    refine e_ldc2 (v := (7308343173489303665 : Int64)) rfl (by decide +kernel) ?_
    refine e_ldc2 (v := (2323048395790384384 : Int64)) rfl (by decide +kernel) ?_
    refine e_L 1 (f' := (241, [(2, .int w31), (0, .ref 0), (1, .int a2)], [.int (15 : Int32), .long (2323048395790384384 : Int64), .long (7308343173489303665 : Int64), .ref 0])) rfl ?_
    refine e_sI 439 rfl rfl rfl ix_L_say rfl (Nat.le_of_ble_eq_true rfl) (fun w34 s35 e36 => ?_)
    refine e_L 3 (f' := (386, [(2, .int w34), (0, .ref 0), (1, .int a2)], [.int w34])) rfl ?_
    exact e_rI rfl rfl
  · refine e_L 1 (f' := (249, [(2, .int (0 : Int32)), (0, .ref 0), (1, .int a2)], [.ref 0])) rfl ?_
    refine e_ldc2 (v := (8079524941032074016 : Int64)) rfl (by decide +kernel) ?_
    refine e_ldc2 (v := (3547429131484397568 : Int64)) rfl (by decide +kernel) ?_
    refine e_L 1 (f' := (257, [(2, .int (0 : Int32)), (0, .ref 0), (1, .int a2)], [.int (10 : Int32), .long (3547429131484397568 : Int64), .long (8079524941032074016 : Int64), .ref 0])) rfl ?_
    refine e_sI 439 rfl rfl rfl ix_L_say rfl (Nat.le_of_ble_eq_true rfl) (fun w37 s38 e39 => ?_)
    refine e_L 3 (f' := (386, [(2, .int w37), (0, .ref 0), (1, .int a2)], [.int w37])) rfl ?_
    exact e_rI rfl rfl
  · refine e_L 1 (f' := (265, [(2, .int (0 : Int32)), (0, .ref 0), (1, .int a2)], [.ref 0])) rfl ?_
    refine e_ldc2 (v := (8800100881429889024 : Int64)) rfl (by decide +kernel) ?_
    refine e_L 2 (f' := (271, [(2, .int (0 : Int32)), (0, .ref 0), (1, .int a2)], [.int (6 : Int32), .long (0 : Int64), .long (8800100881429889024 : Int64), .ref 0])) rfl ?_
    refine e_sI 439 rfl rfl rfl ix_L_say rfl (Nat.le_of_ble_eq_true rfl) (fun w40 s41 e42 => ?_)
    refine e_L 3 (f' := (386, [(2, .int w40), (0, .ref 0), (1, .int a2)], [.int w40])) rfl ?_
    exact e_rI rfl rfl
  · refine e_L 1 (f' := (279, [(2, .int (0 : Int32)), (0, .ref 0), (1, .int a2)], [.ref 0])) rfl ?_
    refine e_ldc2 (v := (8151582535239532544 : Int64)) rfl (by decide +kernel) ?_
    refine e_L 2 (f' := (285, [(2, .int (0 : Int32)), (0, .ref 0), (1, .int a2)], [.int (6 : Int32), .long (0 : Int64), .long (8151582535239532544 : Int64), .ref 0])) rfl ?_
    refine e_sI 439 rfl rfl rfl ix_L_say rfl (Nat.le_of_ble_eq_true rfl) (fun w43 s44 e45 => ?_)
    refine e_L 3 (f' := (386, [(2, .int w43), (0, .ref 0), (1, .int a2)], [.int w43])) rfl ?_
    exact e_rI rfl rfl
  · refine e_L 1 (f' := (293, [(2, .int (0 : Int32)), (0, .ref 0), (1, .int a2)], [.ref 0])) rfl ?_
    refine e_ldc2 (v := (7813573190267058976 : Int64)) rfl (by decide +kernel) ?_
    refine e_ldc2 (v := (8151582535205986421 : Int64)) rfl (by decide +kernel) ?_
    refine e_L 1 (f' := (301, [(2, .int (0 : Int32)), (0, .ref 0), (1, .int a2)], [.int (16 : Int32), .long (8151582535205986421 : Int64), .long (7813573190267058976 : Int64), .ref 0])) rfl ?_
    refine e_sI 439 rfl rfl rfl ix_L_say rfl (Nat.le_of_ble_eq_true rfl) (fun w46 s47 e48 => ?_)
    refine e_L 2 (f' := (306, [(2, .int w46), (0, .ref 0), (1, .int a2)], [.ref 0])) rfl ?_
    refine e_ldc2 (v := (7956857114446553659 : Int64)) rfl (by decide +kernel) ?_
    refine e_L 2 (f' := (312, [(2, .int w46), (0, .ref 0), (1, .int a2)], [.int (8 : Int32), .long (0 : Int64), .long (7956857114446553659 : Int64), .ref 0])) rfl ?_
    refine e_sI 439 rfl rfl rfl ix_L_say rfl (Nat.le_of_ble_eq_true rfl) (fun w49 s50 e51 => ?_)
    refine e_L 3 (f' := (386, [(2, .int w49), (0, .ref 0), (1, .int a2)], [.int w49])) rfl ?_
    exact e_rI rfl rfl
  · refine e_L 1 (f' := (320, [(2, .int (0 : Int32)), (0, .ref 0), (1, .int a2)], [.ref 0])) rfl ?_
    refine e_ldc2 (v := (7022083123549839473 : Int64)) rfl (by decide +kernel) ?_
    refine e_ldc2 (v := (2322766937991413760 : Int64)) rfl (by decide +kernel) ?_
    refine e_L 1 (f' := (328, [(2, .int (0 : Int32)), (0, .ref 0), (1, .int a2)], [.int (13 : Int32), .long (2322766937991413760 : Int64), .long (7022083123549839473 : Int64), .ref 0])) rfl ?_
    refine e_sI 439 rfl rfl rfl ix_L_say rfl (Nat.le_of_ble_eq_true rfl) (fun w52 s53 e54 => ?_)
    refine e_L 3 (f' := (386, [(2, .int w52), (0, .ref 0), (1, .int a2)], [.int w52])) rfl ?_
    exact e_rI rfl rfl
  · refine e_L 1 (f' := (336, [(2, .int (0 : Int32)), (0, .ref 0), (1, .int a2)], [.ref 0])) rfl ?_
    refine e_ldc2 (v := (8728043286418882560 : Int64)) rfl (by decide +kernel) ?_
    refine e_L 2 (f' := (342, [(2, .int (0 : Int32)), (0, .ref 0), (1, .int a2)], [.int (6 : Int32), .long (0 : Int64), .long (8728043286418882560 : Int64), .ref 0])) rfl ?_
    refine e_sI 439 rfl rfl rfl ix_L_say rfl (Nat.le_of_ble_eq_true rfl) (fun w55 s56 e57 => ?_)
    refine e_L 3 (f' := (386, [(2, .int w55), (0, .ref 0), (1, .int a2)], [.int w55])) rfl ?_
    exact e_rI rfl rfl
  · refine e_L 1 (f' := (350, [(2, .int (0 : Int32)), (0, .ref 0), (1, .int a2)], [.ref 0])) rfl ?_
    refine e_ldc2 (v := (7813573190266993440 : Int64)) rfl (by decide +kernel) ?_
    refine e_ldc2 (v := (7813573190267058976 : Int64)) rfl (by decide +kernel) ?_
    refine e_L 1 (f' := (358, [(2, .int (0 : Int32)), (0, .ref 0), (1, .int a2)], [.int (16 : Int32), .long (7813573190267058976 : Int64), .long (7813573190266993440 : Int64), .ref 0])) rfl ?_
    refine e_sI 439 rfl rfl rfl ix_L_say rfl (Nat.le_of_ble_eq_true rfl) (fun w58 s59 e60 => ?_)
    refine e_L 2 (f' := (363, [(2, .int w58), (0, .ref 0), (1, .int a2)], [.ref 0])) rfl ?_
    refine e_ldc2 (v := (8461819975540875362 : Int64)) rfl (by decide +kernel) ?_
    refine e_ldc2 (v := (4260534364618580843 : Int64)) rfl (by decide +kernel) ?_
    refine e_L 1 (f' := (371, [(2, .int w58), (0, .ref 0), (1, .int a2)], [.int (16 : Int32), .long (4260534364618580843 : Int64), .long (8461819975540875362 : Int64), .ref 0])) rfl ?_
    refine e_sI 439 rfl rfl rfl ix_L_say rfl (Nat.le_of_ble_eq_true rfl) (fun w61 s62 e63 => ?_)
    refine e_L 2 (f' := (376, [(2, .int w61), (0, .ref 0), (1, .int a2)], [.ref 0])) rfl ?_
    refine e_ldc2 (v := (2333210953140666368 : Int64)) rfl (by decide +kernel) ?_
    refine e_L 2 (f' := (381, [(2, .int w61), (0, .ref 0), (1, .int a2)], [.int (3 : Int32), .long (0 : Int64), .long (2333210953140666368 : Int64), .ref 0])) rfl ?_
    refine e_sI 439 rfl rfl rfl ix_L_say rfl (Nat.le_of_ble_eq_true rfl) (fun w64 s65 e66 => ?_)
    refine e_L 2 (f' := (386, [(2, .int w64), (0, .ref 0), (1, .int a2)], [.int w64])) rfl ?_
    exact e_rI rfl rfl
noncomputable def L_L_tell_62 (en : pN) (d : Nat) (v2 : Int32) (v3 : Int32) (v5 : Int32) (s : qS) : Option qR := qE (qev en d) en (some .int) tb_L_tell (62, [(0, .ref 0), (1, .retAddr 0), (2, .int v2), (3, .int v3), (5, .int v5)], []) s
noncomputable def L_L_tell_105 (en : pN) (d : Nat) (v2 : Int32) (v3 : Int32) (v5 : Int32) (s : qS) : Option qR := qE (qev en d) en (some .int) tb_L_tell (105, [(0, .ref 0), (1, .retAddr 0), (2, .int v2), (3, .int v3), (5, .int v5)], []) s
set_option maxRecDepth 100000 in
set_option maxHeartbeats 4000000 in
theorem le_L_tell_62 (en : pN) (d : Nat) (v2 : Int32) (v3 : Int32) (v5 : Int32) (s : qS) : qle (if v3 ≤ v5 then bI (qev en d 439 [.ref 0, .long (9016334445940400484 : Int64), .long (2338811294678777856 : Int64), .int (13 : Int32)] s) (fun w2 s3 => L_L_tell_105 en d v2 v3 (0 : Int32) s3) else bI (qev en d 438 [.retAddr 0, .int (v2 + v5)] s) (fun w5 s6 => bI (qev en d 440 [.ref 0, .int w5] s6) (fun w8 s9 => L_L_tell_62 en d v2 v3 (v5 + (1 : Int32)) s9))) (L_L_tell_62 en d v2 v3 v5 s) := by
  show qle _ (qE (qev en d) en (some .int) tb_L_tell (62, [(0, .ref 0), (1, .retAddr 0), (2, .int v2), (3, .int v3), (5, .int v5)], []) s)
  refine e_L 2 (f' := (65, [(0, .ref 0), (1, .retAddr 0), (2, .int v2), (3, .int v3), (5, .int v5)], [.int v3, .int v5])) rfl ?_
  refine e_icmp 88 rfl rfl rfl (fun c1 => ?_) (fun c1 => ?_)
  · refine e_L 1 (f' := (89, [(0, .ref 0), (1, .retAddr 0), (2, .int v2), (3, .int v3), (5, .int v5)], [.ref 0])) rfl ?_
    refine e_ldc2 (v := (9016334445940400484 : Int64)) rfl (by decide +kernel) ?_
    refine e_ldc2 (v := (2338811294678777856 : Int64)) rfl (by decide +kernel) ?_
    refine e_L 1 (f' := (97, [(0, .ref 0), (1, .retAddr 0), (2, .int v2), (3, .int v3), (5, .int v5)], [.int (13 : Int32), .long (2338811294678777856 : Int64), .long (9016334445940400484 : Int64), .ref 0])) rfl ?_
    refine e_sI 439 rfl rfl rfl ix_L_say rfl (Nat.le_of_ble_eq_true rfl) (fun w2 s3 e4 => ?_)
    refine e_L 3 (f' := (105, [(5, .int (0 : Int32)), (4, .int w2), (0, .ref 0), (1, .retAddr 0), (2, .int v2), (3, .int v3)], [])) rfl ?_
    exact qE_sub (qsubL [2, 3, 4, 5, 0] rfl (ks := [5, 4, 0, 1, 2, 3]) rfl (by decide))
  · refine e_L 5 (f' := (74, [(0, .ref 0), (1, .retAddr 0), (2, .int v2), (3, .int v3), (5, .int v5)], [.int (v2 + v5), .retAddr 0, .ref 0])) rfl ?_
    refine e_sI 438 rfl rfl rfl ix_L_cell rfl (Nat.le_of_ble_eq_true rfl) (fun w5 s6 e7 => ?_)
    refine e_sI 440 rfl rfl rfl ix_L_statement rfl (Nat.le_of_ble_eq_true rfl) (fun w8 s9 e10 => ?_)
    refine e_L 3 (f' := (62, [(5, .int (v5 + (1 : Int32))), (4, .int w8), (0, .ref 0), (1, .retAddr 0), (2, .int v2), (3, .int v3)], [])) rfl ?_
    exact qE_sub (qsubL [2, 3, 4, 5, 0] rfl (ks := [5, 4, 0, 1, 2, 3]) rfl (by decide))
set_option maxRecDepth 100000 in
set_option maxHeartbeats 4000000 in
theorem le_L_tell_105 (en : pN) (d : Nat) (v2 : Int32) (v3 : Int32) (v5 : Int32) (s : qS) : qle (if v3 ≤ v5 then bI (qev en d 439 [.ref 0, .long (9007199254740992000 : Int64), .long (0 : Int64), .int (1 : Int32)] s) (fun w2 s3 => bI (qev en d 204 [.ref 0] s3) (fun w5 s6 => some (some (.int w5), s6))) else bI (qev en d 438 [.retAddr 0, .int ((v2 + v3) + v5)] s) (fun w8 s9 => bI (qev en d 440 [.ref 0, .int (w8 >>> ((4 : Int32) &&& 31))] s9) (fun w11 s12 => L_L_tell_105 en d v2 v3 (v5 + (1 : Int32)) s12))) (L_L_tell_105 en d v2 v3 v5 s) := by
  show qle _ (qE (qev en d) en (some .int) tb_L_tell (105, [(0, .ref 0), (1, .retAddr 0), (2, .int v2), (3, .int v3), (5, .int v5)], []) s)
  refine e_L 2 (f' := (108, [(0, .ref 0), (1, .retAddr 0), (2, .int v2), (3, .int v3), (5, .int v5)], [.int v3, .int v5])) rfl ?_
  refine e_icmp 135 rfl rfl rfl (fun c1 => ?_) (fun c1 => ?_)
  · refine e_L 1 (f' := (136, [(0, .ref 0), (1, .retAddr 0), (2, .int v2), (3, .int v3), (5, .int v5)], [.ref 0])) rfl ?_
    refine e_ldc2 (v := (9007199254740992000 : Int64)) rfl (by decide +kernel) ?_
    refine e_L 2 (f' := (141, [(0, .ref 0), (1, .retAddr 0), (2, .int v2), (3, .int v3), (5, .int v5)], [.int (1 : Int32), .long (0 : Int64), .long (9007199254740992000 : Int64), .ref 0])) rfl ?_
    refine e_sI 439 rfl rfl rfl ix_L_say rfl (Nat.le_of_ble_eq_true rfl) (fun w2 s3 e4 => ?_)
    refine e_L 2 (f' := (147, [(4, .int w2), (0, .ref 0), (1, .retAddr 0), (2, .int v2), (3, .int v3), (5, .int v5)], [.ref 0])) rfl ?_
    refine e_vI 204 rfl rfl ix_X11_program rfl (q_recvOf lc_0 rfl) (Nat.le_of_ble_eq_true rfl) (fun w5 s6 e7 => ?_)
    exact e_rI rfl rfl
  · refine e_L 7 (f' := (119, [(0, .ref 0), (1, .retAddr 0), (2, .int v2), (3, .int v3), (5, .int v5)], [.int ((v2 + v3) + v5), .retAddr 0, .ref 0])) rfl ?_
    refine e_sI 438 rfl rfl rfl ix_L_cell rfl (Nat.le_of_ble_eq_true rfl) (fun w8 s9 e10 => ?_)
    refine e_L 2 (f' := (124, [(0, .ref 0), (1, .retAddr 0), (2, .int v2), (3, .int v3), (5, .int v5)], [.int (w8 >>> ((4 : Int32) &&& 31)), .ref 0])) rfl ?_
    refine e_sI 440 rfl rfl rfl ix_L_statement rfl (Nat.le_of_ble_eq_true rfl) (fun w11 s12 e13 => ?_)
    refine e_L 3 (f' := (105, [(5, .int (v5 + (1 : Int32))), (4, .int w11), (0, .ref 0), (1, .retAddr 0), (2, .int v2), (3, .int v3)], [])) rfl ?_
    exact qE_sub (qsubL [2, 3, 4, 5, 0] rfl (ks := [5, 4, 0, 1, 2, 3]) rfl (by decide))
set_option maxRecDepth 100000 in
set_option maxHeartbeats 4000000 in
theorem le_L_tell (en : pN) (d : Nat) (a3 : Int32) (a4 : Int32) (s : qS) : qle (bI (qev en d 439 [.ref 0, .long (7162249994059660064 : Int64), .long (7162249994059725600 : Int64), .int (16 : Int32)] s) (fun w1 s2 => bI (qev en d 439 [.ref 0, .long (7162249994059784310 : Int64), .long (8028899388307563835 : Int64), .int (16 : Int32)] s2) (fun w4 s5 => bI (qev en d 439 [.ref 0, .long (2336364779488174395 : Int64), .long (2336364779488174651 : Int64), .int (16 : Int32)] s5) (fun w7 s8 => bI (qev en d 439 [.ref 0, .long (2338608947048571936 : Int64), .long (8367823485023551488 : Int64), .int (12 : Int32)] s8) (fun w10 s11 => L_L_tell_62 en d a3 a4 (0 : Int32) s11))))) (qev en (d + 1) 441 [.ref 0, .retAddr 0, .int a3, .int a4] s) := by
  refine e_enter ix_L_tell (Nat.le_of_ble_eq_true rfl) ?_
  show qle _ (qE (qev en d) en (some .int) tb_L_tell (0, [(0, .ref 0), (1, .retAddr 0), (2, .int a3), (3, .int a4)], []) s)
  refine e_L 3 (f' := (4, [(4, .int (0 : Int32)), (0, .ref 0), (1, .retAddr 0), (2, .int a3), (3, .int a4)], [.ref 0])) rfl ?_
  refine e_ldc2 (v := (7162249994059660064 : Int64)) rfl (by decide +kernel) ?_
  refine e_ldc2 (v := (7162249994059725600 : Int64)) rfl (by decide +kernel) ?_
  refine e_L 1 (f' := (12, [(4, .int (0 : Int32)), (0, .ref 0), (1, .retAddr 0), (2, .int a3), (3, .int a4)], [.int (16 : Int32), .long (7162249994059725600 : Int64), .long (7162249994059660064 : Int64), .ref 0])) rfl ?_
  refine e_sI 439 rfl rfl rfl ix_L_say rfl (Nat.le_of_ble_eq_true rfl) (fun w1 s2 e3 => ?_)
  refine e_L 2 (f' := (18, [(4, .int w1), (0, .ref 0), (1, .retAddr 0), (2, .int a3), (3, .int a4)], [.ref 0])) rfl ?_
  refine e_ldc2 (v := (7162249994059784310 : Int64)) rfl (by decide +kernel) ?_
  refine e_ldc2 (v := (8028899388307563835 : Int64)) rfl (by decide +kernel) ?_
  refine e_L 1 (f' := (26, [(4, .int w1), (0, .ref 0), (1, .retAddr 0), (2, .int a3), (3, .int a4)], [.int (16 : Int32), .long (8028899388307563835 : Int64), .long (7162249994059784310 : Int64), .ref 0])) rfl ?_
  refine e_sI 439 rfl rfl rfl ix_L_say rfl (Nat.le_of_ble_eq_true rfl) (fun w4 s5 e6 => ?_)
  refine e_L 2 (f' := (32, [(4, .int w4), (0, .ref 0), (1, .retAddr 0), (2, .int a3), (3, .int a4)], [.ref 0])) rfl ?_
  refine e_ldc2 (v := (2336364779488174395 : Int64)) rfl (by decide +kernel) ?_
  refine e_ldc2 (v := (2336364779488174651 : Int64)) rfl (by decide +kernel) ?_
  refine e_L 1 (f' := (40, [(4, .int w4), (0, .ref 0), (1, .retAddr 0), (2, .int a3), (3, .int a4)], [.int (16 : Int32), .long (2336364779488174651 : Int64), .long (2336364779488174395 : Int64), .ref 0])) rfl ?_
  refine e_sI 439 rfl rfl rfl ix_L_say rfl (Nat.le_of_ble_eq_true rfl) (fun w7 s8 e9 => ?_)
  refine e_L 2 (f' := (46, [(4, .int w7), (0, .ref 0), (1, .retAddr 0), (2, .int a3), (3, .int a4)], [.ref 0])) rfl ?_
  refine e_ldc2 (v := (2338608947048571936 : Int64)) rfl (by decide +kernel) ?_
  refine e_ldc2 (v := (8367823485023551488 : Int64)) rfl (by decide +kernel) ?_
  refine e_L 1 (f' := (54, [(4, .int w7), (0, .ref 0), (1, .retAddr 0), (2, .int a3), (3, .int a4)], [.int (12 : Int32), .long (8367823485023551488 : Int64), .long (2338608947048571936 : Int64), .ref 0])) rfl ?_
  refine e_sI 439 rfl rfl rfl ix_L_say rfl (Nat.le_of_ble_eq_true rfl) (fun w10 s11 e12 => ?_)
  refine e_L 3 (f' := (62, [(5, .int (0 : Int32)), (4, .int w10), (0, .ref 0), (1, .retAddr 0), (2, .int a3), (3, .int a4)], [])) rfl ?_
  exact qE_sub (qsubL [2, 3, 4, 5, 0] rfl (ks := [5, 4, 0, 1, 2, 3]) rfl (by decide))
noncomputable def L_L_sum_9 (en : pN) (d : Nat) (v1 : Int32) (v2 : Int32) (v3 : Int32) (s : qS) : Option qR := qE (qev en d) en (some .int) tb_L_sum (9, [(0, .ref 0), (1, .int v1), (2, .int v2), (3, .int v3)], []) s
noncomputable def L_L_sum_35 (en : pN) (d : Nat) (v1 : Int32) (v2 : Int32) (v3 : Int32) (s : qS) : Option qR := qE (qev en d) en (some .int) tb_L_sum (35, [(0, .ref 0), (1, .int v1), (2, .int v2), (3, .int v3)], []) s
noncomputable def L_L_sum_43 (en : pN) (d : Nat) (v1 : Int32) (v2 : Int32) (v3 : Int32) (v4 : Int32) (s : qS) : Option qR := qE (qev en d) en (some .int) tb_L_sum (43, [(0, .ref 0), (1, .int v1), (2, .int v2), (3, .int v3), (4, .int v4)], []) s
set_option maxRecDepth 100000 in
set_option maxHeartbeats 4000000 in
theorem le_L_sum_9 (en : pN) (d : Nat) (v1 : Int32) (v2 : Int32) (v3 : Int32) (s : qS) : qle (if (3 : Int32) ≤ v3 then L_L_sum_35 en d v1 v2 (0 : Int32) s else bI (qev en d 223 [.ref 0, .int v1, .int v3] s) (fun w2 s3 => nm (((1009 : Int32) * v2) + w2) (fun z5 => L_L_sum_9 en d v1 z5 (v3 + (1 : Int32)) s3))) (L_L_sum_9 en d v1 v2 v3 s) := by
  show qle _ (qE (qev en d) en (some .int) tb_L_sum (9, [(0, .ref 0), (1, .int v1), (2, .int v2), (3, .int v3)], []) s)
  refine e_L 2 (f' := (11, [(0, .ref 0), (1, .int v1), (2, .int v2), (3, .int v3)], [.int (3 : Int32), .int v3])) rfl ?_
  refine e_icmp 33 rfl rfl rfl (fun c1 => ?_) (fun c1 => ?_)
  · refine e_L 2 (f' := (35, [(3, .int (0 : Int32)), (0, .ref 0), (1, .int v1), (2, .int v2)], [])) rfl ?_
    exact qE_sub (qsubL [1, 2, 3, 0] rfl (ks := [3, 0, 1, 2]) rfl (by decide))
  · refine e_L 6 (f' := (22, [(0, .ref 0), (1, .int v1), (2, .int v2), (3, .int v3)], [.int v3, .int v1, .ref 0, .int ((1009 : Int32) * v2)])) rfl ?_
    refine e_vI 223 rfl rfl ix_X11_outcomeCell rfl (q_recvOf lc_0 rfl) (Nat.le_of_ble_eq_true rfl) (fun w2 s3 e4 => ?_)
    refine e_L 1 (f' := (26, [(0, .ref 0), (1, .int v1), (2, .int v2), (3, .int v3)], [.int (((1009 : Int32) * v2) + w2)])) rfl ?_
    refine e_nI fun z5 => ?_
    refine e_L 3 (f' := (9, [(3, .int (v3 + (1 : Int32))), (2, .int z5), (0, .ref 0), (1, .int v1)], [])) rfl ?_
    exact qE_sub (qsubL [2, 3, 1, 0] rfl (ks := [3, 2, 0, 1]) rfl (by decide))
set_option maxRecDepth 100000 in
set_option maxHeartbeats 4000000 in
theorem le_L_sum_35 (en : pN) (d : Nat) (v1 : Int32) (v2 : Int32) (v3 : Int32) (s : qS) : qle (if (2 : Int32) ≤ v3 then some (some (.int v2), s) else L_L_sum_43 en d v1 v2 v3 (0 : Int32) s) (L_L_sum_35 en d v1 v2 v3 s) := by
  show qle _ (qE (qev en d) en (some .int) tb_L_sum (35, [(0, .ref 0), (1, .int v1), (2, .int v2), (3, .int v3)], []) s)
  refine e_L 2 (f' := (37, [(0, .ref 0), (1, .int v1), (2, .int v2), (3, .int v3)], [.int (2 : Int32), .int v3])) rfl ?_
  refine e_icmp 76 rfl rfl rfl (fun c1 => ?_) (fun c1 => ?_)
  · refine e_L 1 (f' := (77, [(0, .ref 0), (1, .int v1), (2, .int v2), (3, .int v3)], [.int v2])) rfl ?_
    exact e_rI rfl rfl
  · refine e_L 2 (f' := (43, [(4, .int (0 : Int32)), (0, .ref 0), (1, .int v1), (2, .int v2), (3, .int v3)], [])) rfl ?_
    exact qE_sub (qsubL [1, 2, 3, 4, 0] rfl (ks := [4, 0, 1, 2, 3]) rfl (by decide))
set_option maxRecDepth 100000 in
set_option maxHeartbeats 4000000 in
theorem le_L_sum_43 (en : pN) (d : Nat) (v1 : Int32) (v2 : Int32) (v3 : Int32) (v4 : Int32) (s : qS) : qle (if (2 : Int32) ≤ v4 then L_L_sum_35 en d v1 v2 (v3 + (1 : Int32)) s else bI (qev en d 224 [.ref 0, .int v1, .int v3, .int v4] s) (fun w2 s3 => nm (((1013 : Int32) * v2) + w2) (fun z5 => L_L_sum_43 en d v1 z5 v3 (v4 + (1 : Int32)) s3))) (L_L_sum_43 en d v1 v2 v3 v4 s) := by
  show qle _ (qE (qev en d) en (some .int) tb_L_sum (43, [(0, .ref 0), (1, .int v1), (2, .int v2), (3, .int v3), (4, .int v4)], []) s)
  refine e_L 2 (f' := (46, [(0, .ref 0), (1, .int v1), (2, .int v2), (3, .int v3), (4, .int v4)], [.int (2 : Int32), .int v4])) rfl ?_
  refine e_icmp 70 rfl rfl rfl (fun c1 => ?_) (fun c1 => ?_)
  · refine e_L 2 (f' := (35, [(3, .int (v3 + (1 : Int32))), (0, .ref 0), (1, .int v1), (2, .int v2), (4, .int v4)], [])) rfl ?_
    exact qE_sub (qsubL [1, 2, 3, 0] rfl (ks := [3, 0, 1, 2, 4]) rfl (by decide))
  · refine e_L 7 (f' := (59, [(0, .ref 0), (1, .int v1), (2, .int v2), (3, .int v3), (4, .int v4)], [.int v4, .int v3, .int v1, .ref 0, .int ((1013 : Int32) * v2)])) rfl ?_
    refine e_vI 224 rfl rfl ix_X11_outcomeLocal rfl (q_recvOf lc_0 rfl) (Nat.le_of_ble_eq_true rfl) (fun w2 s3 e4 => ?_)
    refine e_L 1 (f' := (63, [(0, .ref 0), (1, .int v1), (2, .int v2), (3, .int v3), (4, .int v4)], [.int (((1013 : Int32) * v2) + w2)])) rfl ?_
    refine e_nI fun z5 => ?_
    refine e_L 3 (f' := (43, [(4, .int (v4 + (1 : Int32))), (2, .int z5), (0, .ref 0), (1, .int v1), (3, .int v3)], [])) rfl ?_
    exact qE_sub (qsubL [2, 3, 1, 4, 0] rfl (ks := [4, 2, 0, 1, 3]) rfl (by decide))
set_option maxRecDepth 100000 in
set_option maxHeartbeats 4000000 in
theorem le_L_sum (en : pN) (d : Nat) (a2 : Int32) (s : qS) : qle (bI (qev en d 222 [.ref 0, .int a2, .int (0 : Int32)] s) (fun w1 s2 => L_L_sum_9 en d a2 w1 (0 : Int32) s2)) (qev en (d + 1) 443 [.ref 0, .int a2] s) := by
  refine e_enter ix_L_sum (Nat.le_of_ble_eq_true rfl) ?_
  show qle _ (qE (qev en d) en (some .int) tb_L_sum (0, [(0, .ref 0), (1, .int a2)], []) s)
  refine e_L 3 (f' := (3, [(0, .ref 0), (1, .int a2)], [.int (0 : Int32), .int a2, .ref 0])) rfl ?_
  refine e_vI 222 rfl rfl ix_X11_outcome rfl (q_recvOf lc_0 rfl) (Nat.le_of_ble_eq_true rfl) (fun w1 s2 e3 => ?_)
  refine e_L 3 (f' := (9, [(3, .int (0 : Int32)), (2, .int w1), (0, .ref 0), (1, .int a2)], [])) rfl ?_
  exact qE_sub (qsubL [2, 3, 1, 0] rfl (ks := [3, 2, 0, 1]) rfl (by decide))
