/-! what methods do, printed by program out of their tables: J9_max_7cf53 .. -/
set_option maxRecDepth 100000 in
set_option maxHeartbeats 4000000 in
theorem le_J9_max_7cf53 (en : pN) (d : Nat) (a1 : Int32) (a2 : Int32) (s : qS) : qle (if a1 < a2 then some (some (.int a2), s) else some (some (.int a1), s)) (qev en (d + 1) 411 [.int a1, .int a2] s) := by
  refine e_enter ix_J9_max_7cf53 (Nat.le_of_ble_eq_true rfl) ?_
  show qle _ (qE (qev en d) en (some .int) tb_J9_max_7cf53 (0, [(0, .int a1), (1, .int a2)], []) s)
  refine e_L 2 (f' := (2, [(0, .int a1), (1, .int a2)], [.int a2, .int a1])) rfl ?_
  refine e_icmp 9 rfl rfl rfl (fun c1 => ?_) (fun c1 => ?_)
  · refine e_L 1 (f' := (10, [(0, .int a1), (1, .int a2)], [.int a2])) rfl ?_
    exact e_rI rfl rfl
  · refine e_L 2 (f' := (10, [(0, .int a1), (1, .int a2)], [.int a1])) rfl ?_
    exact e_rI rfl rfl
set_option maxRecDepth 100000 in
set_option maxHeartbeats 4000000 in
theorem le_J9_min_7cf53 (en : pN) (d : Nat) (a1 : Int32) (a2 : Int32) (s : qS) : qle (if a2 < a1 then some (some (.int a2), s) else some (some (.int a1), s)) (qev en (d + 1) 412 [.int a1, .int a2] s) := by
  refine e_enter ix_J9_min_7cf53 (Nat.le_of_ble_eq_true rfl) ?_
  show qle _ (qE (qev en d) en (some .int) tb_J9_min_7cf53 (0, [(0, .int a1), (1, .int a2)], []) s)
  refine e_L 2 (f' := (2, [(0, .int a1), (1, .int a2)], [.int a2, .int a1])) rfl ?_
  refine e_icmp 9 rfl rfl rfl (fun c1 => ?_) (fun c1 => ?_)
  · refine e_L 1 (f' := (10, [(0, .int a1), (1, .int a2)], [.int a2])) rfl ?_
    exact e_rI rfl rfl
  · refine e_L 2 (f' := (10, [(0, .int a1), (1, .int a2)], [.int a1])) rfl ?_
    exact e_rI rfl rfl
set_option maxRecDepth 100000 in
set_option maxHeartbeats 4000000 in
theorem le_J0_length_8abf5 (en : pN) (d : Nat) (s : qS) : qle (bI (qev en d 417 [.retAddr 3] s) (fun w1 s2 => some (some (.int ((16 : Int32) >>> (w1 &&& 31))), s2))) (qev en (d + 1) 413 [.retAddr 3] s) := by
  refine e_enter ix_J0_length_8abf5 (Nat.le_of_ble_eq_true rfl) ?_
  show qle _ (qE (qev en d) en (some .int) tb_J0_length_8abf5 (0, [(0, .retAddr 3)], []) s)
  refine e_L 1 (f' := (1, [(0, .retAddr 3)], [.retAddr 3])) rfl ?_
  refine e_gS (w := .retAddr 6) rfl (by decide) rfl rfl ?_
  refine e_olen (v := (16 : Int32)) rfl rfl (by decide +kernel) ?_
  refine e_L 1 (f' := (6, [(0, .retAddr 3)], [.retAddr 3, .int (16 : Int32)])) rfl ?_
  refine e_vI 417 rfl rfl ix_J0_coder_7d493 rfl rfl (Nat.le_of_ble_eq_true rfl) (fun w1 s2 e3 => ?_)
  refine e_L 1 (f' := (10, [(0, .retAddr 3)], [.int ((16 : Int32) >>> (w1 &&& 31))])) rfl ?_
  exact e_rI rfl rfl
set_option maxRecDepth 100000 in
set_option maxHeartbeats 4000000 in
theorem le_J0_indexOf_0f7a4 (en : pN) (d : Nat) (a1 : Int32) (s : qS) : qle (bI (qev en d 416 [.retAddr 3, .int a1, .int (0 : Int32)] s) (fun w1 s2 => some (some (.int w1), s2))) (qev en (d + 1) 415 [.retAddr 3, .int a1] s) := by
  refine e_enter ix_J0_indexOf_0f7a4 (Nat.le_of_ble_eq_true rfl) ?_
  show qle _ (qE (qev en d) en (some .int) tb_J0_indexOf_0f7a4 (0, [(0, .retAddr 3), (1, .int a1)], []) s)
  refine e_L 3 (f' := (3, [(0, .retAddr 3), (1, .int a1)], [.int (0 : Int32), .int a1, .retAddr 3])) rfl ?_
  refine e_vI 416 rfl rfl ix_J0_indexOf_7cf53 rfl rfl (Nat.le_of_ble_eq_true rfl) (fun w1 s2 e3 => ?_)
  exact e_rI rfl rfl
set_option maxRecDepth 100000 in
set_option maxHeartbeats 4000000 in
theorem le_J0_indexOf_7cf53 (en : pN) (d : Nat) (a1 : Int32) (a2 : Int32) (s : qS) : qle (bI (qev en d 418 [.retAddr 3] s) (fun w1 s2 => if w1 = (0 : Int32) then bI (qev en d 413 [.retAddr 3] s2) (fun w5 s6 => bI (qev en d 427 [.retAddr 6, .int a1, .int a2, .int w5] s6) (fun w8 s9 => some (some (.int w8), s9))) else bI (qev en d 413 [.retAddr 3] s2) (fun w11 s12 => bI (qev en d 423 [.retAddr 6, .int a1, .int a2, .int w11] s12) (fun w14 s15 => some (some (.int w14), s15))))) (qev en (d + 1) 416 [.retAddr 3, .int a1, .int a2] s) := by
  refine e_enter ix_J0_indexOf_7cf53 (Nat.le_of_ble_eq_true rfl) ?_
  show qle _ (qE (qev en d) en (some .int) tb_J0_indexOf_7cf53 (0, [(0, .retAddr 3), (1, .int a1), (2, .int a2)], []) s)
  refine e_L 1 (f' := (1, [(0, .retAddr 3), (1, .int a1), (2, .int a2)], [.retAddr 3])) rfl ?_
  refine e_vI 418 rfl rfl ix_J0_isLatin1_aae02 rfl rfl (Nat.le_of_ble_eq_true rfl) (fun w1 s2 e3 => ?_)
  refine e_ifz 23 rfl rfl rfl (fun c4 => ?_) (fun c4 => ?_)
  · refine e_L 1 (f' := (24, [(0, .retAddr 3), (1, .int a1), (2, .int a2)], [.retAddr 3])) rfl ?_
    refine e_gS (w := .retAddr 6) rfl (by decide) rfl rfl ?_
    refine e_L 3 (f' := (30, [(0, .retAddr 3), (1, .int a1), (2, .int a2)], [.retAddr 3, .int a2, .int a1, .retAddr 6])) rfl ?_
    refine e_vI 413 rfl rfl ix_J0_length_8abf5 rfl rfl (Nat.le_of_ble_eq_true rfl) (fun w5 s6 e7 => ?_)
    refine e_sI 427 rfl rfl rfl ix_J2_indexOf_4cfef rfl (Nat.le_of_ble_eq_true rfl) (fun w8 s9 e10 => ?_)
    exact e_rI rfl rfl
  · refine e_L 1 (f' := (8, [(0, .retAddr 3), (1, .int a1), (2, .int a2)], [.retAddr 3])) rfl ?_
    refine e_gS (w := .retAddr 6) rfl (by decide) rfl rfl ?_
    refine e_L 3 (f' := (14, [(0, .retAddr 3), (1, .int a1), (2, .int a2)], [.retAddr 3, .int a2, .int a1, .retAddr 6])) rfl ?_
    refine e_vI 413 rfl rfl ix_J0_length_8abf5 rfl rfl (Nat.le_of_ble_eq_true rfl) (fun w11 s12 e13 => ?_)
    refine e_sI 423 rfl rfl rfl ix_J1_indexOf_4cfef rfl (Nat.le_of_ble_eq_true rfl) (fun w14 s15 e16 => ?_)
    refine e_L 1 (f' := (36, [(0, .retAddr 3), (1, .int a1), (2, .int a2)], [.int w14])) rfl ?_
    exact e_rI rfl rfl
set_option maxRecDepth 100000 in
set_option maxHeartbeats 4000000 in
theorem le_J0_coder_7d493 (en : pN) (d : Nat) (s : qS) : qle (if (1 : Int32) = (0 : Int32) then some (some (.int (1 : Int32)), s) else some (some (.int (0 : Int32)), s)) (qev en (d + 1) 417 [.retAddr 3] s) := by
  refine e_enter ix_J0_coder_7d493 (Nat.le_of_ble_eq_true rfl) ?_
  show qle _ (qE (qev en d) en (some .byte) tb_J0_coder_7d493 (0, [(0, .retAddr 3)], []) s)
  refine e_gs (w := .int (1 : Int32)) rfl rfl ?_
  refine e_ifz 13 rfl rfl rfl (fun c1 => ?_) (fun c1 => ?_)
  · refine e_L 1 (f' := (14, [(0, .retAddr 3)], [.int (1 : Int32)])) rfl ?_
    exact e_rB rfl rfl (by decide +kernel)
  · refine e_L 1 (f' := (7, [(0, .retAddr 3)], [.retAddr 3])) rfl ?_
    refine e_gS (w := .int (0 : Int32)) rfl (by decide) rfl rfl ?_
    refine e_L 1 (f' := (14, [(0, .retAddr 3)], [.int (0 : Int32)])) rfl ?_
    exact e_rB rfl rfl (by decide +kernel)
set_option maxRecDepth 100000 in
set_option maxHeartbeats 4000000 in
theorem le_J0_isLatin1_aae02 (en : pN) (d : Nat) (s : qS) : qle (if (1 : Int32) = (0 : Int32) then some (some (.int (0 : Int32)), s) else if ¬ (0 : Int32) = (0 : Int32) then some (some (.int (0 : Int32)), s) else some (some (.int (1 : Int32)), s)) (qev en (d + 1) 418 [.retAddr 3] s) := by
  refine e_enter ix_J0_isLatin1_aae02 (Nat.le_of_ble_eq_true rfl) ?_
  show qle _ (qE (qev en d) en (some .boolean) tb_J0_isLatin1_aae02 (0, [(0, .retAddr 3)], []) s)
  refine e_gs (w := .int (1 : Int32)) rfl rfl ?_
  refine e_ifz 17 rfl rfl rfl (fun c1 => ?_) (fun c1 => ?_)
  · refine e_L 1 (f' := (18, [(0, .retAddr 3)], [.int (0 : Int32)])) rfl ?_
    exact e_rZ rfl rfl (by decide)
  · refine e_L 1 (f' := (7, [(0, .retAddr 3)], [.retAddr 3])) rfl ?_
    refine e_gS (w := .int (0 : Int32)) rfl (by decide) rfl rfl ?_
    refine e_ifz 17 rfl rfl rfl (fun c2 => ?_) (fun c2 => ?_)
    · refine e_L 1 (f' := (18, [(0, .retAddr 3)], [.int (0 : Int32)])) rfl ?_
      exact e_rZ rfl rfl (by decide)
    · refine e_L 2 (f' := (18, [(0, .retAddr 3)], [.int (1 : Int32)])) rfl ?_
      exact e_rZ rfl rfl (by decide)
set_option maxRecDepth 100000 in
set_option maxHeartbeats 4000000 in
theorem le_J1_canEncode_9a6ad (en : pN) (d : Nat) (a1 : Int32) (s : qS) : qle (if a1 < (0 : Int32) then some (some (.int (0 : Int32)), s) else if (255 : Int32) < a1 then some (some (.int (0 : Int32)), s) else some (some (.int (1 : Int32)), s)) (qev en (d + 1) 422 [.int a1] s) := by
  refine e_enter ix_J1_canEncode_9a6ad (Nat.le_of_ble_eq_true rfl) ?_
  show qle _ (qE (qev en d) en (some .boolean) tb_J1_canEncode_9a6ad (0, [(0, .int a1)], []) s)
  refine e_L 1 (f' := (1, [(0, .int a1)], [.int a1])) rfl ?_
  refine e_ifz 15 rfl rfl rfl (fun c1 => ?_) (fun c1 => ?_)
  · refine e_L 1 (f' := (16, [(0, .int a1)], [.int (0 : Int32)])) rfl ?_
    exact e_rZ rfl rfl (by decide)
  · refine e_L 2 (f' := (8, [(0, .int a1)], [.int (255 : Int32), .int a1])) rfl ?_
    refine e_icmp 15 rfl rfl rfl (fun c2 => ?_) (fun c2 => ?_)
    · refine e_L 1 (f' := (16, [(0, .int a1)], [.int (0 : Int32)])) rfl ?_
      exact e_rZ rfl rfl (by decide)
    · refine e_L 2 (f' := (16, [(0, .int a1)], [.int (1 : Int32)])) rfl ?_
      exact e_rZ rfl rfl (by decide)
set_option maxRecDepth 100000 in
set_option maxHeartbeats 4000000 in
theorem le_J1_indexOf_4cfef (en : pN) (d : Nat) (a2 : Int32) (a3 : Int32) (a4 : Int32) (s : qS) : qle (bI (qev en d 422 [.int a2] s) (fun w1 s2 => if ¬ w1 = (0 : Int32) then bI (qev en d 411 [.int a3, .int (0 : Int32)] s2) (fun w5 s6 => bI (qev en d 412 [.int a4, .int (16 : Int32)] s6) (fun w8 s9 => if w5 < w8 then bI (qev en d 424 [.retAddr 6, .int a2, .int w5, .int w8] s9) (fun w12 s13 => some (some (.int w12), s13)) else some (some (.int (-1 : Int32)), s9))) else some (some (.int (-1 : Int32)), s2))) (qev en (d + 1) 423 [.retAddr 6, .int a2, .int a3, .int a4] s) := by
  refine e_enter ix_J1_indexOf_4cfef (Nat.le_of_ble_eq_true rfl) ?_
  show qle _ (qE (qev en d) en (some .int) tb_J1_indexOf_4cfef (0, [(0, .retAddr 6), (1, .int a2), (2, .int a3), (3, .int a4)], []) s)
  refine e_L 1 (f' := (1, [(0, .retAddr 6), (1, .int a2), (2, .int a3), (3, .int a4)], [.int a2])) rfl ?_
  refine e_sI 422 rfl rfl rfl ix_J1_canEncode_9a6ad rfl (Nat.le_of_ble_eq_true rfl) (fun w1 s2 e3 => ?_)
  refine e_ifz 9 rfl rfl rfl (fun c4 => ?_) (fun c4 => ?_)
  · refine e_L 2 (f' := (11, [(0, .retAddr 6), (1, .int a2), (2, .int a3), (3, .int a4)], [.int (0 : Int32), .int a3])) rfl ?_
    refine e_sI 411 rfl rfl rfl ix_J9_max_7cf53 rfl (Nat.le_of_ble_eq_true rfl) (fun w5 s6 e7 => ?_)
    refine e_L 3 (f' := (17, [(2, .int w5), (0, .retAddr 6), (1, .int a2), (3, .int a4)], [.retAddr 6, .int a4])) rfl ?_
    refine e_olen (v := (16 : Int32)) rfl rfl (by decide +kernel) ?_
    refine e_sI 412 rfl rfl rfl ix_J9_min_7cf53 rfl (Nat.le_of_ble_eq_true rfl) (fun w8 s9 e10 => ?_)
    refine e_L 3 (f' := (24, [(3, .int w8), (2, .int w5), (0, .retAddr 6), (1, .int a2)], [.int w8, .int w5])) rfl ?_
    refine e_icmp 29 rfl rfl rfl (fun c11 => ?_) (fun c11 => ?_)
    · refine e_L 4 (f' := (33, [(3, .int w8), (2, .int w5), (0, .retAddr 6), (1, .int a2)], [.int w8, .int w5, .int a2, .retAddr 6])) rfl ?_
      refine e_sI 424 rfl rfl rfl ix_J1_indexOfChar_4cfef rfl (Nat.le_of_ble_eq_true rfl) (fun w12 s13 e14 => ?_)
      exact e_rI rfl rfl
    · refine e_L 1 (f' := (28, [(3, .int w8), (2, .int w5), (0, .retAddr 6), (1, .int a2)], [.int (-1 : Int32)])) rfl ?_
      exact e_rI rfl rfl
  · refine e_L 1 (f' := (8, [(0, .retAddr 6), (1, .int a2), (2, .int a3), (3, .int a4)], [.int (-1 : Int32)])) rfl ?_
    exact e_rI rfl rfl
noncomputable def L_J1_indexOfChar_4cfef_7 (en : pN) (d : Nat) (v3 : Int32) (v4 : Int32) (v5 : Int32) (s : qS) : Option qR := qE (qev en d) en (some .int) tb_J1_indexOfChar_4cfef (7, [(0, .retAddr 6), (3, .int v3), (4, .int v4), (5, .int v5)], []) s
set_option maxRecDepth 100000 in
set_option maxHeartbeats 4000000 in
theorem le_J1_indexOfChar_4cfef_7 (en : pN) (d : Nat) (v3 : Int32) (v4 : Int32) (v5 : Int32) (s : qS) : qle (if v3 ≤ v5 then some (some (.int (-1 : Int32)), s) else gd (p_inB v5 16 = true) (if ¬ ((stBy 2).getD v5.toNatClampNeg 0) = v4 then L_J1_indexOfChar_4cfef_7 en d v3 v4 (v5 + (1 : Int32)) s else some (some (.int v5), s))) (L_J1_indexOfChar_4cfef_7 en d v3 v4 v5 s) := by
  show qle _ (qE (qev en d) en (some .int) tb_J1_indexOfChar_4cfef (7, [(0, .retAddr 6), (3, .int v3), (4, .int v4), (5, .int v5)], []) s)
  refine e_L 2 (f' := (10, [(0, .retAddr 6), (3, .int v3), (4, .int v4), (5, .int v5)], [.int v3, .int v5])) rfl ?_
  refine e_icmp 31 rfl rfl rfl (fun c1 => ?_) (fun c1 => ?_)
  · refine e_L 1 (f' := (32, [(0, .retAddr 6), (3, .int v3), (4, .int v4), (5, .int v5)], [.int (-1 : Int32)])) rfl ?_
    exact e_rI rfl rfl
  · refine e_L 2 (f' := (16, [(0, .retAddr 6), (3, .int v3), (4, .int v4), (5, .int v5)], [.int v5, .retAddr 6])) rfl ?_
    refine qle_gd fun h2 => ?_
    refine e_obal (n := 16) (f := (fun j => (stBy 2).getD j 0)) rfl rfl h2 ?_
    refine e_L 1 (f' := (19, [(0, .retAddr 6), (3, .int v3), (4, .int v4), (5, .int v5)], [.int v4, .int ((stBy 2).getD v5.toNatClampNeg 0)])) rfl ?_
    refine e_icmp 25 rfl rfl rfl (fun c3 => ?_) (fun c3 => ?_)
    · refine e_L 2 (f' := (7, [(5, .int (v5 + (1 : Int32))), (0, .retAddr 6), (3, .int v3), (4, .int v4)], [])) rfl ?_
      exact qE_sub (qsubL [1, 2, 3, 0] rfl (ks := [5, 0, 3, 4]) rfl (by decide))
    · refine e_L 1 (f' := (24, [(0, .retAddr 6), (3, .int v3), (4, .int v4), (5, .int v5)], [.int v5])) rfl ?_
      exact e_rI rfl rfl
set_option maxRecDepth 100000 in
set_option maxHeartbeats 4000000 in
theorem le_J1_indexOfChar_4cfef (en : pN) (d : Nat) (a2 : Int32) (a3 : Int32) (a4 : Int32) (s : qS) : qle (L_J1_indexOfChar_4cfef_7 en d a4 a2.toInt8.toInt32 a3 s) (qev en (d + 1) 424 [.retAddr 6, .int a2, .int a3, .int a4] s) := by
  refine e_enter ix_J1_indexOfChar_4cfef (Nat.le_of_ble_eq_true rfl) ?_
  show qle _ (qE (qev en d) en (some .int) tb_J1_indexOfChar_4cfef (0, [(0, .retAddr 6), (1, .int a2), (2, .int a3), (3, .int a4)], []) s)
  refine e_L 5 (f' := (7, [(5, .int a3), (4, .int a2.toInt8.toInt32), (0, .retAddr 6), (1, .int a2), (2, .int a3), (3, .int a4)], [])) rfl ?_
  exact qE_sub (qsubL [2, 5, 1, 0] rfl (ks := [5, 4, 0, 1, 2, 3]) rfl (by decide))
noncomputable def L_J7_fill_d0a16_6 (en : pN) (d : Nat) (r0 : Nat) (v1 : Int64) (v3 : Int32) (v4 : Int32) (s : qS) : Option qR := qE (qev en d) en none tb_J7_fill_d0a16 (6, [(0, .ref r0), (1, .long v1), (3, .int v3), (4, .int v4)], []) s
set_option maxRecDepth 100000 in
set_option maxHeartbeats 4000000 in
theorem le_J7_fill_d0a16_6 (en : pN) (d : Nat) (r0 : Nat) (v1 : Int64) (v3 : Int32) (v4 : Int32) (s : qS) : qle (gd (lc r0 = 21) (if v4 ≤ v3 then some (none, s) else gd (p_inB v3 (ln r0) = true) (nm (uJ s r0 (v3.toNatClampNeg) v1) (fun s3 => L_J7_fill_d0a16_6 en d r0 v1 (v3 + (1 : Int32)) v4 s3)))) (L_J7_fill_d0a16_6 en d r0 v1 v3 v4 s) := by
  show qle _ (qE (qev en d) en none tb_J7_fill_d0a16 (6, [(0, .ref r0), (1, .long v1), (3, .int v3), (4, .int v4)], []) s)
  refine qle_gd fun h_r0 => ?_
  refine e_L 2 (f' := (9, [(0, .ref r0), (1, .long v1), (3, .int v3), (4, .int v4)], [.int v4, .int v3])) rfl ?_
  refine e_icmp 22 rfl rfl rfl (fun c1 => ?_) (fun c1 => ?_)
  · exact e_rV rfl rfl
  · refine e_L 3 (f' := (15, [(0, .ref r0), (1, .long v1), (3, .int v3), (4, .int v4)], [.long v1, .int v3, .ref r0])) rfl ?_
    refine qle_gd fun h2 => ?_
    refine e_las (n := (ln r0)) (k := v3.toNatClampNeg) rfl h_r0 rfl h2 rfl ?_
    refine e_nS fun s3 => ?_
    refine e_L 2 (f' := (6, [(3, .int (v3 + (1 : Int32))), (0, .ref r0), (1, .long v1), (4, .int v4)], [])) rfl ?_
    exact qE_sub (qsubL [1, 2, 0, 3] rfl (ks := [3, 0, 1, 4]) rfl (by decide))
set_option maxRecDepth 100000 in
set_option maxHeartbeats 4000000 in
theorem le_J7_fill_d0a16 (en : pN) (d : Nat) (a1 : Nat) (a2 : Int64) (s : qS) : qle (gd (lc a1 = 21) (L_J7_fill_d0a16_6 en d a1 a2 (0 : Int32) (Int32.ofNat (ln a1)) s)) (qev en (d + 1) 434 [.ref a1, .long a2] s) := by
  refine e_enter ix_J7_fill_d0a16 (Nat.le_of_ble_eq_true rfl) ?_
  show qle _ (qE (qev en d) en none tb_J7_fill_d0a16 (0, [(0, .ref a1), (1, .long a2)], []) s)
  refine qle_gd fun h_a1 => ?_
  refine e_L 3 (f' := (3, [(3, .int (0 : Int32)), (0, .ref a1), (1, .long a2)], [.ref a1])) rfl ?_
  refine e_alen (v := (Int32.ofNat (ln a1))) rfl (by rw [h_a1]; decide) rfl ?_
  refine e_L 1 (f' := (6, [(4, .int (Int32.ofNat (ln a1))), (3, .int (0 : Int32)), (0, .ref a1), (1, .long a2)], [])) rfl ?_
  exact qE_sub (qsubL [2, 3, 1, 0] rfl (ks := [4, 3, 0, 1]) rfl (by decide))
noncomputable def L_J7_fill_53178_5 (en : pN) (d : Nat) (r0 : Nat) (v1 : Int32) (v2 : Int32) (v3 : Int32) (s : qS) : Option qR := qE (qev en d) en none tb_J7_fill_53178 (5, [(0, .ref r0), (1, .int v1), (2, .int v2), (3, .int v3)], []) s
set_option maxRecDepth 100000 in
set_option maxHeartbeats 4000000 in
theorem le_J7_fill_53178_5 (en : pN) (d : Nat) (r0 : Nat) (v1 : Int32) (v2 : Int32) (v3 : Int32) (s : qS) : qle (gd (lc r0 = 20) (if v3 ≤ v2 then some (none, s) else gd (p_inB v2 (ln r0) = true) (nm (uI s r0 (v2.toNatClampNeg) v1) (fun s3 => L_J7_fill_53178_5 en d r0 v1 (v2 + (1 : Int32)) v3 s3)))) (L_J7_fill_53178_5 en d r0 v1 v2 v3 s) := by
  show qle _ (qE (qev en d) en none tb_J7_fill_53178 (5, [(0, .ref r0), (1, .int v1), (2, .int v2), (3, .int v3)], []) s)
  refine qle_gd fun h_r0 => ?_
  refine e_L 2 (f' := (7, [(0, .ref r0), (1, .int v1), (2, .int v2), (3, .int v3)], [.int v3, .int v2])) rfl ?_
  refine e_icmp 20 rfl rfl rfl (fun c1 => ?_) (fun c1 => ?_)
  · exact e_rV rfl rfl
  · refine e_L 3 (f' := (13, [(0, .ref r0), (1, .int v1), (2, .int v2), (3, .int v3)], [.int v1, .int v2, .ref r0])) rfl ?_
    refine qle_gd fun h2 => ?_
    refine e_ias (n := (ln r0)) (k := v2.toNatClampNeg) rfl h_r0 rfl h2 rfl ?_
    refine e_nS fun s3 => ?_
    refine e_L 2 (f' := (5, [(2, .int (v2 + (1 : Int32))), (0, .ref r0), (1, .int v1), (3, .int v3)], [])) rfl ?_
    exact qE_sub (qsubL [1, 2, 0, 3] rfl (ks := [2, 0, 1, 3]) rfl (by decide))
set_option maxRecDepth 100000 in
set_option maxHeartbeats 4000000 in
theorem le_J7_fill_53178 (en : pN) (d : Nat) (a1 : Nat) (a2 : Int32) (s : qS) : qle (gd (lc a1 = 20) (L_J7_fill_53178_5 en d a1 a2 (0 : Int32) (Int32.ofNat (ln a1)) s)) (qev en (d + 1) 435 [.ref a1, .int a2] s) := by
  refine e_enter ix_J7_fill_53178 (Nat.le_of_ble_eq_true rfl) ?_
  show qle _ (qE (qev en d) en none tb_J7_fill_53178 (0, [(0, .ref a1), (1, .int a2)], []) s)
  refine qle_gd fun h_a1 => ?_
  refine e_L 3 (f' := (3, [(2, .int (0 : Int32)), (0, .ref a1), (1, .int a2)], [.ref a1])) rfl ?_
  refine e_alen (v := (Int32.ofNat (ln a1))) rfl (by rw [h_a1]; decide) rfl ?_
  refine e_L 1 (f' := (5, [(3, .int (Int32.ofNat (ln a1))), (2, .int (0 : Int32)), (0, .ref a1), (1, .int a2)], [])) rfl ?_
  exact qE_sub (qsubL [2, 3, 1, 0] rfl (ks := [3, 2, 0, 1]) rfl (by decide))
