/-! what methods do, printed by program out of their tables: X12_feed .. -/
noncomputable def L_X12_feed_19 (en : pN) (d : Nat) (v1 : Int32) (v2 : Int32) (v3 : Int32) (v4 : Int32) (v5 : Int32) (v6 : Int32) (s : qS) : Option qR := qE (qev en d) en (some .int) tb_X12_feed (19, [(0, .ref 151), (1, .int v1), (2, .int v2), (3, .int v3), (4, .int v4), (5, .int v5), (6, .int v6)], []) s
noncomputable def L_X12_feed_72 (en : pN) (d : Nat) (v1 : Int32) (v2 : Int32) (v3 : Int32) (v4 : Int32) (v5 : Int32) (v6 : Int32) (vs0 : Int32) (s : qS) : Option qR := qE (qev en d) en (some .int) tb_X12_feed (72, [(0, .ref 151), (1, .int v1), (2, .int v2), (3, .int v3), (4, .int v4), (5, .int v5), (6, .int v6)], [.int vs0]) s
set_option maxRecDepth 100000 in
set_option maxHeartbeats 4000000 in
theorem le_X12_feed_19 (en : pN) (d : Nat) (v1 : Int32) (v2 : Int32) (v3 : Int32) (v4 : Int32) (v5 : Int32) (v6 : Int32) (s : qS) : qle (if (20 : Int32) ≤ v6 then some (some (.int (s.1 151 1)), s) else if (4 : Int32) ≤ v6 then if (8 : Int32) ≤ v6 then if (12 : Int32) ≤ v6 then if (16 : Int32) ≤ v6 then L_X12_feed_72 en d v1 v2 v3 v4 v5 v6 v5 s else L_X12_feed_72 en d v1 v2 v3 v4 v5 v6 v4 s else L_X12_feed_72 en d v1 v2 v3 v4 v5 v6 v3 s else L_X12_feed_72 en d v1 v2 v3 v4 v5 v6 v2 s else L_X12_feed_72 en d v1 v2 v3 v4 v5 v6 v1 s) (L_X12_feed_19 en d v1 v2 v3 v4 v5 v6 s) := by
  show qle _ (qE (qev en d) en (some .int) tb_X12_feed (19, [(0, .ref 151), (1, .int v1), (2, .int v2), (3, .int v3), (4, .int v4), (5, .int v5), (6, .int v6)], []) s)
  refine e_L 2 (f' := (23, [(0, .ref 151), (1, .int v1), (2, .int v2), (3, .int v3), (4, .int v4), (5, .int v5), (6, .int v6)], [.int (20 : Int32), .int v6])) rfl ?_
  refine e_icmp 116 rfl rfl rfl (fun c1 => ?_) (fun c1 => ?_)
  · refine e_L 1 (f' := (117, [(0, .ref 151), (1, .int v1), (2, .int v2), (3, .int v3), (4, .int v4), (5, .int v5), (6, .int v6)], [.ref 151])) rfl ?_
    refine e_gI 12 1 rfl rfl lc_151 ?_
    exact e_rI rfl rfl
  · refine e_L 2 (f' := (29, [(0, .ref 151), (1, .int v1), (2, .int v2), (3, .int v3), (4, .int v4), (5, .int v5), (6, .int v6)], [.int (4 : Int32), .int v6])) rfl ?_
    refine e_icmp 36 rfl rfl rfl (fun c2 => ?_) (fun c2 => ?_)
    · refine e_L 2 (f' := (40, [(0, .ref 151), (1, .int v1), (2, .int v2), (3, .int v3), (4, .int v4), (5, .int v5), (6, .int v6)], [.int (8 : Int32), .int v6])) rfl ?_
      refine e_icmp 47 rfl rfl rfl (fun c3 => ?_) (fun c3 => ?_)
      · refine e_L 2 (f' := (51, [(0, .ref 151), (1, .int v1), (2, .int v2), (3, .int v3), (4, .int v4), (5, .int v5), (6, .int v6)], [.int (12 : Int32), .int v6])) rfl ?_
        refine e_icmp 58 rfl rfl rfl (fun c4 => ?_) (fun c4 => ?_)
        · refine e_L 2 (f' := (62, [(0, .ref 151), (1, .int v1), (2, .int v2), (3, .int v3), (4, .int v4), (5, .int v5), (6, .int v6)], [.int (16 : Int32), .int v6])) rfl ?_
          refine e_icmp 70 rfl rfl rfl (fun c5 => ?_) (fun c5 => ?_)
          · refine e_L 1 (f' := (72, [(0, .ref 151), (1, .int v1), (2, .int v2), (3, .int v3), (4, .int v4), (5, .int v5), (6, .int v6)], [.int v5])) rfl ?_
            exact qE_sub (qsubL [0, 1, 2, 3, 4, 5, 6] rfl (ks := [0, 1, 2, 3, 4, 5, 6]) rfl (by decide))
          · refine e_L 2 (f' := (72, [(0, .ref 151), (1, .int v1), (2, .int v2), (3, .int v3), (4, .int v4), (5, .int v5), (6, .int v6)], [.int v4])) rfl ?_
            exact qE_sub (qsubL [0, 1, 2, 3, 4, 5, 6] rfl (ks := [0, 1, 2, 3, 4, 5, 6]) rfl (by decide))
        · refine e_L 2 (f' := (72, [(0, .ref 151), (1, .int v1), (2, .int v2), (3, .int v3), (4, .int v4), (5, .int v5), (6, .int v6)], [.int v3])) rfl ?_
          exact qE_sub (qsubL [0, 1, 2, 3, 4, 5, 6] rfl (ks := [0, 1, 2, 3, 4, 5, 6]) rfl (by decide))
      · refine e_L 2 (f' := (72, [(0, .ref 151), (1, .int v1), (2, .int v2), (3, .int v3), (4, .int v4), (5, .int v5), (6, .int v6)], [.int v2])) rfl ?_
        exact qE_sub (qsubL [0, 1, 2, 3, 4, 5, 6] rfl (ks := [0, 1, 2, 3, 4, 5, 6]) rfl (by decide))
    · refine e_L 2 (f' := (72, [(0, .ref 151), (1, .int v1), (2, .int v2), (3, .int v3), (4, .int v4), (5, .int v5), (6, .int v6)], [.int v1])) rfl ?_
      exact qE_sub (qsubL [0, 1, 2, 3, 4, 5, 6] rfl (ks := [0, 1, 2, 3, 4, 5, 6]) rfl (by decide))
set_option maxRecDepth 100000 in
set_option maxHeartbeats 4000000 in
theorem le_X12_feed_72 (en : pN) (d : Nat) (v1 : Int32) (v2 : Int32) (v3 : Int32) (v4 : Int32) (v5 : Int32) (v6 : Int32) (vs0 : Int32) (s : qS) : qle (gd (p_inB (s.1 151 1) 4000 = true) (nm (uI s 152 ((s.1 151 1).toNatClampNeg) ((vs0 >>> (((24 : Int32) - ((8 : Int32) * (v6 - v6 / (4 : Int32) * (4 : Int32)))) &&& 31)) &&& (255 : Int32))) (fun s2 => nm (uI s2 151 1 ((s2.1 151 1) + (1 : Int32))) (fun s3 => L_X12_feed_19 en d v1 v2 v3 v4 v5 (v6 + (1 : Int32)) s3)))) (L_X12_feed_72 en d v1 v2 v3 v4 v5 v6 vs0 s) := by
  show qle _ (qE (qev en d) en (some .int) tb_X12_feed (72, [(0, .ref 151), (1, .int v1), (2, .int v2), (3, .int v3), (4, .int v4), (5, .int v5), (6, .int v6)], [.int vs0]) s)
  refine e_L 2 (f' := (75, [(7, .int vs0), (0, .ref 151), (1, .int v1), (2, .int v2), (3, .int v3), (4, .int v4), (5, .int v5), (6, .int v6)], [.ref 151])) rfl ?_
  refine e_gR (q := 152) 12 0 rfl rfl lc_151 lr_151_0 ?_
  refine e_L 1 (f' := (79, [(7, .int vs0), (0, .ref 151), (1, .int v1), (2, .int v2), (3, .int v3), (4, .int v4), (5, .int v5), (6, .int v6)], [.ref 151, .ref 152])) rfl ?_
  refine e_gI 12 1 rfl rfl lc_151 ?_
  refine e_L 5 (f' := (91, [(7, .int vs0), (0, .ref 151), (1, .int v1), (2, .int v2), (3, .int v3), (4, .int v4), (5, .int v5), (6, .int v6)], [.int (4 : Int32), .int v6, .int (8 : Int32), .int (24 : Int32), .int vs0, .int (s.1 151 1), .ref 152])) rfl ?_
  refine e_rem rfl (by decide) ?_
  refine e_L 5 (f' := (99, [(7, .int vs0), (0, .ref 151), (1, .int v1), (2, .int v2), (3, .int v3), (4, .int v4), (5, .int v5), (6, .int v6)], [.int ((vs0 >>> (((24 : Int32) - ((8 : Int32) * (v6 - v6 / (4 : Int32) * (4 : Int32)))) &&& 31)) &&& (255 : Int32)), .int (s.1 151 1), .ref 152])) rfl ?_
  refine qle_gd fun h1 => ?_
  refine e_ias (n := 4000) (k := (s.1 151 1).toNatClampNeg) rfl lc_152 ln_152 h1 rfl ?_
  refine e_nS fun s2 => ?_
  refine e_L 2 (f' := (102, [(7, .int vs0), (0, .ref 151), (1, .int v1), (2, .int v2), (3, .int v3), (4, .int v4), (5, .int v5), (6, .int v6)], [.ref 151, .ref 151])) rfl ?_
  refine e_gI 12 1 rfl rfl lc_151 ?_
  refine e_L 2 (f' := (107, [(7, .int vs0), (0, .ref 151), (1, .int v1), (2, .int v2), (3, .int v3), (4, .int v4), (5, .int v5), (6, .int v6)], [.int ((s2.1 151 1) + (1 : Int32)), .ref 151])) rfl ?_
  refine e_pI 12 1 rfl rfl lc_151 rfl ?_
  refine e_nS fun s3 => ?_
  refine e_L 2 (f' := (19, [(6, .int (v6 + (1 : Int32))), (7, .int vs0), (0, .ref 151), (1, .int v1), (2, .int v2), (3, .int v3), (4, .int v4), (5, .int v5)], [])) rfl ?_
  exact qE_sub (qsubL [2, 3, 4, 5, 6, 7, 0] rfl (ks := [6, 7, 0, 1, 2, 3, 4, 5]) rfl (by decide))
set_option maxRecDepth 100000 in
set_option maxHeartbeats 4000000 in
theorem le_X12_feed (en : pN) (d : Nat) (a1 : Int32) (a2 : Int32) (a3 : Int32) (a4 : Int32) (a5 : Int32) (s : qS) : qle (if ((s.1 151 1) + (20 : Int32)) ≤ (4000 : Int32) then L_X12_feed_19 en d a1 a2 a3 a4 a5 (0 : Int32) s else some (some (.int (-3 : Int32)), s)) (qev en (d + 1) 241 [.ref 151, .int a1, .int a2, .int a3, .int a4, .int a5] s) := by
  refine e_enter ix_X12_feed (Nat.le_of_ble_eq_true rfl) ?_
  show qle _ (qE (qev en d) en (some .int) tb_X12_feed (0, [(0, .ref 151), (1, .int a1), (2, .int a2), (3, .int a3), (4, .int a4), (5, .int a5)], []) s)
  refine e_L 1 (f' := (1, [(0, .ref 151), (1, .int a1), (2, .int a2), (3, .int a3), (4, .int a4), (5, .int a5)], [.ref 151])) rfl ?_
  refine e_gI 12 1 rfl rfl lc_151 ?_
  refine e_L 3 (f' := (10, [(0, .ref 151), (1, .int a1), (2, .int a2), (3, .int a3), (4, .int a4), (5, .int a5)], [.int (4000 : Int32), .int ((s.1 151 1) + (20 : Int32))])) rfl ?_
  refine e_icmp 16 rfl rfl rfl (fun c1 => ?_) (fun c1 => ?_)
  · refine e_L 2 (f' := (19, [(6, .int (0 : Int32)), (0, .ref 151), (1, .int a1), (2, .int a2), (3, .int a3), (4, .int a4), (5, .int a5)], [])) rfl ?_
    exact qE_sub (qsubL [1, 2, 3, 4, 5, 6, 0] rfl (ks := [6, 0, 1, 2, 3, 4, 5]) rfl (by decide))
  · refine e_L 1 (f' := (15, [(0, .ref 151), (1, .int a1), (2, .int a2), (3, .int a3), (4, .int a4), (5, .int a5)], [.int (-3 : Int32)])) rfl ?_
    exact e_rI rfl rfl
set_option maxRecDepth 100000 in
set_option maxHeartbeats 4000000 in
theorem le_X12_end (en : pN) (d : Nat) (a1 : Int32) (s : qS) : qle (if a1 < (0 : Int32) then some (some (.int (-1 : Int32)), s) else if (20 : Int32) < a1 then some (some (.int (-1 : Int32)), s) else if (20 : Int32) ≤ (s.1 151 1) then nm (uI s 151 1 ((s.1 151 1) - ((20 : Int32) - a1))) (fun s4 => some (some (.int (s4.1 151 1)), s4)) else some (some (.int (-1 : Int32)), s)) (qev en (d + 1) 242 [.ref 151, .int a1] s) := by
  refine e_enter ix_X12_end (Nat.le_of_ble_eq_true rfl) ?_
  show qle _ (qE (qev en d) en (some .int) tb_X12_end (0, [(0, .ref 151), (1, .int a1)], []) s)
  refine e_L 1 (f' := (1, [(0, .ref 151), (1, .int a1)], [.int a1])) rfl ?_
  refine e_ifz 19 rfl rfl rfl (fun c1 => ?_) (fun c1 => ?_)
  · refine e_L 1 (f' := (20, [(0, .ref 151), (1, .int a1)], [.int (-1 : Int32)])) rfl ?_
    exact e_rI rfl rfl
  · refine e_L 2 (f' := (7, [(0, .ref 151), (1, .int a1)], [.int (20 : Int32), .int a1])) rfl ?_
    refine e_icmp 19 rfl rfl rfl (fun c2 => ?_) (fun c2 => ?_)
    · refine e_L 1 (f' := (20, [(0, .ref 151), (1, .int a1)], [.int (-1 : Int32)])) rfl ?_
      exact e_rI rfl rfl
    · refine e_L 1 (f' := (11, [(0, .ref 151), (1, .int a1)], [.ref 151])) rfl ?_
      refine e_gI 12 1 rfl rfl lc_151 ?_
      refine e_L 1 (f' := (16, [(0, .ref 151), (1, .int a1)], [.int (20 : Int32), .int (s.1 151 1)])) rfl ?_
      refine e_icmp 21 rfl rfl rfl (fun c3 => ?_) (fun c3 => ?_)
      · refine e_L 2 (f' := (23, [(0, .ref 151), (1, .int a1)], [.ref 151, .ref 151])) rfl ?_
        refine e_gI 12 1 rfl rfl lc_151 ?_
        refine e_L 4 (f' := (31, [(0, .ref 151), (1, .int a1)], [.int ((s.1 151 1) - ((20 : Int32) - a1)), .ref 151])) rfl ?_
        refine e_pI 12 1 rfl rfl lc_151 rfl ?_
        refine e_nS fun s4 => ?_
        refine e_L 1 (f' := (35, [(0, .ref 151), (1, .int a1)], [.ref 151])) rfl ?_
        refine e_gI 12 1 rfl rfl lc_151 ?_
        exact e_rI rfl rfl
      · refine e_L 1 (f' := (20, [(0, .ref 151), (1, .int a1)], [.int (-1 : Int32)])) rfl ?_
        exact e_rI rfl rfl
set_option maxRecDepth 100000 in
set_option maxHeartbeats 4000000 in
theorem le_X12_good (en : pN) (d : Nat) (s : qS) : qle (if ¬ (s.1 151 7) = (0 : Int32) then some (some (.int (0 : Int32)), s) else some (some (.int (1 : Int32)), s)) (qev en (d + 1) 243 [.ref 151] s) := by
  refine e_enter ix_X12_good (Nat.le_of_ble_eq_true rfl) ?_
  show qle _ (qE (qev en d) en (some .boolean) tb_X12_good (0, [(0, .ref 151)], []) s)
  refine e_L 1 (f' := (1, [(0, .ref 151)], [.ref 151])) rfl ?_
  refine e_gI 12 7 rfl rfl lc_151 ?_
  refine e_ifz 11 rfl rfl rfl (fun c1 => ?_) (fun c1 => ?_)
  · refine e_L 1 (f' := (12, [(0, .ref 151)], [.int (0 : Int32)])) rfl ?_
    exact e_rZ rfl rfl (by decide)
  · refine e_L 2 (f' := (12, [(0, .ref 151)], [.int (1 : Int32)])) rfl ?_
    exact e_rZ rfl rfl (by decide)
set_option maxRecDepth 100000 in
set_option maxHeartbeats 4000000 in
theorem le_X12_fail (en : pN) (d : Nat) (a1 : Int32) (a2 : Int32) (s : qS) : qle (if ¬ (s.1 151 7) = (0 : Int32) then some (none, s) else nm (uI s 151 7 a1) (fun s2 => nm (uI s2 151 8 a2) (fun s3 => some (none, s3)))) (qev en (d + 1) 244 [.ref 151, .int a1, .int a2] s) := by
  refine e_enter ix_X12_fail (Nat.le_of_ble_eq_true rfl) ?_
  show qle _ (qE (qev en d) en none tb_X12_fail (0, [(0, .ref 151), (1, .int a1), (2, .int a2)], []) s)
  refine e_L 1 (f' := (1, [(0, .ref 151), (1, .int a1), (2, .int a2)], [.ref 151])) rfl ?_
  refine e_gI 12 7 rfl rfl lc_151 ?_
  refine e_ifz 17 rfl rfl rfl (fun c1 => ?_) (fun c1 => ?_)
  · exact e_rV rfl rfl
  · refine e_L 2 (f' := (9, [(0, .ref 151), (1, .int a1), (2, .int a2)], [.int a1, .ref 151])) rfl ?_
    refine e_pI 12 7 rfl rfl lc_151 rfl ?_
    refine e_nS fun s2 => ?_
    refine e_L 2 (f' := (14, [(0, .ref 151), (1, .int a1), (2, .int a2)], [.int a2, .ref 151])) rfl ?_
    refine e_pI 12 8 rfl rfl lc_151 rfl ?_
    refine e_nS fun s3 => ?_
    exact e_rV rfl rfl
set_option maxRecDepth 100000 in
set_option maxHeartbeats 4000000 in
theorem le_X12_need (en : pN) (d : Nat) (a1 : Int32) (a2 : Int32) (s : qS) : qle (if ¬ a1 = (0 : Int32) then some (none, s) else bV (qev en d 244 [.ref 151, .int a2, .int (s.1 151 4)] s) (fun s3 => some (none, s3))) (qev en (d + 1) 245 [.ref 151, .int a1, .int a2] s) := by
  refine e_enter ix_X12_need (Nat.le_of_ble_eq_true rfl) ?_
  show qle _ (qE (qev en d) en none tb_X12_need (0, [(0, .ref 151), (1, .int a1), (2, .int a2)], []) s)
  refine e_L 1 (f' := (1, [(0, .ref 151), (1, .int a1), (2, .int a2)], [.int a1])) rfl ?_
  refine e_ifz 13 rfl rfl rfl (fun c1 => ?_) (fun c1 => ?_)
  · exact e_rV rfl rfl
  · refine e_L 3 (f' := (7, [(0, .ref 151), (1, .int a1), (2, .int a2)], [.ref 151, .int a2, .ref 151])) rfl ?_
    refine e_gI 12 4 rfl rfl lc_151 ?_
    refine e_vV 244 rfl rfl ix_X12_fail rfl (q_recvOf lc_151 rfl) (Nat.le_of_ble_eq_true rfl) (fun s3 e4 => ?_)
    exact e_rV rfl rfl
noncomputable def L_X12_isLetter_12 (en : pN) (d : Nat) (v0 : Int32) (s : qS) : Option qR := qE (qev en d) en (some .boolean) tb_X12_isLetter (12, [(0, .int v0)], []) s
set_option maxRecDepth 100000 in
set_option maxHeartbeats 4000000 in
theorem le_X12_isLetter_12 (en : pN) (d : Nat) (v0 : Int32) (s : qS) : qle (if v0 < (65 : Int32) then some (some (.int (0 : Int32)), s) else if (90 : Int32) < v0 then some (some (.int (0 : Int32)), s) else some (some (.int (1 : Int32)), s)) (L_X12_isLetter_12 en d v0 s) := by
  show qle _ (qE (qev en d) en (some .boolean) tb_X12_isLetter (12, [(0, .int v0)], []) s)
  refine e_L 2 (f' := (15, [(0, .int v0)], [.int (65 : Int32), .int v0])) rfl ?_
  refine e_icmp 28 rfl rfl rfl (fun c1 => ?_) (fun c1 => ?_)
  · refine e_L 1 (f' := (29, [(0, .int v0)], [.int (0 : Int32)])) rfl ?_
    exact e_rZ rfl rfl (by decide)
  · refine e_L 2 (f' := (21, [(0, .int v0)], [.int (90 : Int32), .int v0])) rfl ?_
    refine e_icmp 28 rfl rfl rfl (fun c2 => ?_) (fun c2 => ?_)
    · refine e_L 1 (f' := (29, [(0, .int v0)], [.int (0 : Int32)])) rfl ?_
      exact e_rZ rfl rfl (by decide)
    · refine e_L 2 (f' := (29, [(0, .int v0)], [.int (1 : Int32)])) rfl ?_
      exact e_rZ rfl rfl (by decide)
set_option maxRecDepth 100000 in
set_option maxHeartbeats 4000000 in
theorem le_X12_isLetter (en : pN) (d : Nat) (a1 : Int32) (s : qS) : qle (if a1 < (97 : Int32) then L_X12_isLetter_12 en d a1 s else if a1 ≤ (122 : Int32) then some (some (.int (1 : Int32)), s) else L_X12_isLetter_12 en d a1 s) (qev en (d + 1) 246 [.int a1] s) := by
  refine e_enter ix_X12_isLetter (Nat.le_of_ble_eq_true rfl) ?_
  show qle _ (qE (qev en d) en (some .boolean) tb_X12_isLetter (0, [(0, .int a1)], []) s)
  refine e_L 2 (f' := (3, [(0, .int a1)], [.int (97 : Int32), .int a1])) rfl ?_
  refine e_icmp 12 rfl rfl rfl (fun c1 => ?_) (fun c1 => ?_)
  · exact qE_sub (qsubL [0] rfl (ks := [0]) rfl (by decide))
  · refine e_L 2 (f' := (9, [(0, .int a1)], [.int (122 : Int32), .int a1])) rfl ?_
    refine e_icmp 24 rfl rfl rfl (fun c2 => ?_) (fun c2 => ?_)
    · refine e_L 2 (f' := (29, [(0, .int a1)], [.int (1 : Int32)])) rfl ?_
      exact e_rZ rfl rfl (by decide)
    · exact qE_sub (qsubL [0] rfl (ks := [0]) rfl (by decide))
set_option maxRecDepth 100000 in
set_option maxHeartbeats 4000000 in
theorem le_X12_isFigure (en : pN) (d : Nat) (a1 : Int32) (s : qS) : qle (if a1 < (48 : Int32) then some (some (.int (0 : Int32)), s) else if (57 : Int32) < a1 then some (some (.int (0 : Int32)), s) else some (some (.int (1 : Int32)), s)) (qev en (d + 1) 247 [.int a1] s) := by
  refine e_enter ix_X12_isFigure (Nat.le_of_ble_eq_true rfl) ?_
  show qle _ (qE (qev en d) en (some .boolean) tb_X12_isFigure (0, [(0, .int a1)], []) s)
  refine e_L 2 (f' := (3, [(0, .int a1)], [.int (48 : Int32), .int a1])) rfl ?_
  refine e_icmp 16 rfl rfl rfl (fun c1 => ?_) (fun c1 => ?_)
  · refine e_L 1 (f' := (17, [(0, .int a1)], [.int (0 : Int32)])) rfl ?_
    exact e_rZ rfl rfl (by decide)
  · refine e_L 2 (f' := (9, [(0, .int a1)], [.int (57 : Int32), .int a1])) rfl ?_
    refine e_icmp 16 rfl rfl rfl (fun c2 => ?_) (fun c2 => ?_)
    · refine e_L 1 (f' := (17, [(0, .int a1)], [.int (0 : Int32)])) rfl ?_
      exact e_rZ rfl rfl (by decide)
    · refine e_L 2 (f' := (17, [(0, .int a1)], [.int (1 : Int32)])) rfl ?_
      exact e_rZ rfl rfl (by decide)
set_option maxRecDepth 100000 in
set_option maxHeartbeats 4000000 in
theorem le_X12_byteAt (en : pN) (d : Nat) (a1 : Int32) (s : qS) : qle (if (s.1 151 1) ≤ a1 then some (some (.int (0 : Int32)), s) else gd (p_inB a1 4000 = true) (some (some (.int (s.1 152 a1.toNatClampNeg)), s))) (qev en (d + 1) 248 [.ref 151, .int a1] s) := by
  refine e_enter ix_X12_byteAt (Nat.le_of_ble_eq_true rfl) ?_
  show qle _ (qE (qev en d) en (some .int) tb_X12_byteAt (0, [(0, .ref 151), (1, .int a1)], []) s)
  refine e_L 2 (f' := (2, [(0, .ref 151), (1, .int a1)], [.ref 151, .int a1])) rfl ?_
  refine e_gI 12 1 rfl rfl lc_151 ?_
  refine e_icmp 17 rfl rfl rfl (fun c1 => ?_) (fun c1 => ?_)
  · refine e_L 1 (f' := (18, [(0, .ref 151), (1, .int a1)], [.int (0 : Int32)])) rfl ?_
    exact e_rI rfl rfl
  · refine e_L 1 (f' := (9, [(0, .ref 151), (1, .int a1)], [.ref 151])) rfl ?_
    refine e_gR (q := 152) 12 0 rfl rfl lc_151 lr_151_0 ?_
    refine e_L 1 (f' := (13, [(0, .ref 151), (1, .int a1)], [.int a1, .ref 152])) rfl ?_
    refine qle_gd fun h2 => ?_
    refine e_ial (n := 4000) (k := a1.toNatClampNeg) rfl lc_152 ln_152 h2 rfl ?_
    refine e_L 1 (f' := (18, [(0, .ref 151), (1, .int a1)], [.int (s.1 152 a1.toNatClampNeg)])) rfl ?_
    exact e_rI rfl rfl
noncomputable def L_X12_next_10 (en : pN) (d : Nat) (v1 : Int32) (s : qS) : Option qR := qE (qev en d) en none tb_X12_next (10, [(0, .ref 151), (1, .int v1)], []) s
noncomputable def L_X12_next_70 (en : pN) (d : Nat) (v2 : Int32) (vs0 : Int32) (s : qS) : Option qR := qE (qev en d) en none tb_X12_next (70, [(0, .ref 151), (2, .int v2)], [.int vs0]) s
noncomputable def L_X12_next_77 (en : pN) (d : Nat) (v1 : Int32) (s : qS) : Option qR := qE (qev en d) en none tb_X12_next (77, [(0, .ref 151), (1, .int v1)], []) s
noncomputable def L_X12_next_129 (en : pN) (d : Nat) (v1 : Int32) (vs1 : Int32) (vs2 : Int32) (s : qS) : Option qR := qE (qev en d) en none tb_X12_next (129, [(0, .ref 151), (1, .int v1)], [.int vs2, .int vs1, .ref 151]) s
noncomputable def L_X12_next_136 (en : pN) (d : Nat) (s : qS) : Option qR := qE (qev en d) en none tb_X12_next (136, [(0, .ref 151)], []) s
noncomputable def L_X12_next_185 (en : pN) (d : Nat) (v3 : Int32) (s : qS) : Option qR := qE (qev en d) en none tb_X12_next (185, [(0, .ref 151), (3, .int v3)], []) s
noncomputable def L_X12_next_240 (en : pN) (d : Nat) (v3 : Int32) (s : qS) : Option qR := qE (qev en d) en none tb_X12_next (240, [(0, .ref 151), (3, .int v3)], []) s
noncomputable def L_X12_next_278 (en : pN) (d : Nat) (v3 : Int32) (s : qS) : Option qR := qE (qev en d) en none tb_X12_next (278, [(0, .ref 151), (3, .int v3)], []) s
noncomputable def L_X12_next_290 (en : pN) (d : Nat) (vs1 : Int32) (s : qS) : Option qR := qE (qev en d) en none tb_X12_next (290, [(0, .ref 151)], [.int vs1, .ref 151]) s
noncomputable def L_X12_next_314 (en : pN) (d : Nat) (v3 : Int32) (s : qS) : Option qR := qE (qev en d) en none tb_X12_next (314, [(0, .ref 151), (3, .int v3)], []) s
noncomputable def L_X12_next_370 (en : pN) (d : Nat) (v3 : Int32) (vs1 : Int32) (s : qS) : Option qR := qE (qev en d) en none tb_X12_next (370, [(0, .ref 151), (3, .int v3)], [.int vs1, .ref 151]) s
noncomputable def L_X12_next_389 (en : pN) (d : Nat) (v3 : Int32) (s : qS) : Option qR := qE (qev en d) en none tb_X12_next (389, [(0, .ref 151), (3, .int v3)], []) s
noncomputable def L_X12_next_400 (en : pN) (d : Nat) (vs1 : Int32) (s : qS) : Option qR := qE (qev en d) en none tb_X12_next (400, [(0, .ref 151)], [.int vs1, .ref 151]) s
noncomputable def L_X12_next_436 (en : pN) (d : Nat) (v2 : Int32) (s : qS) : Option qR := qE (qev en d) en none tb_X12_next (436, [(0, .ref 151), (2, .int v2)], []) s
noncomputable def L_X12_next_456 (en : pN) (d : Nat) (v2 : Int32) (vs0 : Int32) (s : qS) : Option qR := qE (qev en d) en none tb_X12_next (456, [(0, .ref 151), (2, .int v2)], [.int vs0]) s
noncomputable def L_X12_next_559 (en : pN) (d : Nat) (v2 : Int32) (v4 : Int32) (vs0 : Int32) (s : qS) : Option qR := qE (qev en d) en none tb_X12_next (559, [(0, .ref 151), (2, .int v2), (4, .int v4)], [.int vs0]) s
noncomputable def L_X12_next_583 (en : pN) (d : Nat) (v4 : Int32) (vs1 : Int32) (s : qS) : Option qR := qE (qev en d) en none tb_X12_next (583, [(0, .ref 151), (4, .int v4)], [.int vs1, .ref 151]) s
noncomputable def L_X12_next_601 (en : pN) (d : Nat) (vs1 : Int32) (vs2 : Int32) (s : qS) : Option qR := qE (qev en d) en none tb_X12_next (601, [], [.int vs2, .int vs1, .ref 151]) s
set_option maxRecDepth 100000 in
set_option maxHeartbeats 4000000 in
theorem le_X12_next_10 (en : pN) (d : Nat) (v1 : Int32) (s : qS) : qle (if (s.1 151 1) ≤ (s.1 151 2) then L_X12_next_136 en d s else if v1 = (0 : Int32) then L_X12_next_136 en d s else gd (p_inB (s.1 151 2) 4000 = true) (nm (s.1 152 (s.1 151 2).toNatClampNeg) (fun z4 => if z4 = (9 : Int32) then L_X12_next_70 en d z4 (1 : Int32) s else if z4 = (10 : Int32) then L_X12_next_70 en d z4 (1 : Int32) s else if z4 = (13 : Int32) then L_X12_next_70 en d z4 (1 : Int32) s else if z4 = (32 : Int32) then L_X12_next_70 en d z4 (1 : Int32) s else if ¬ z4 = (35 : Int32) then L_X12_next_70 en d z4 (0 : Int32) s else L_X12_next_70 en d z4 (1 : Int32) s))) (L_X12_next_10 en d v1 s) := by
  show qle _ (qE (qev en d) en none tb_X12_next (10, [(0, .ref 151), (1, .int v1)], []) s)
  refine e_L 1 (f' := (11, [(0, .ref 151), (1, .int v1)], [.ref 151])) rfl ?_
  refine e_gI 12 2 rfl rfl lc_151 ?_
  refine e_L 1 (f' := (15, [(0, .ref 151), (1, .int v1)], [.ref 151, .int (s.1 151 2)])) rfl ?_
  refine e_gI 12 1 rfl rfl lc_151 ?_
  refine e_icmp 136 rfl rfl rfl (fun c1 => ?_) (fun c1 => ?_)
  · exact qE_sub (qsubL [0] rfl (ks := [0, 1]) rfl (by decide))
  · refine e_L 1 (f' := (22, [(0, .ref 151), (1, .int v1)], [.int v1])) rfl ?_
    refine e_ifz 136 rfl rfl rfl (fun c2 => ?_) (fun c2 => ?_)
    · exact qE_sub (qsubL [0] rfl (ks := [0, 1]) rfl (by decide))
    · refine e_L 1 (f' := (26, [(0, .ref 151), (1, .int v1)], [.ref 151])) rfl ?_
      refine e_gR (q := 152) 12 0 rfl rfl lc_151 lr_151_0 ?_
      refine e_L 1 (f' := (30, [(0, .ref 151), (1, .int v1)], [.ref 151, .ref 152])) rfl ?_
      refine e_gI 12 2 rfl rfl lc_151 ?_
      refine qle_gd fun h3 => ?_
      refine e_ial (n := 4000) (k := (s.1 151 2).toNatClampNeg) rfl lc_152 ln_152 h3 rfl ?_
      refine e_nI fun z4 => ?_
      refine e_L 3 (f' := (38, [(2, .int z4), (0, .ref 151), (1, .int v1)], [.int (9 : Int32), .int z4])) rfl ?_
      refine e_icmp 65 rfl rfl rfl (fun c5 => ?_) (fun c5 => ?_)
      · refine e_L 2 (f' := (70, [(2, .int z4), (0, .ref 151), (1, .int v1)], [.int (1 : Int32)])) rfl ?_
        exact qE_sub (qsubL [1, 0] rfl (ks := [2, 0, 1]) rfl (by decide))
      · refine e_L 2 (f' := (44, [(2, .int z4), (0, .ref 151), (1, .int v1)], [.int (10 : Int32), .int z4])) rfl ?_
        refine e_icmp 65 rfl rfl rfl (fun c6 => ?_) (fun c6 => ?_)
        · refine e_L 2 (f' := (70, [(2, .int z4), (0, .ref 151), (1, .int v1)], [.int (1 : Int32)])) rfl ?_
          exact qE_sub (qsubL [1, 0] rfl (ks := [2, 0, 1]) rfl (by decide))
        · refine e_L 2 (f' := (50, [(2, .int z4), (0, .ref 151), (1, .int v1)], [.int (13 : Int32), .int z4])) rfl ?_
          refine e_icmp 65 rfl rfl rfl (fun c7 => ?_) (fun c7 => ?_)
          · refine e_L 2 (f' := (70, [(2, .int z4), (0, .ref 151), (1, .int v1)], [.int (1 : Int32)])) rfl ?_
            exact qE_sub (qsubL [1, 0] rfl (ks := [2, 0, 1]) rfl (by decide))
          · refine e_L 2 (f' := (56, [(2, .int z4), (0, .ref 151), (1, .int v1)], [.int (32 : Int32), .int z4])) rfl ?_
            refine e_icmp 65 rfl rfl rfl (fun c8 => ?_) (fun c8 => ?_)
            · refine e_L 2 (f' := (70, [(2, .int z4), (0, .ref 151), (1, .int v1)], [.int (1 : Int32)])) rfl ?_
              exact qE_sub (qsubL [1, 0] rfl (ks := [2, 0, 1]) rfl (by decide))
            · refine e_L 2 (f' := (62, [(2, .int z4), (0, .ref 151), (1, .int v1)], [.int (35 : Int32), .int z4])) rfl ?_
              refine e_icmp 69 rfl rfl rfl (fun c9 => ?_) (fun c9 => ?_)
              · refine e_L 1 (f' := (70, [(2, .int z4), (0, .ref 151), (1, .int v1)], [.int (0 : Int32)])) rfl ?_
                exact qE_sub (qsubL [1, 0] rfl (ks := [2, 0, 1]) rfl (by decide))
              · refine e_L 2 (f' := (70, [(2, .int z4), (0, .ref 151), (1, .int v1)], [.int (1 : Int32)])) rfl ?_
                exact qE_sub (qsubL [1, 0] rfl (ks := [2, 0, 1]) rfl (by decide))
set_option maxRecDepth 100000 in
set_option maxHeartbeats 4000000 in
theorem le_X12_next_70 (en : pN) (d : Nat) (v2 : Int32) (vs0 : Int32) (s : qS) : qle (if ¬ v2 = (35 : Int32) then if vs0 = (0 : Int32) then L_X12_next_129 en d vs0 (s.1 151 2) (0 : Int32) s else L_X12_next_129 en d vs0 (s.1 151 2) (1 : Int32) s else L_X12_next_77 en d vs0 s) (L_X12_next_70 en d v2 vs0 s) := by
  show qle _ (qE (qev en d) en none tb_X12_next (70, [(0, .ref 151), (2, .int v2)], [.int vs0]) s)
  refine e_L 3 (f' := (74, [(1, .int vs0), (0, .ref 151), (2, .int v2)], [.int (35 : Int32), .int v2])) rfl ?_
  refine e_icmp 115 rfl rfl rfl (fun c1 => ?_) (fun c1 => ?_)
  · refine e_L 2 (f' := (117, [(1, .int vs0), (0, .ref 151), (2, .int v2)], [.ref 151, .ref 151])) rfl ?_
    refine e_gI 12 2 rfl rfl lc_151 ?_
    refine e_L 1 (f' := (121, [(1, .int vs0), (0, .ref 151), (2, .int v2)], [.int vs0, .int (s.1 151 2), .ref 151])) rfl ?_
    refine e_ifz 128 rfl rfl rfl (fun c2 => ?_) (fun c2 => ?_)
    · refine e_L 1 (f' := (129, [(1, .int vs0), (0, .ref 151), (2, .int v2)], [.int (0 : Int32), .int (s.1 151 2), .ref 151])) rfl ?_
      exact qE_sub (qsubL [1, 0] rfl (ks := [1, 0, 2]) rfl (by decide))
    · refine e_L 2 (f' := (129, [(1, .int vs0), (0, .ref 151), (2, .int v2)], [.int (1 : Int32), .int (s.1 151 2), .ref 151])) rfl ?_
      exact qE_sub (qsubL [1, 0] rfl (ks := [1, 0, 2]) rfl (by decide))
  · exact qE_sub (qsubL [1, 0] rfl (ks := [1, 0, 2]) rfl (by decide))
set_option maxRecDepth 100000 in
set_option maxHeartbeats 4000000 in
theorem le_X12_next_77 (en : pN) (d : Nat) (v1 : Int32) (s : qS) : qle (if (s.1 151 1) ≤ (s.1 151 2) then L_X12_next_10 en d v1 s else gd (p_inB (s.1 151 2) 4000 = true) (if (s.1 152 (s.1 151 2).toNatClampNeg) = (10 : Int32) then L_X12_next_10 en d v1 s else nm (uI s 151 2 ((s.1 151 2) + (1 : Int32))) (fun s4 => L_X12_next_77 en d v1 s4))) (L_X12_next_77 en d v1 s) := by
  show qle _ (qE (qev en d) en none tb_X12_next (77, [(0, .ref 151), (1, .int v1)], []) s)
  refine e_L 1 (f' := (78, [(0, .ref 151), (1, .int v1)], [.ref 151])) rfl ?_
  refine e_gI 12 2 rfl rfl lc_151 ?_
  refine e_L 1 (f' := (82, [(0, .ref 151), (1, .int v1)], [.ref 151, .int (s.1 151 2)])) rfl ?_
  refine e_gI 12 1 rfl rfl lc_151 ?_
  refine e_icmp 133 rfl rfl rfl (fun c1 => ?_) (fun c1 => ?_)
  · refine e_L 1 (f' := (10, [(0, .ref 151), (1, .int v1)], [])) rfl ?_
    exact qE_sub (qsubL [0, 1] rfl (ks := [0, 1]) rfl (by decide))
  · refine e_L 1 (f' := (89, [(0, .ref 151), (1, .int v1)], [.ref 151])) rfl ?_
    refine e_gR (q := 152) 12 0 rfl rfl lc_151 lr_151_0 ?_
    refine e_L 1 (f' := (93, [(0, .ref 151), (1, .int v1)], [.ref 151, .ref 152])) rfl ?_
    refine e_gI 12 2 rfl rfl lc_151 ?_
    refine qle_gd fun h2 => ?_
    refine e_ial (n := 4000) (k := (s.1 151 2).toNatClampNeg) rfl lc_152 ln_152 h2 rfl ?_
    refine e_L 1 (f' := (99, [(0, .ref 151), (1, .int v1)], [.int (10 : Int32), .int (s.1 152 (s.1 151 2).toNatClampNeg)])) rfl ?_
    refine e_icmp 133 rfl rfl rfl (fun c3 => ?_) (fun c3 => ?_)
    · refine e_L 1 (f' := (10, [(0, .ref 151), (1, .int v1)], [])) rfl ?_
      exact qE_sub (qsubL [0, 1] rfl (ks := [0, 1]) rfl (by decide))
    · refine e_L 2 (f' := (104, [(0, .ref 151), (1, .int v1)], [.ref 151, .ref 151])) rfl ?_
      refine e_gI 12 2 rfl rfl lc_151 ?_
      refine e_L 2 (f' := (109, [(0, .ref 151), (1, .int v1)], [.int ((s.1 151 2) + (1 : Int32)), .ref 151])) rfl ?_
      refine e_pI 12 2 rfl rfl lc_151 rfl ?_
      refine e_nS fun s4 => ?_
      refine e_L 1 (f' := (77, [(0, .ref 151), (1, .int v1)], [])) rfl ?_
      exact qE_sub (qsubL [0, 1] rfl (ks := [0, 1]) rfl (by decide))
set_option maxRecDepth 100000 in
set_option maxHeartbeats 4000000 in
theorem le_X12_next_129 (en : pN) (d : Nat) (v1 : Int32) (vs1 : Int32) (vs2 : Int32) (s : qS) : qle (nm (uI s 151 2 (vs1 + vs2)) (fun s1 => L_X12_next_10 en d v1 s1)) (L_X12_next_129 en d v1 vs1 vs2 s) := by
  show qle _ (qE (qev en d) en none tb_X12_next (129, [(0, .ref 151), (1, .int v1)], [.int vs2, .int vs1, .ref 151]) s)
  refine e_L 1 (f' := (130, [(0, .ref 151), (1, .int v1)], [.int (vs1 + vs2), .ref 151])) rfl ?_
  refine e_pI 12 2 rfl rfl lc_151 rfl ?_
  refine e_nS fun s1 => ?_
  refine e_L 1 (f' := (10, [(0, .ref 151), (1, .int v1)], [])) rfl ?_
  exact qE_sub (qsubL [0, 1] rfl (ks := [0, 1]) rfl (by decide))
set_option maxRecDepth 100000 in
set_option maxHeartbeats 4000000 in
theorem le_X12_next_136 (en : pN) (d : Nat) (s : qS) : qle (nm (uI s 151 4 (s.1 151 2)) (fun s1 => nm (uI s1 151 3 (0 : Int32)) (fun s2 => if ¬ (s2.1 151 2) = (s2.1 151 1) then gd (p_inB (s2.1 151 2) 4000 = true) (nm (s2.1 152 (s2.1 151 2).toNatClampNeg) (fun z5 => bI (qev en d 246 [.int z5] s2) (fun w6 s7 => if w6 = (0 : Int32) then bI (qev en d 247 [.int z5] s7) (fun w10 s11 => if w10 = (0 : Int32) then if z5 = (61 : Int32) then L_X12_next_436 en d z5 s11 else if z5 = (33 : Int32) then L_X12_next_436 en d z5 s11 else if z5 = (60 : Int32) then L_X12_next_436 en d z5 s11 else if ¬ z5 = (62 : Int32) then L_X12_next_456 en d z5 (0 : Int32) s11 else L_X12_next_436 en d z5 s11 else nm (uI s11 151 6 (0 : Int32)) (fun s18 => L_X12_next_314 en d (0 : Int32) s18)) else nm (uJ s7 151 5 (0 : Int64)) (fun s19 => L_X12_next_185 en d (0 : Int32) s19)))) else some (none, s2)))) (L_X12_next_136 en d s) := by
  show qle _ (qE (qev en d) en none tb_X12_next (136, [(0, .ref 151)], []) s)
  refine e_L 2 (f' := (138, [(0, .ref 151)], [.ref 151, .ref 151])) rfl ?_
  refine e_gI 12 2 rfl rfl lc_151 ?_
  refine e_pI 12 4 rfl rfl lc_151 rfl ?_
  refine e_nS fun s1 => ?_
  refine e_L 2 (f' := (146, [(0, .ref 151)], [.int (0 : Int32), .ref 151])) rfl ?_
  refine e_pI 12 3 rfl rfl lc_151 rfl ?_
  refine e_nS fun s2 => ?_
  refine e_L 1 (f' := (150, [(0, .ref 151)], [.ref 151])) rfl ?_
  refine e_gI 12 2 rfl rfl lc_151 ?_
  refine e_L 1 (f' := (154, [(0, .ref 151)], [.ref 151, .int (s2.1 151 2)])) rfl ?_
  refine e_gI 12 1 rfl rfl lc_151 ?_
  refine e_icmp 161 rfl rfl rfl (fun c3 => ?_) (fun c3 => ?_)
  · refine e_L 1 (f' := (162, [(0, .ref 151)], [.ref 151])) rfl ?_
    refine e_gR (q := 152) 12 0 rfl rfl lc_151 lr_151_0 ?_
    refine e_L 1 (f' := (166, [(0, .ref 151)], [.ref 151, .ref 152])) rfl ?_
    refine e_gI 12 2 rfl rfl lc_151 ?_
    refine qle_gd fun h4 => ?_
    refine e_ial (n := 4000) (k := (s2.1 151 2).toNatClampNeg) rfl lc_152 ln_152 h4 rfl ?_
    refine e_nI fun z5 => ?_
    refine e_L 4 (f' := (174, [(3, .int (0 : Int32)), (2, .int z5), (0, .ref 151)], [.int z5])) rfl ?_
    refine e_sI 246 rfl rfl rfl ix_X12_isLetter rfl (Nat.le_of_ble_eq_true rfl) (fun w6 s7 e8 => ?_)
    refine e_ifz 302 rfl rfl rfl (fun c9 => ?_) (fun c9 => ?_)
    · refine e_L 1 (f' := (303, [(3, .int (0 : Int32)), (2, .int z5), (0, .ref 151)], [.int z5])) rfl ?_
      refine e_sI 247 rfl rfl rfl ix_X12_isFigure rfl (Nat.le_of_ble_eq_true rfl) (fun w10 s11 e12 => ?_)
      refine e_ifz 412 rfl rfl rfl (fun c13 => ?_) (fun c13 => ?_)
      · refine e_L 2 (f' := (415, [(3, .int (0 : Int32)), (2, .int z5), (0, .ref 151)], [.int (61 : Int32), .int z5])) rfl ?_
        refine e_icmp 436 rfl rfl rfl (fun c14 => ?_) (fun c14 => ?_)
        · exact qE_sub (qsubL [2, 1] rfl (ks := [3, 2, 0]) rfl (by decide))
        · refine e_L 2 (f' := (421, [(3, .int (0 : Int32)), (2, .int z5), (0, .ref 151)], [.int (33 : Int32), .int z5])) rfl ?_
          refine e_icmp 436 rfl rfl rfl (fun c15 => ?_) (fun c15 => ?_)
          · exact qE_sub (qsubL [2, 1] rfl (ks := [3, 2, 0]) rfl (by decide))
          · refine e_L 2 (f' := (427, [(3, .int (0 : Int32)), (2, .int z5), (0, .ref 151)], [.int (60 : Int32), .int z5])) rfl ?_
            refine e_icmp 436 rfl rfl rfl (fun c16 => ?_) (fun c16 => ?_)
            · exact qE_sub (qsubL [2, 1] rfl (ks := [3, 2, 0]) rfl (by decide))
            · refine e_L 2 (f' := (433, [(3, .int (0 : Int32)), (2, .int z5), (0, .ref 151)], [.int (62 : Int32), .int z5])) rfl ?_
              refine e_icmp 455 rfl rfl rfl (fun c17 => ?_) (fun c17 => ?_)
              · refine e_L 1 (f' := (456, [(3, .int (0 : Int32)), (2, .int z5), (0, .ref 151)], [.int (0 : Int32)])) rfl ?_
                exact qE_sub (qsubL [2, 1] rfl (ks := [3, 2, 0]) rfl (by decide))
              · exact qE_sub (qsubL [2, 1] rfl (ks := [3, 2, 0]) rfl (by decide))
      · refine e_L 2 (f' := (311, [(3, .int (0 : Int32)), (2, .int z5), (0, .ref 151)], [.int (0 : Int32), .ref 151])) rfl ?_
        refine e_pI 12 6 rfl rfl lc_151 rfl ?_
        refine e_nS fun s18 => ?_
        exact qE_sub (qsubL [2, 0] rfl (ks := [3, 2, 0]) rfl (by decide))
    · refine e_L 2 (f' := (182, [(3, .int (0 : Int32)), (2, .int z5), (0, .ref 151)], [.long (0 : Int64), .ref 151])) rfl ?_
      refine e_pJ 12 5 rfl rfl lc_151 rfl ?_
      refine e_nS fun s19 => ?_
      exact qE_sub (qsubL [2, 0] rfl (ks := [3, 2, 0]) rfl (by decide))
  · exact e_rV rfl rfl
set_option maxRecDepth 100000 in
set_option maxHeartbeats 4000000 in
theorem le_X12_next_185 (en : pN) (d : Nat) (v3 : Int32) (s : qS) : qle (if (s.1 151 1) ≤ (s.1 151 2) then L_X12_next_278 en d v3 s else gd (p_inB (s.1 151 2) 4000 = true) (bI (qev en d 246 [.int (s.1 152 (s.1 151 2).toNatClampNeg)] s) (fun w3 s4 => if ¬ w3 = (0 : Int32) then L_X12_next_240 en d v3 s4 else gd (p_inB (s4.1 151 2) 4000 = true) (bI (qev en d 247 [.int (s4.1 152 (s4.1 151 2).toNatClampNeg)] s4) (fun w8 s9 => if ¬ w8 = (0 : Int32) then L_X12_next_240 en d v3 s9 else gd (p_inB (s9.1 151 2) 4000 = true) (if ¬ (s9.1 152 (s9.1 151 2).toNatClampNeg) = (95 : Int32) then L_X12_next_278 en d v3 s9 else L_X12_next_240 en d v3 s9)))))) (L_X12_next_185 en d v3 s) := by
  show qle _ (qE (qev en d) en none tb_X12_next (185, [(0, .ref 151), (3, .int v3)], []) s)
  refine e_L 1 (f' := (186, [(0, .ref 151), (3, .int v3)], [.ref 151])) rfl ?_
  refine e_gI 12 2 rfl rfl lc_151 ?_
  refine e_L 1 (f' := (190, [(0, .ref 151), (3, .int v3)], [.ref 151, .int (s.1 151 2)])) rfl ?_
  refine e_gI 12 1 rfl rfl lc_151 ?_
  refine e_icmp 278 rfl rfl rfl (fun c1 => ?_) (fun c1 => ?_)
  · exact qE_sub (qsubL [0, 1] rfl (ks := [0, 3]) rfl (by decide))
  · refine e_L 1 (f' := (197, [(0, .ref 151), (3, .int v3)], [.ref 151])) rfl ?_
    refine e_gR (q := 152) 12 0 rfl rfl lc_151 lr_151_0 ?_
    refine e_L 1 (f' := (201, [(0, .ref 151), (3, .int v3)], [.ref 151, .ref 152])) rfl ?_
    refine e_gI 12 2 rfl rfl lc_151 ?_
    refine qle_gd fun h2 => ?_
    refine e_ial (n := 4000) (k := (s.1 151 2).toNatClampNeg) rfl lc_152 ln_152 h2 rfl ?_
    refine e_sI 246 rfl rfl rfl ix_X12_isLetter rfl (Nat.le_of_ble_eq_true rfl) (fun w3 s4 e5 => ?_)
    refine e_ifz 240 rfl rfl rfl (fun c6 => ?_) (fun c6 => ?_)
    · exact qE_sub (qsubL [0, 1] rfl (ks := [0, 3]) rfl (by decide))
    · refine e_L 1 (f' := (212, [(0, .ref 151), (3, .int v3)], [.ref 151])) rfl ?_
      refine e_gR (q := 152) 12 0 rfl rfl lc_151 lr_151_0 ?_
      refine e_L 1 (f' := (216, [(0, .ref 151), (3, .int v3)], [.ref 151, .ref 152])) rfl ?_
      refine e_gI 12 2 rfl rfl lc_151 ?_
      refine qle_gd fun h7 => ?_
      refine e_ial (n := 4000) (k := (s4.1 151 2).toNatClampNeg) rfl lc_152 ln_152 h7 rfl ?_
      refine e_sI 247 rfl rfl rfl ix_X12_isFigure rfl (Nat.le_of_ble_eq_true rfl) (fun w8 s9 e10 => ?_)
      refine e_ifz 240 rfl rfl rfl (fun c11 => ?_) (fun c11 => ?_)
      · exact qE_sub (qsubL [0, 1] rfl (ks := [0, 3]) rfl (by decide))
      · refine e_L 1 (f' := (227, [(0, .ref 151), (3, .int v3)], [.ref 151])) rfl ?_
        refine e_gR (q := 152) 12 0 rfl rfl lc_151 lr_151_0 ?_
        refine e_L 1 (f' := (231, [(0, .ref 151), (3, .int v3)], [.ref 151, .ref 152])) rfl ?_
        refine e_gI 12 2 rfl rfl lc_151 ?_
        refine qle_gd fun h12 => ?_
        refine e_ial (n := 4000) (k := (s9.1 151 2).toNatClampNeg) rfl lc_152 ln_152 h12 rfl ?_
        refine e_L 1 (f' := (237, [(0, .ref 151), (3, .int v3)], [.int (95 : Int32), .int (s9.1 152 (s9.1 151 2).toNatClampNeg)])) rfl ?_
        refine e_icmp 278 rfl rfl rfl (fun c13 => ?_) (fun c13 => ?_)
        · exact qE_sub (qsubL [0, 1] rfl (ks := [0, 3]) rfl (by decide))
        · exact qE_sub (qsubL [0, 1] rfl (ks := [0, 3]) rfl (by decide))
set_option maxRecDepth 100000 in
set_option maxHeartbeats 4000000 in
theorem le_X12_next_240 (en : pN) (d : Nat) (v3 : Int32) (s : qS) : qle (gd (p_inB (s.1 151 2) 4000 = true) (nm (uJ s 151 5 (((s.2.1 151 5) <<< ((8 : Int32).toInt64 &&& 63)) ||| (s.1 152 (s.1 151 2).toNatClampNeg).toInt64)) (fun s2 => nm (uI s2 151 2 ((s2.1 151 2) + (1 : Int32))) (fun s3 => L_X12_next_185 en d (v3 + (1 : Int32)) s3)))) (L_X12_next_240 en d v3 s) := by
  show qle _ (qE (qev en d) en none tb_X12_next (240, [(0, .ref 151), (3, .int v3)], []) s)
  refine e_L 2 (f' := (242, [(0, .ref 151), (3, .int v3)], [.ref 151, .ref 151])) rfl ?_
  refine e_gJ 12 5 rfl rfl lc_151 ?_
  refine e_L 3 (f' := (249, [(0, .ref 151), (3, .int v3)], [.ref 151, .long ((s.2.1 151 5) <<< ((8 : Int32).toInt64 &&& 63)), .ref 151])) rfl ?_
  refine e_gR (q := 152) 12 0 rfl rfl lc_151 lr_151_0 ?_
  refine e_L 1 (f' := (253, [(0, .ref 151), (3, .int v3)], [.ref 151, .ref 152, .long ((s.2.1 151 5) <<< ((8 : Int32).toInt64 &&& 63)), .ref 151])) rfl ?_
  refine e_gI 12 2 rfl rfl lc_151 ?_
  refine qle_gd fun h1 => ?_
  refine e_ial (n := 4000) (k := (s.1 151 2).toNatClampNeg) rfl lc_152 ln_152 h1 rfl ?_
  refine e_L 2 (f' := (259, [(0, .ref 151), (3, .int v3)], [.long (((s.2.1 151 5) <<< ((8 : Int32).toInt64 &&& 63)) ||| (s.1 152 (s.1 151 2).toNatClampNeg).toInt64), .ref 151])) rfl ?_
  refine e_pJ 12 5 rfl rfl lc_151 rfl ?_
  refine e_nS fun s2 => ?_
  refine e_L 2 (f' := (264, [(0, .ref 151), (3, .int v3)], [.ref 151, .ref 151])) rfl ?_
  refine e_gI 12 2 rfl rfl lc_151 ?_
  refine e_L 2 (f' := (269, [(0, .ref 151), (3, .int v3)], [.int ((s2.1 151 2) + (1 : Int32)), .ref 151])) rfl ?_
  refine e_pI 12 2 rfl rfl lc_151 rfl ?_
  refine e_nS fun s3 => ?_
  refine e_L 2 (f' := (185, [(3, .int (v3 + (1 : Int32))), (0, .ref 151)], [])) rfl ?_
  exact qE_sub (qsubL [1, 0] rfl (ks := [3, 0]) rfl (by decide))
set_option maxRecDepth 100000 in
set_option maxHeartbeats 4000000 in
theorem le_X12_next_278 (en : pN) (d : Nat) (v3 : Int32) (s : qS) : qle (if (8 : Int32) < v3 then L_X12_next_290 en d (0 : Int32) s else L_X12_next_290 en d (1 : Int32) s) (L_X12_next_278 en d v3 s) := by
  show qle _ (qE (qev en d) en none tb_X12_next (278, [(0, .ref 151), (3, .int v3)], []) s)
  refine e_L 3 (f' := (282, [(0, .ref 151), (3, .int v3)], [.int (8 : Int32), .int v3, .ref 151])) rfl ?_
  refine e_icmp 289 rfl rfl rfl (fun c1 => ?_) (fun c1 => ?_)
  · refine e_L 1 (f' := (290, [(0, .ref 151), (3, .int v3)], [.int (0 : Int32), .ref 151])) rfl ?_
    exact qE_sub (qsubL [0] rfl (ks := [0, 3]) rfl (by decide))
  · refine e_L 2 (f' := (290, [(0, .ref 151), (3, .int v3)], [.int (1 : Int32), .ref 151])) rfl ?_
    exact qE_sub (qsubL [0] rfl (ks := [0, 3]) rfl (by decide))
set_option maxRecDepth 100000 in
set_option maxHeartbeats 4000000 in
theorem le_X12_next_290 (en : pN) (d : Nat) (vs1 : Int32) (s : qS) : qle (bV (qev en d 245 [.ref 151, .int vs1, .int (1 : Int32)] s) (fun s2 => nm (uI s2 151 3 (1 : Int32)) (fun s4 => some (none, s4)))) (L_X12_next_290 en d vs1 s) := by
  show qle _ (qE (qev en d) en none tb_X12_next (290, [(0, .ref 151)], [.int vs1, .ref 151]) s)
  refine e_L 1 (f' := (291, [(0, .ref 151)], [.int (1 : Int32), .int vs1, .ref 151])) rfl ?_
  refine e_vV 245 rfl rfl ix_X12_need rfl (q_recvOf lc_151 rfl) (Nat.le_of_ble_eq_true rfl) (fun s2 e3 => ?_)
  refine e_L 2 (f' := (296, [(0, .ref 151)], [.int (1 : Int32), .ref 151])) rfl ?_
  refine e_pI 12 3 rfl rfl lc_151 rfl ?_
  refine e_nS fun s4 => ?_
  refine e_L 1 (f' := (605, [(0, .ref 151)], [])) rfl ?_
  exact e_rV rfl rfl
set_option maxRecDepth 100000 in
set_option maxHeartbeats 4000000 in
theorem le_X12_next_314 (en : pN) (d : Nat) (v3 : Int32) (s : qS) : qle (if (s.1 151 1) ≤ (s.1 151 2) then L_X12_next_389 en d v3 s else gd (p_inB (s.1 151 2) 4000 = true) (bI (qev en d 247 [.int (s.1 152 (s.1 151 2).toNatClampNeg)] s) (fun w3 s4 => if w3 = (0 : Int32) then L_X12_next_389 en d v3 s4 else if (3 : Int32) ≤ v3 then L_X12_next_370 en d v3 (0 : Int32) s4 else gd (p_inB (s4.1 151 2) 4000 = true) (L_X12_next_370 en d v3 ((((10 : Int32) * (s4.1 151 6)) + (s4.1 152 (s4.1 151 2).toNatClampNeg)) - (48 : Int32)) s4)))) (L_X12_next_314 en d v3 s) := by
  show qle _ (qE (qev en d) en none tb_X12_next (314, [(0, .ref 151), (3, .int v3)], []) s)
  refine e_L 1 (f' := (315, [(0, .ref 151), (3, .int v3)], [.ref 151])) rfl ?_
  refine e_gI 12 2 rfl rfl lc_151 ?_
  refine e_L 1 (f' := (319, [(0, .ref 151), (3, .int v3)], [.ref 151, .int (s.1 151 2)])) rfl ?_
  refine e_gI 12 1 rfl rfl lc_151 ?_
  refine e_icmp 389 rfl rfl rfl (fun c1 => ?_) (fun c1 => ?_)
  · exact qE_sub (qsubL [0, 1] rfl (ks := [0, 3]) rfl (by decide))
  · refine e_L 1 (f' := (326, [(0, .ref 151), (3, .int v3)], [.ref 151])) rfl ?_
    refine e_gR (q := 152) 12 0 rfl rfl lc_151 lr_151_0 ?_
    refine e_L 1 (f' := (330, [(0, .ref 151), (3, .int v3)], [.ref 151, .ref 152])) rfl ?_
    refine e_gI 12 2 rfl rfl lc_151 ?_
    refine qle_gd fun h2 => ?_
    refine e_ial (n := 4000) (k := (s.1 151 2).toNatClampNeg) rfl lc_152 ln_152 h2 rfl ?_
    refine e_sI 247 rfl rfl rfl ix_X12_isFigure rfl (Nat.le_of_ble_eq_true rfl) (fun w3 s4 e5 => ?_)
    refine e_ifz 389 rfl rfl rfl (fun c6 => ?_) (fun c6 => ?_)
    · exact qE_sub (qsubL [0, 1] rfl (ks := [0, 3]) rfl (by decide))
    · refine e_L 3 (f' := (343, [(0, .ref 151), (3, .int v3)], [.int (3 : Int32), .int v3, .ref 151])) rfl ?_
      refine e_icmp 369 rfl rfl rfl (fun c7 => ?_) (fun c7 => ?_)
      · refine e_L 1 (f' := (370, [(0, .ref 151), (3, .int v3)], [.int (0 : Int32), .ref 151])) rfl ?_
        exact qE_sub (qsubL [0, 1] rfl (ks := [0, 3]) rfl (by decide))
      · refine e_L 2 (f' := (349, [(0, .ref 151), (3, .int v3)], [.ref 151, .int (10 : Int32), .ref 151])) rfl ?_
        refine e_gI 12 6 rfl rfl lc_151 ?_
        refine e_L 2 (f' := (354, [(0, .ref 151), (3, .int v3)], [.ref 151, .int ((10 : Int32) * (s4.1 151 6)), .ref 151])) rfl ?_
        refine e_gR (q := 152) 12 0 rfl rfl lc_151 lr_151_0 ?_
        refine e_L 1 (f' := (358, [(0, .ref 151), (3, .int v3)], [.ref 151, .ref 152, .int ((10 : Int32) * (s4.1 151 6)), .ref 151])) rfl ?_
        refine e_gI 12 2 rfl rfl lc_151 ?_
        refine qle_gd fun h8 => ?_
        refine e_ial (n := 4000) (k := (s4.1 151 2).toNatClampNeg) rfl lc_152 ln_152 h8 rfl ?_
        refine e_L 4 (f' := (370, [(0, .ref 151), (3, .int v3)], [.int ((((10 : Int32) * (s4.1 151 6)) + (s4.1 152 (s4.1 151 2).toNatClampNeg)) - (48 : Int32)), .ref 151])) rfl ?_
        exact qE_sub (qsubL [0, 1] rfl (ks := [0, 3]) rfl (by decide))
set_option maxRecDepth 100000 in
set_option maxHeartbeats 4000000 in
theorem le_X12_next_370 (en : pN) (d : Nat) (v3 : Int32) (vs1 : Int32) (s : qS) : qle (nm (uI s 151 6 vs1) (fun s1 => nm (uI s1 151 2 ((s1.1 151 2) + (1 : Int32))) (fun s2 => L_X12_next_314 en d (v3 + (1 : Int32)) s2))) (L_X12_next_370 en d v3 vs1 s) := by
  show qle _ (qE (qev en d) en none tb_X12_next (370, [(0, .ref 151), (3, .int v3)], [.int vs1, .ref 151]) s)
  refine e_pI 12 6 rfl rfl lc_151 rfl ?_
  refine e_nS fun s1 => ?_
  refine e_L 2 (f' := (375, [(0, .ref 151), (3, .int v3)], [.ref 151, .ref 151])) rfl ?_
  refine e_gI 12 2 rfl rfl lc_151 ?_
  refine e_L 2 (f' := (380, [(0, .ref 151), (3, .int v3)], [.int ((s1.1 151 2) + (1 : Int32)), .ref 151])) rfl ?_
  refine e_pI 12 2 rfl rfl lc_151 rfl ?_
  refine e_nS fun s2 => ?_
  refine e_L 2 (f' := (314, [(3, .int (v3 + (1 : Int32))), (0, .ref 151)], [])) rfl ?_
  exact qE_sub (qsubL [1, 0] rfl (ks := [3, 0]) rfl (by decide))
set_option maxRecDepth 100000 in
set_option maxHeartbeats 4000000 in
theorem le_X12_next_389 (en : pN) (d : Nat) (v3 : Int32) (s : qS) : qle (if (3 : Int32) < v3 then L_X12_next_400 en d (0 : Int32) s else L_X12_next_400 en d (1 : Int32) s) (L_X12_next_389 en d v3 s) := by
  show qle _ (qE (qev en d) en none tb_X12_next (389, [(0, .ref 151), (3, .int v3)], []) s)
  refine e_L 3 (f' := (392, [(0, .ref 151), (3, .int v3)], [.int (3 : Int32), .int v3, .ref 151])) rfl ?_
  refine e_icmp 399 rfl rfl rfl (fun c1 => ?_) (fun c1 => ?_)
  · refine e_L 1 (f' := (400, [(0, .ref 151), (3, .int v3)], [.int (0 : Int32), .ref 151])) rfl ?_
    exact qE_sub (qsubL [0] rfl (ks := [0, 3]) rfl (by decide))
  · refine e_L 2 (f' := (400, [(0, .ref 151), (3, .int v3)], [.int (1 : Int32), .ref 151])) rfl ?_
    exact qE_sub (qsubL [0] rfl (ks := [0, 3]) rfl (by decide))
set_option maxRecDepth 100000 in
set_option maxHeartbeats 4000000 in
theorem le_X12_next_400 (en : pN) (d : Nat) (vs1 : Int32) (s : qS) : qle (bV (qev en d 245 [.ref 151, .int vs1, .int (1 : Int32)] s) (fun s2 => nm (uI s2 151 3 (2 : Int32)) (fun s4 => some (none, s4)))) (L_X12_next_400 en d vs1 s) := by
  show qle _ (qE (qev en d) en none tb_X12_next (400, [(0, .ref 151)], [.int vs1, .ref 151]) s)
  refine e_L 1 (f' := (401, [(0, .ref 151)], [.int (1 : Int32), .int vs1, .ref 151])) rfl ?_
  refine e_vV 245 rfl rfl ix_X12_need rfl (q_recvOf lc_151 rfl) (Nat.le_of_ble_eq_true rfl) (fun s2 e3 => ?_)
  refine e_L 2 (f' := (406, [(0, .ref 151)], [.int (2 : Int32), .ref 151])) rfl ?_
  refine e_pI 12 3 rfl rfl lc_151 rfl ?_
  refine e_nS fun s4 => ?_
  refine e_L 1 (f' := (605, [(0, .ref 151)], [])) rfl ?_
  exact e_rV rfl rfl
set_option maxRecDepth 100000 in
set_option maxHeartbeats 4000000 in
theorem le_X12_next_436 (en : pN) (d : Nat) (v2 : Int32) (s : qS) : qle (bI (qev en d 248 [.ref 151, .int ((s.1 151 2) + (1 : Int32))] s) (fun w1 s2 => if ¬ w1 = (61 : Int32) then L_X12_next_456 en d v2 (0 : Int32) s2 else L_X12_next_456 en d v2 (1 : Int32) s2)) (L_X12_next_436 en d v2 s) := by
  show qle _ (qE (qev en d) en none tb_X12_next (436, [(0, .ref 151), (2, .int v2)], []) s)
  refine e_L 2 (f' := (438, [(0, .ref 151), (2, .int v2)], [.ref 151, .ref 151])) rfl ?_
  refine e_gI 12 2 rfl rfl lc_151 ?_
  refine e_L 2 (f' := (443, [(0, .ref 151), (2, .int v2)], [.int ((s.1 151 2) + (1 : Int32)), .ref 151])) rfl ?_
  refine e_vI 248 rfl rfl ix_X12_byteAt rfl (q_recvOf lc_151 rfl) (Nat.le_of_ble_eq_true rfl) (fun w1 s2 e3 => ?_)
  refine e_L 1 (f' := (448, [(0, .ref 151), (2, .int v2)], [.int (61 : Int32), .int w1])) rfl ?_
  refine e_icmp 455 rfl rfl rfl (fun c4 => ?_) (fun c4 => ?_)
  · refine e_L 1 (f' := (456, [(0, .ref 151), (2, .int v2)], [.int (0 : Int32)])) rfl ?_
    exact qE_sub (qsubL [0, 1] rfl (ks := [0, 2]) rfl (by decide))
  · refine e_L 2 (f' := (456, [(0, .ref 151), (2, .int v2)], [.int (1 : Int32)])) rfl ?_
    exact qE_sub (qsubL [0, 1] rfl (ks := [0, 2]) rfl (by decide))
set_option maxRecDepth 100000 in
set_option maxHeartbeats 4000000 in
theorem le_X12_next_456 (en : pN) (d : Nat) (v2 : Int32) (vs0 : Int32) (s : qS) : qle (if v2 = (123 : Int32) then L_X12_next_559 en d v2 vs0 (1 : Int32) s else if v2 = (125 : Int32) then L_X12_next_559 en d v2 vs0 (1 : Int32) s else if v2 = (40 : Int32) then L_X12_next_559 en d v2 vs0 (1 : Int32) s else if v2 = (41 : Int32) then L_X12_next_559 en d v2 vs0 (1 : Int32) s else if v2 = (59 : Int32) then L_X12_next_559 en d v2 vs0 (1 : Int32) s else if v2 = (44 : Int32) then L_X12_next_559 en d v2 vs0 (1 : Int32) s else if v2 = (61 : Int32) then L_X12_next_559 en d v2 vs0 (1 : Int32) s else if v2 = (43 : Int32) then L_X12_next_559 en d v2 vs0 (1 : Int32) s else if v2 = (45 : Int32) then L_X12_next_559 en d v2 vs0 (1 : Int32) s else if v2 = (42 : Int32) then L_X12_next_559 en d v2 vs0 (1 : Int32) s else if v2 = (60 : Int32) then L_X12_next_559 en d v2 vs0 (1 : Int32) s else if v2 = (62 : Int32) then L_X12_next_559 en d v2 vs0 (1 : Int32) s else if v2 = (38 : Int32) then L_X12_next_559 en d v2 vs0 (1 : Int32) s else if v2 = (124 : Int32) then L_X12_next_559 en d v2 vs0 (1 : Int32) s else if v2 = (33 : Int32) then L_X12_next_559 en d v2 vs0 (1 : Int32) s else if ¬ v2 = (46 : Int32) then L_X12_next_559 en d v2 vs0 (0 : Int32) s else L_X12_next_559 en d v2 vs0 (1 : Int32) s) (L_X12_next_456 en d v2 vs0 s) := by
  show qle _ (qE (qev en d) en none tb_X12_next (456, [(0, .ref 151), (2, .int v2)], [.int vs0]) s)
  refine e_L 3 (f' := (461, [(4, .int vs0), (0, .ref 151), (2, .int v2)], [.int (123 : Int32), .int v2])) rfl ?_
  refine e_icmp 554 rfl rfl rfl (fun c1 => ?_) (fun c1 => ?_)
  · refine e_L 2 (f' := (559, [(4, .int vs0), (0, .ref 151), (2, .int v2)], [.int (1 : Int32)])) rfl ?_
    exact qE_sub (qsubL [1, 2, 0] rfl (ks := [4, 0, 2]) rfl (by decide))
  · refine e_L 2 (f' := (467, [(4, .int vs0), (0, .ref 151), (2, .int v2)], [.int (125 : Int32), .int v2])) rfl ?_
    refine e_icmp 554 rfl rfl rfl (fun c2 => ?_) (fun c2 => ?_)
    · refine e_L 2 (f' := (559, [(4, .int vs0), (0, .ref 151), (2, .int v2)], [.int (1 : Int32)])) rfl ?_
      exact qE_sub (qsubL [1, 2, 0] rfl (ks := [4, 0, 2]) rfl (by decide))
    · refine e_L 2 (f' := (473, [(4, .int vs0), (0, .ref 151), (2, .int v2)], [.int (40 : Int32), .int v2])) rfl ?_
      refine e_icmp 554 rfl rfl rfl (fun c3 => ?_) (fun c3 => ?_)
      · refine e_L 2 (f' := (559, [(4, .int vs0), (0, .ref 151), (2, .int v2)], [.int (1 : Int32)])) rfl ?_
        exact qE_sub (qsubL [1, 2, 0] rfl (ks := [4, 0, 2]) rfl (by decide))
      · refine e_L 2 (f' := (479, [(4, .int vs0), (0, .ref 151), (2, .int v2)], [.int (41 : Int32), .int v2])) rfl ?_
        refine e_icmp 554 rfl rfl rfl (fun c4 => ?_) (fun c4 => ?_)
        · refine e_L 2 (f' := (559, [(4, .int vs0), (0, .ref 151), (2, .int v2)], [.int (1 : Int32)])) rfl ?_
          exact qE_sub (qsubL [1, 2, 0] rfl (ks := [4, 0, 2]) rfl (by decide))
        · refine e_L 2 (f' := (485, [(4, .int vs0), (0, .ref 151), (2, .int v2)], [.int (59 : Int32), .int v2])) rfl ?_
          refine e_icmp 554 rfl rfl rfl (fun c5 => ?_) (fun c5 => ?_)
          · refine e_L 2 (f' := (559, [(4, .int vs0), (0, .ref 151), (2, .int v2)], [.int (1 : Int32)])) rfl ?_
            exact qE_sub (qsubL [1, 2, 0] rfl (ks := [4, 0, 2]) rfl (by decide))
          · refine e_L 2 (f' := (491, [(4, .int vs0), (0, .ref 151), (2, .int v2)], [.int (44 : Int32), .int v2])) rfl ?_
            refine e_icmp 554 rfl rfl rfl (fun c6 => ?_) (fun c6 => ?_)
            · refine e_L 2 (f' := (559, [(4, .int vs0), (0, .ref 151), (2, .int v2)], [.int (1 : Int32)])) rfl ?_
              exact qE_sub (qsubL [1, 2, 0] rfl (ks := [4, 0, 2]) rfl (by decide))
            · refine e_L 2 (f' := (497, [(4, .int vs0), (0, .ref 151), (2, .int v2)], [.int (61 : Int32), .int v2])) rfl ?_
              refine e_icmp 554 rfl rfl rfl (fun c7 => ?_) (fun c7 => ?_)
              · refine e_L 2 (f' := (559, [(4, .int vs0), (0, .ref 151), (2, .int v2)], [.int (1 : Int32)])) rfl ?_
                exact qE_sub (qsubL [1, 2, 0] rfl (ks := [4, 0, 2]) rfl (by decide))
              · refine e_L 2 (f' := (503, [(4, .int vs0), (0, .ref 151), (2, .int v2)], [.int (43 : Int32), .int v2])) rfl ?_
                refine e_icmp 554 rfl rfl rfl (fun c8 => ?_) (fun c8 => ?_)
                · refine e_L 2 (f' := (559, [(4, .int vs0), (0, .ref 151), (2, .int v2)], [.int (1 : Int32)])) rfl ?_
                  exact qE_sub (qsubL [1, 2, 0] rfl (ks := [4, 0, 2]) rfl (by decide))
                · refine e_L 2 (f' := (509, [(4, .int vs0), (0, .ref 151), (2, .int v2)], [.int (45 : Int32), .int v2])) rfl ?_
                  refine e_icmp 554 rfl rfl rfl (fun c9 => ?_) (fun c9 => ?_)
                  · refine e_L 2 (f' := (559, [(4, .int vs0), (0, .ref 151), (2, .int v2)], [.int (1 : Int32)])) rfl ?_
                    exact qE_sub (qsubL [1, 2, 0] rfl (ks := [4, 0, 2]) rfl (by decide))
                  · refine e_L 2 (f' := (515, [(4, .int vs0), (0, .ref 151), (2, .int v2)], [.int (42 : Int32), .int v2])) rfl ?_
                    refine e_icmp 554 rfl rfl rfl (fun c10 => ?_) (fun c10 => ?_)
                    · refine e_L 2 (f' := (559, [(4, .int vs0), (0, .ref 151), (2, .int v2)], [.int (1 : Int32)])) rfl ?_
                      exact qE_sub (qsubL [1, 2, 0] rfl (ks := [4, 0, 2]) rfl (by decide))
                    · refine e_L 2 (f' := (521, [(4, .int vs0), (0, .ref 151), (2, .int v2)], [.int (60 : Int32), .int v2])) rfl ?_
                      refine e_icmp 554 rfl rfl rfl (fun c11 => ?_) (fun c11 => ?_)
                      · refine e_L 2 (f' := (559, [(4, .int vs0), (0, .ref 151), (2, .int v2)], [.int (1 : Int32)])) rfl ?_
                        exact qE_sub (qsubL [1, 2, 0] rfl (ks := [4, 0, 2]) rfl (by decide))
                      · refine e_L 2 (f' := (527, [(4, .int vs0), (0, .ref 151), (2, .int v2)], [.int (62 : Int32), .int v2])) rfl ?_
                        refine e_icmp 554 rfl rfl rfl (fun c12 => ?_) (fun c12 => ?_)
                        · refine e_L 2 (f' := (559, [(4, .int vs0), (0, .ref 151), (2, .int v2)], [.int (1 : Int32)])) rfl ?_
                          exact qE_sub (qsubL [1, 2, 0] rfl (ks := [4, 0, 2]) rfl (by decide))
                        · refine e_L 2 (f' := (533, [(4, .int vs0), (0, .ref 151), (2, .int v2)], [.int (38 : Int32), .int v2])) rfl ?_
                          refine e_icmp 554 rfl rfl rfl (fun c13 => ?_) (fun c13 => ?_)
                          · refine e_L 2 (f' := (559, [(4, .int vs0), (0, .ref 151), (2, .int v2)], [.int (1 : Int32)])) rfl ?_
                            exact qE_sub (qsubL [1, 2, 0] rfl (ks := [4, 0, 2]) rfl (by decide))
                          · refine e_L 2 (f' := (539, [(4, .int vs0), (0, .ref 151), (2, .int v2)], [.int (124 : Int32), .int v2])) rfl ?_
                            refine e_icmp 554 rfl rfl rfl (fun c14 => ?_) (fun c14 => ?_)
                            · refine e_L 2 (f' := (559, [(4, .int vs0), (0, .ref 151), (2, .int v2)], [.int (1 : Int32)])) rfl ?_
                              exact qE_sub (qsubL [1, 2, 0] rfl (ks := [4, 0, 2]) rfl (by decide))
                            · refine e_L 2 (f' := (545, [(4, .int vs0), (0, .ref 151), (2, .int v2)], [.int (33 : Int32), .int v2])) rfl ?_
                              refine e_icmp 554 rfl rfl rfl (fun c15 => ?_) (fun c15 => ?_)
                              · refine e_L 2 (f' := (559, [(4, .int vs0), (0, .ref 151), (2, .int v2)], [.int (1 : Int32)])) rfl ?_
                                exact qE_sub (qsubL [1, 2, 0] rfl (ks := [4, 0, 2]) rfl (by decide))
                              · refine e_L 2 (f' := (551, [(4, .int vs0), (0, .ref 151), (2, .int v2)], [.int (46 : Int32), .int v2])) rfl ?_
                                refine e_icmp 558 rfl rfl rfl (fun c16 => ?_) (fun c16 => ?_)
                                · refine e_L 1 (f' := (559, [(4, .int vs0), (0, .ref 151), (2, .int v2)], [.int (0 : Int32)])) rfl ?_
                                  exact qE_sub (qsubL [1, 2, 0] rfl (ks := [4, 0, 2]) rfl (by decide))
                                · refine e_L 2 (f' := (559, [(4, .int vs0), (0, .ref 151), (2, .int v2)], [.int (1 : Int32)])) rfl ?_
                                  exact qE_sub (qsubL [1, 2, 0] rfl (ks := [4, 0, 2]) rfl (by decide))
set_option maxRecDepth 100000 in
set_option maxHeartbeats 4000000 in
theorem le_X12_next_559 (en : pN) (d : Nat) (v2 : Int32) (v4 : Int32) (vs0 : Int32) (s : qS) : qle (bV (qev en d 245 [.ref 151, .int vs0, .int (1 : Int32)] s) (fun s2 => if v4 = (0 : Int32) then L_X12_next_583 en d v4 v2 s2 else L_X12_next_583 en d v4 (v2 + (128 : Int32)) s2)) (L_X12_next_559 en d v2 v4 vs0 s) := by
  show qle _ (qE (qev en d) en none tb_X12_next (559, [(0, .ref 151), (2, .int v2), (4, .int v4)], [.int vs0]) s)
  refine e_L 4 (f' := (565, [(5, .int vs0), (0, .ref 151), (2, .int v2), (4, .int v4)], [.int (1 : Int32), .int vs0, .ref 151])) rfl ?_
  refine e_vV 245 rfl rfl ix_X12_need rfl (q_recvOf lc_151 rfl) (Nat.le_of_ble_eq_true rfl) (fun s2 e3 => ?_)
  refine e_L 2 (f' := (571, [(5, .int vs0), (0, .ref 151), (2, .int v2), (4, .int v4)], [.int v4, .ref 151])) rfl ?_
  refine e_ifz 582 rfl rfl rfl (fun c4 => ?_) (fun c4 => ?_)
  · refine e_L 1 (f' := (583, [(5, .int vs0), (0, .ref 151), (2, .int v2), (4, .int v4)], [.int v2, .ref 151])) rfl ?_
    exact qE_sub (qsubL [1, 3] rfl (ks := [5, 0, 2, 4]) rfl (by decide))
  · refine e_L 4 (f' := (583, [(5, .int vs0), (0, .ref 151), (2, .int v2), (4, .int v4)], [.int (v2 + (128 : Int32)), .ref 151])) rfl ?_
    exact qE_sub (qsubL [1, 3] rfl (ks := [5, 0, 2, 4]) rfl (by decide))
set_option maxRecDepth 100000 in
set_option maxHeartbeats 4000000 in
theorem le_X12_next_583 (en : pN) (d : Nat) (v4 : Int32) (vs1 : Int32) (s : qS) : qle (nm (uI s 151 3 vs1) (fun s1 => if v4 = (0 : Int32) then L_X12_next_601 en d (s1.1 151 2) (1 : Int32) s1 else L_X12_next_601 en d (s1.1 151 2) (2 : Int32) s1)) (L_X12_next_583 en d v4 vs1 s) := by
  show qle _ (qE (qev en d) en none tb_X12_next (583, [(0, .ref 151), (4, .int v4)], [.int vs1, .ref 151]) s)
  refine e_pI 12 3 rfl rfl lc_151 rfl ?_
  refine e_nS fun s1 => ?_
  refine e_L 2 (f' := (588, [(0, .ref 151), (4, .int v4)], [.ref 151, .ref 151])) rfl ?_
  refine e_gI 12 2 rfl rfl lc_151 ?_
  refine e_L 1 (f' := (593, [(0, .ref 151), (4, .int v4)], [.int v4, .int (s1.1 151 2), .ref 151])) rfl ?_
  refine e_ifz 600 rfl rfl rfl (fun c2 => ?_) (fun c2 => ?_)
  · refine e_L 1 (f' := (601, [(0, .ref 151), (4, .int v4)], [.int (1 : Int32), .int (s1.1 151 2), .ref 151])) rfl ?_
    exact qE_sub (qsubL [] rfl (ks := [0, 4]) rfl (by decide))
  · refine e_L 2 (f' := (601, [(0, .ref 151), (4, .int v4)], [.int (2 : Int32), .int (s1.1 151 2), .ref 151])) rfl ?_
    exact qE_sub (qsubL [] rfl (ks := [0, 4]) rfl (by decide))
set_option maxRecDepth 100000 in
set_option maxHeartbeats 4000000 in
theorem le_X12_next_601 (en : pN) (d : Nat) (vs1 : Int32) (vs2 : Int32) (s : qS) : qle (nm (uI s 151 2 (vs1 + vs2)) (fun s1 => some (none, s1))) (L_X12_next_601 en d vs1 vs2 s) := by
  show qle _ (qE (qev en d) en none tb_X12_next (601, [], [.int vs2, .int vs1, .ref 151]) s)
  refine e_L 1 (f' := (602, [], [.int (vs1 + vs2), .ref 151])) rfl ?_
  refine e_pI 12 2 rfl rfl lc_151 rfl ?_
  refine e_nS fun s1 => ?_
  exact e_rV rfl rfl
set_option maxRecDepth 100000 in
set_option maxHeartbeats 4000000 in
theorem le_X12_next (en : pN) (d : Nat) (s : qS) : qle (bI (qev en d 243 [.ref 151] s) (fun w1 s2 => if ¬ w1 = (0 : Int32) then L_X12_next_10 en d (1 : Int32) s2 else some (none, s2))) (qev en (d + 1) 249 [.ref 151] s) := by
  refine e_enter ix_X12_next (Nat.le_of_ble_eq_true rfl) ?_
  show qle _ (qE (qev en d) en none tb_X12_next (0, [(0, .ref 151)], []) s)
  refine e_L 1 (f' := (1, [(0, .ref 151)], [.ref 151])) rfl ?_
  refine e_vI 243 rfl rfl ix_X12_good rfl (q_recvOf lc_151 rfl) (Nat.le_of_ble_eq_true rfl) (fun w1 s2 e3 => ?_)
  refine e_ifz 8 rfl rfl rfl (fun c4 => ?_) (fun c4 => ?_)
  · refine e_L 2 (f' := (10, [(1, .int (1 : Int32)), (0, .ref 151)], [])) rfl ?_
    exact qE_sub (qsubL [1, 0] rfl (ks := [1, 0]) rfl (by decide))
  · exact e_rV rfl rfl
set_option maxRecDepth 100000 in
set_option maxHeartbeats 4000000 in
theorem le_X12_beginReading (en : pN) (d : Nat) (s : qS) : qle (nm (uI s 151 2 (0 : Int32)) (fun s1 => nm (uI s1 151 7 (0 : Int32)) (fun s2 => nm (uI s2 151 8 (-2 : Int32)) (fun s3 => bV (qev en d 249 [.ref 151] s3) (fun s5 => some (none, s5)))))) (qev en (d + 1) 250 [.ref 151] s) := by
  refine e_enter ix_X12_beginReading (Nat.le_of_ble_eq_true rfl) ?_
  show qle _ (qE (qev en d) en none tb_X12_beginReading (0, [(0, .ref 151)], []) s)
  refine e_L 2 (f' := (2, [(0, .ref 151)], [.int (0 : Int32), .ref 151])) rfl ?_
  refine e_pI 12 2 rfl rfl lc_151 rfl ?_
  refine e_nS fun s1 => ?_
  refine e_L 2 (f' := (7, [(0, .ref 151)], [.int (0 : Int32), .ref 151])) rfl ?_
  refine e_pI 12 7 rfl rfl lc_151 rfl ?_
  refine e_nS fun s2 => ?_
  refine e_L 2 (f' := (13, [(0, .ref 151)], [.int (-2 : Int32), .ref 151])) rfl ?_
  refine e_pI 12 8 rfl rfl lc_151 rfl ?_
  refine e_nS fun s3 => ?_
  refine e_L 1 (f' := (17, [(0, .ref 151)], [.ref 151])) rfl ?_
  refine e_vV 249 rfl rfl ix_X12_next rfl (q_recvOf lc_151 rfl) (Nat.le_of_ble_eq_true rfl) (fun s5 e6 => ?_)
  exact e_rV rfl rfl
noncomputable def L_X12_endReading_30 (en : pN) (d : Nat) (vs1 : Int32) (s : qS) : Option qR := qE (qev en d) en none tb_X12_endReading (30, [], [.int vs1, .ref 151]) s
set_option maxRecDepth 100000 in
set_option maxHeartbeats 4000000 in
theorem le_X12_endReading_30 (en : pN) (d : Nat) (vs1 : Int32) (s : qS) : qle (nm (uI s 151 10 vs1) (fun s1 => some (none, s1))) (L_X12_endReading_30 en d vs1 s) := by
  show qle _ (qE (qev en d) en none tb_X12_endReading (30, [], [.int vs1, .ref 151]) s)
  refine e_pI 12 10 rfl rfl lc_151 rfl ?_
  refine e_nS fun s1 => ?_
  exact e_rV rfl rfl
set_option maxRecDepth 100000 in
set_option maxHeartbeats 4000000 in
theorem le_X12_endReading (en : pN) (d : Nat) (s : qS) : qle (nm (uI s 151 1 (0 : Int32)) (fun s1 => nm (uI s1 151 9 (s1.1 151 7)) (fun s2 => if ¬ (s2.1 151 7) = (0 : Int32) then L_X12_endReading_30 en d (s2.1 151 8) s2 else L_X12_endReading_30 en d (-2 : Int32) s2))) (qev en (d + 1) 251 [.ref 151] s) := by
  refine e_enter ix_X12_endReading (Nat.le_of_ble_eq_true rfl) ?_
  show qle _ (qE (qev en d) en none tb_X12_endReading (0, [(0, .ref 151)], []) s)
  refine e_L 2 (f' := (2, [(0, .ref 151)], [.int (0 : Int32), .ref 151])) rfl ?_
  refine e_pI 12 1 rfl rfl lc_151 rfl ?_
  refine e_nS fun s1 => ?_
  refine e_L 2 (f' := (7, [(0, .ref 151)], [.ref 151, .ref 151])) rfl ?_
  refine e_gI 12 7 rfl rfl lc_151 ?_
  refine e_pI 12 9 rfl rfl lc_151 rfl ?_
  refine e_nS fun s2 => ?_
  refine e_L 2 (f' := (15, [(0, .ref 151)], [.ref 151, .ref 151])) rfl ?_
  refine e_gI 12 7 rfl rfl lc_151 ?_
  refine e_ifz 26 rfl rfl rfl (fun c3 => ?_) (fun c3 => ?_)
  · refine e_L 1 (f' := (27, [(0, .ref 151)], [.ref 151, .ref 151])) rfl ?_
    refine e_gI 12 8 rfl rfl lc_151 ?_
    exact qE_sub (qsubL [] rfl (ks := [0]) rfl (by decide))
  · refine e_L 2 (f' := (30, [(0, .ref 151)], [.int (-2 : Int32), .ref 151])) rfl ?_
    exact qE_sub (qsubL [] rfl (ks := [0]) rfl (by decide))
noncomputable def L_X12_must_21 (en : pN) (d : Nat) (vs1 : Int32) (s : qS) : Option qR := qE (qev en d) en none tb_X12_must (21, [(0, .ref 151)], [.int vs1, .ref 151]) s
noncomputable def L_X12_must_25 (en : pN) (d : Nat) (s : qS) : Option qR := qE (qev en d) en none tb_X12_must (25, [(0, .ref 151)], []) s
set_option maxRecDepth 100000 in
set_option maxHeartbeats 4000000 in
theorem le_X12_must_21 (en : pN) (d : Nat) (vs1 : Int32) (s : qS) : qle (bV (qev en d 245 [.ref 151, .int vs1, .int (2 : Int32)] s) (fun s2 => L_X12_must_25 en d s2)) (L_X12_must_21 en d vs1 s) := by
  show qle _ (qE (qev en d) en none tb_X12_must (21, [(0, .ref 151)], [.int vs1, .ref 151]) s)
  refine e_L 1 (f' := (22, [(0, .ref 151)], [.int (2 : Int32), .int vs1, .ref 151])) rfl ?_
  refine e_vV 245 rfl rfl ix_X12_need rfl (q_recvOf lc_151 rfl) (Nat.le_of_ble_eq_true rfl) (fun s2 e3 => ?_)
  exact qE_sub (qsubL [0] rfl (ks := [0]) rfl (by decide))
set_option maxRecDepth 100000 in
set_option maxHeartbeats 4000000 in
theorem le_X12_must_25 (en : pN) (d : Nat) (s : qS) : qle (bV (qev en d 249 [.ref 151] s) (fun s2 => some (none, s2))) (L_X12_must_25 en d s) := by
  show qle _ (qE (qev en d) en none tb_X12_must (25, [(0, .ref 151)], []) s)
  refine e_L 1 (f' := (26, [(0, .ref 151)], [.ref 151])) rfl ?_
  refine e_vV 249 rfl rfl ix_X12_next rfl (q_recvOf lc_151 rfl) (Nat.le_of_ble_eq_true rfl) (fun s2 e3 => ?_)
  exact e_rV rfl rfl
set_option maxRecDepth 100000 in
set_option maxHeartbeats 4000000 in
theorem le_X12_must (en : pN) (d : Nat) (a1 : Int32) (s : qS) : qle (bI (qev en d 243 [.ref 151] s) (fun w1 s2 => if w1 = (0 : Int32) then L_X12_must_25 en d s2 else if ¬ (s2.1 151 3) = a1 then L_X12_must_21 en d (0 : Int32) s2 else L_X12_must_21 en d (1 : Int32) s2)) (qev en (d + 1) 252 [.ref 151, .int a1] s) := by
  refine e_enter ix_X12_must (Nat.le_of_ble_eq_true rfl) ?_
  show qle _ (qE (qev en d) en none tb_X12_must (0, [(0, .ref 151), (1, .int a1)], []) s)
  refine e_L 1 (f' := (1, [(0, .ref 151), (1, .int a1)], [.ref 151])) rfl ?_
  refine e_vI 243 rfl rfl ix_X12_good rfl (q_recvOf lc_151 rfl) (Nat.le_of_ble_eq_true rfl) (fun w1 s2 e3 => ?_)
  refine e_ifz 25 rfl rfl rfl (fun c4 => ?_) (fun c4 => ?_)
  · exact qE_sub (qsubL [0] rfl (ks := [0, 1]) rfl (by decide))
  · refine e_L 2 (f' := (9, [(0, .ref 151), (1, .int a1)], [.ref 151, .ref 151])) rfl ?_
    refine e_gI 12 3 rfl rfl lc_151 ?_
    refine e_L 1 (f' := (13, [(0, .ref 151), (1, .int a1)], [.int a1, .int (s2.1 151 3), .ref 151])) rfl ?_
    refine e_icmp 20 rfl rfl rfl (fun c5 => ?_) (fun c5 => ?_)
    · refine e_L 1 (f' := (21, [(0, .ref 151), (1, .int a1)], [.int (0 : Int32), .ref 151])) rfl ?_
      exact qE_sub (qsubL [0] rfl (ks := [0, 1]) rfl (by decide))
    · refine e_L 2 (f' := (21, [(0, .ref 151), (1, .int a1)], [.int (1 : Int32), .ref 151])) rfl ?_
      exact qE_sub (qsubL [0] rfl (ks := [0, 1]) rfl (by decide))
noncomputable def L_X12_isReserved_181 (en : pN) (d : Nat) (v0 : Int64) (vs0 : Int32) (s : qS) : Option qR := qE (qev en d) en (some .boolean) tb_X12_isReserved (181, [(0, .long v0)], [.int vs0]) s
set_option maxRecDepth 100000 in
set_option maxHeartbeats 4000000 in
theorem le_X12_isReserved_181 (en : pN) (d : Nat) (v0 : Int64) (vs0 : Int32) (s : qS) : qle (if ¬ vs0 = (0 : Int32) then some (some (.int (1 : Int32)), s) else if (lg_cmp v0 (107118487239027 : Int64)) = (0 : Int32) then some (some (.int (1 : Int32)), s) else if (lg_cmp v0 (474148660594 : Int64)) = (0 : Int32) then some (some (.int (1 : Int32)), s) else if (lg_cmp v0 (7168377 : Int64)) = (0 : Int32) then some (some (.int (1 : Int32)), s) else if (lg_cmp v0 (1836413812 : Int64)) = (0 : Int32) then some (some (.int (1 : Int32)), s) else if (lg_cmp v0 (465557349491 : Int64)) = (0 : Int32) then some (some (.int (1 : Int32)), s) else if (lg_cmp v0 (1717660018 : Int64)) = (0 : Int32) then some (some (.int (1 : Int32)), s) else if (lg_cmp v0 (435643770212 : Int64)) = (0 : Int32) then some (some (.int (1 : Int32)), s) else if (lg_cmp v0 (513021013607 : Int64)) = (0 : Int32) then some (some (.int (1 : Int32)), s) else if (lg_cmp v0 (512735409267 : Int64)) = (0 : Int32) then some (some (.int (1 : Int32)), s) else if (lg_cmp v0 (1751477348 : Int64)) = (0 : Int32) then some (some (.int (1 : Int32)), s) else if ¬ (lg_cmp v0 (495875089259 : Int64)) = (0 : Int32) then some (some (.int (0 : Int32)), s) else some (some (.int (1 : Int32)), s)) (L_X12_isReserved_181 en d v0 vs0 s) := by
  show qle _ (qE (qev en d) en (some .boolean) tb_X12_isReserved (181, [(0, .long v0)], [.int vs0]) s)
  refine e_L 2 (f' := (183, [(2, .int vs0), (0, .long v0)], [.int vs0])) rfl ?_
  refine e_ifz 274 rfl rfl rfl (fun c1 => ?_) (fun c1 => ?_)
  · refine e_L 2 (f' := (279, [(2, .int vs0), (0, .long v0)], [.int (1 : Int32)])) rfl ?_
    exact e_rZ rfl rfl (by decide)
  · refine e_L 1 (f' := (187, [(2, .int vs0), (0, .long v0)], [.long v0])) rfl ?_
    refine e_gs (w := .long (107118487239027 : Int64)) rfl rfl ?_
    refine e_L 1 (f' := (191, [(2, .int vs0), (0, .long v0)], [.int (lg_cmp v0 (107118487239027 : Int64))])) rfl ?_
    refine e_ifz 274 rfl rfl rfl (fun c2 => ?_) (fun c2 => ?_)
    · refine e_L 2 (f' := (279, [(2, .int vs0), (0, .long v0)], [.int (1 : Int32)])) rfl ?_
      exact e_rZ rfl rfl (by decide)
    · refine e_L 1 (f' := (195, [(2, .int vs0), (0, .long v0)], [.long v0])) rfl ?_
      refine e_gs (w := .long (474148660594 : Int64)) rfl rfl ?_
      refine e_L 1 (f' := (199, [(2, .int vs0), (0, .long v0)], [.int (lg_cmp v0 (474148660594 : Int64))])) rfl ?_
      refine e_ifz 274 rfl rfl rfl (fun c3 => ?_) (fun c3 => ?_)
      · refine e_L 2 (f' := (279, [(2, .int vs0), (0, .long v0)], [.int (1 : Int32)])) rfl ?_
        exact e_rZ rfl rfl (by decide)
      · refine e_L 1 (f' := (203, [(2, .int vs0), (0, .long v0)], [.long v0])) rfl ?_
        refine e_gs (w := .long (7168377 : Int64)) rfl rfl ?_
        refine e_L 1 (f' := (207, [(2, .int vs0), (0, .long v0)], [.int (lg_cmp v0 (7168377 : Int64))])) rfl ?_
        refine e_ifz 274 rfl rfl rfl (fun c4 => ?_) (fun c4 => ?_)
        · refine e_L 2 (f' := (279, [(2, .int vs0), (0, .long v0)], [.int (1 : Int32)])) rfl ?_
          exact e_rZ rfl rfl (by decide)
        · refine e_L 1 (f' := (211, [(2, .int vs0), (0, .long v0)], [.long v0])) rfl ?_
          refine e_gs (w := .long (1836413812 : Int64)) rfl rfl ?_
          refine e_L 1 (f' := (215, [(2, .int vs0), (0, .long v0)], [.int (lg_cmp v0 (1836413812 : Int64))])) rfl ?_
          refine e_ifz 274 rfl rfl rfl (fun c5 => ?_) (fun c5 => ?_)
          · refine e_L 2 (f' := (279, [(2, .int vs0), (0, .long v0)], [.int (1 : Int32)])) rfl ?_
            exact e_rZ rfl rfl (by decide)
          · refine e_L 1 (f' := (219, [(2, .int vs0), (0, .long v0)], [.long v0])) rfl ?_
            refine e_gs (w := .long (465557349491 : Int64)) rfl rfl ?_
            refine e_L 1 (f' := (223, [(2, .int vs0), (0, .long v0)], [.int (lg_cmp v0 (465557349491 : Int64))])) rfl ?_
            refine e_ifz 274 rfl rfl rfl (fun c6 => ?_) (fun c6 => ?_)
            · refine e_L 2 (f' := (279, [(2, .int vs0), (0, .long v0)], [.int (1 : Int32)])) rfl ?_
              exact e_rZ rfl rfl (by decide)
            · refine e_L 1 (f' := (227, [(2, .int vs0), (0, .long v0)], [.long v0])) rfl ?_
              refine e_gs (w := .long (1717660018 : Int64)) rfl rfl ?_
              refine e_L 1 (f' := (231, [(2, .int vs0), (0, .long v0)], [.int (lg_cmp v0 (1717660018 : Int64))])) rfl ?_
              refine e_ifz 274 rfl rfl rfl (fun c7 => ?_) (fun c7 => ?_)
              · refine e_L 2 (f' := (279, [(2, .int vs0), (0, .long v0)], [.int (1 : Int32)])) rfl ?_
                exact e_rZ rfl rfl (by decide)
              · refine e_L 1 (f' := (235, [(2, .int vs0), (0, .long v0)], [.long v0])) rfl ?_
                refine e_gs (w := .long (435643770212 : Int64)) rfl rfl ?_
                refine e_L 1 (f' := (239, [(2, .int vs0), (0, .long v0)], [.int (lg_cmp v0 (435643770212 : Int64))])) rfl ?_
                refine e_ifz 274 rfl rfl rfl (fun c8 => ?_) (fun c8 => ?_)
                · refine e_L 2 (f' := (279, [(2, .int vs0), (0, .long v0)], [.int (1 : Int32)])) rfl ?_
                  exact e_rZ rfl rfl (by decide)
                · refine e_L 1 (f' := (243, [(2, .int vs0), (0, .long v0)], [.long v0])) rfl ?_
                  refine e_gs (w := .long (513021013607 : Int64)) rfl rfl ?_
                  refine e_L 1 (f' := (247, [(2, .int vs0), (0, .long v0)], [.int (lg_cmp v0 (513021013607 : Int64))])) rfl ?_
                  refine e_ifz 274 rfl rfl rfl (fun c9 => ?_) (fun c9 => ?_)
                  · refine e_L 2 (f' := (279, [(2, .int vs0), (0, .long v0)], [.int (1 : Int32)])) rfl ?_
                    exact e_rZ rfl rfl (by decide)
                  · refine e_L 1 (f' := (251, [(2, .int vs0), (0, .long v0)], [.long v0])) rfl ?_
                    refine e_gs (w := .long (512735409267 : Int64)) rfl rfl ?_
                    refine e_L 1 (f' := (255, [(2, .int vs0), (0, .long v0)], [.int (lg_cmp v0 (512735409267 : Int64))])) rfl ?_
                    refine e_ifz 274 rfl rfl rfl (fun c10 => ?_) (fun c10 => ?_)
                    · refine e_L 2 (f' := (279, [(2, .int vs0), (0, .long v0)], [.int (1 : Int32)])) rfl ?_
                      exact e_rZ rfl rfl (by decide)
                    · refine e_L 1 (f' := (259, [(2, .int vs0), (0, .long v0)], [.long v0])) rfl ?_
                      refine e_gs (w := .long (1751477348 : Int64)) rfl rfl ?_
                      refine e_L 1 (f' := (263, [(2, .int vs0), (0, .long v0)], [.int (lg_cmp v0 (1751477348 : Int64))])) rfl ?_
                      refine e_ifz 274 rfl rfl rfl (fun c11 => ?_) (fun c11 => ?_)
                      · refine e_L 2 (f' := (279, [(2, .int vs0), (0, .long v0)], [.int (1 : Int32)])) rfl ?_
                        exact e_rZ rfl rfl (by decide)
                      · refine e_L 1 (f' := (267, [(2, .int vs0), (0, .long v0)], [.long v0])) rfl ?_
                        refine e_gs (w := .long (495875089259 : Int64)) rfl rfl ?_
                        refine e_L 1 (f' := (271, [(2, .int vs0), (0, .long v0)], [.int (lg_cmp v0 (495875089259 : Int64))])) rfl ?_
                        refine e_ifz 278 rfl rfl rfl (fun c12 => ?_) (fun c12 => ?_)
                        · refine e_L 1 (f' := (279, [(2, .int vs0), (0, .long v0)], [.int (0 : Int32)])) rfl ?_
                          exact e_rZ rfl rfl (by decide)
                        · refine e_L 2 (f' := (279, [(2, .int vs0), (0, .long v0)], [.int (1 : Int32)])) rfl ?_
                          exact e_rZ rfl rfl (by decide)
set_option maxRecDepth 100000 in
set_option maxHeartbeats 4000000 in
theorem le_X12_isReserved (en : pN) (d : Nat) (a1 : Int64) (s : qS) : qle (if (lg_cmp a1 (1667591276 : Int64)) = (0 : Int32) then L_X12_isReserved_181 en d a1 (1 : Int32) s else if (lg_cmp a1 (1819239275 : Int64)) = (0 : Int32) then L_X12_isReserved_181 en d a1 (1 : Int32) s else if (lg_cmp a1 (1768846447 : Int64)) = (0 : Int32) then L_X12_isReserved_181 en d a1 (1 : Int32) s else if (lg_cmp a1 (6513011 : Int64)) = (0 : Int32) then L_X12_isReserved_181 en d a1 (1 : Int32) s else if (lg_cmp a1 (6382692 : Int64)) = (0 : Int32) then L_X12_isReserved_181 en d a1 (1 : Int32) s else if (lg_cmp a1 (2002872692 : Int64)) = (0 : Int32) then L_X12_isReserved_181 en d a1 (1 : Int32) s else if (lg_cmp a1 (2002873189 : Int64)) = (0 : Int32) then L_X12_isReserved_181 en d a1 (1 : Int32) s else if (lg_cmp a1 (1785686382 : Int64)) = (0 : Int32) then L_X12_isReserved_181 en d a1 (1 : Int32) s else if (lg_cmp a1 (1751215220 : Int64)) = (0 : Int32) then L_X12_isReserved_181 en d a1 (1 : Int32) s else if (lg_cmp a1 (1667329132 : Int64)) = (0 : Int32) then L_X12_isReserved_181 en d a1 (1 : Int32) s else if (lg_cmp a1 (26982 : Int64)) = (0 : Int32) then L_X12_isReserved_181 en d a1 (1 : Int32) s else if (lg_cmp a1 (1701606245 : Int64)) = (0 : Int32) then L_X12_isReserved_181 en d a1 (1 : Int32) s else if (lg_cmp a1 (439788397413 : Int64)) = (0 : Int32) then L_X12_isReserved_181 en d a1 (1 : Int32) s else if (lg_cmp a1 (465491486066 : Int64)) = (0 : Int32) then L_X12_isReserved_181 en d a1 (1 : Int32) s else if (lg_cmp a1 (495873782388 : Int64)) = (0 : Int32) then L_X12_isReserved_181 en d a1 (1 : Int32) s else if (lg_cmp a1 (491328138361 : Int64)) = (0 : Int32) then L_X12_isReserved_181 en d a1 (1 : Int32) s else if (lg_cmp a1 (512852847717 : Int64)) = (0 : Int32) then L_X12_isReserved_181 en d a1 (1 : Int32) s else if (lg_cmp a1 (127991944667492 : Int64)) = (0 : Int32) then L_X12_isReserved_181 en d a1 (1 : Int32) s else if (lg_cmp a1 (129117126091627 : Int64)) = (0 : Int32) then L_X12_isReserved_181 en d a1 (1 : Int32) s else if (lg_cmp a1 (107148485161588 : Int64)) = (0 : Int32) then L_X12_isReserved_181 en d a1 (1 : Int32) s else if (lg_cmp a1 (33602636118846572 : Int64)) = (0 : Int32) then L_X12_isReserved_181 en d a1 (1 : Int32) s else if ¬ (lg_cmp a1 (8534158984711072869 : Int64)) = (0 : Int32) then L_X12_isReserved_181 en d a1 (0 : Int32) s else L_X12_isReserved_181 en d a1 (1 : Int32) s) (qev en (d + 1) 253 [.long a1] s) := by
  refine e_enter ix_X12_isReserved (Nat.le_of_ble_eq_true rfl) ?_
  show qle _ (qE (qev en d) en (some .boolean) tb_X12_isReserved (0, [(0, .long a1)], []) s)
  refine e_L 1 (f' := (1, [(0, .long a1)], [.long a1])) rfl ?_
  refine e_gs (w := .long (1667591276 : Int64)) rfl rfl ?_
  refine e_L 1 (f' := (5, [(0, .long a1)], [.int (lg_cmp a1 (1667591276 : Int64))])) rfl ?_
  refine e_ifz 176 rfl rfl rfl (fun c1 => ?_) (fun c1 => ?_)
  · refine e_L 2 (f' := (181, [(0, .long a1)], [.int (1 : Int32)])) rfl ?_
    exact qE_sub (qsubL [0] rfl (ks := [0]) rfl (by decide))
  · refine e_L 1 (f' := (9, [(0, .long a1)], [.long a1])) rfl ?_
    refine e_gs (w := .long (1819239275 : Int64)) rfl rfl ?_
    refine e_L 1 (f' := (13, [(0, .long a1)], [.int (lg_cmp a1 (1819239275 : Int64))])) rfl ?_
    refine e_ifz 176 rfl rfl rfl (fun c2 => ?_) (fun c2 => ?_)
    · refine e_L 2 (f' := (181, [(0, .long a1)], [.int (1 : Int32)])) rfl ?_
      exact qE_sub (qsubL [0] rfl (ks := [0]) rfl (by decide))
    · refine e_L 1 (f' := (17, [(0, .long a1)], [.long a1])) rfl ?_
      refine e_gs (w := .long (1768846447 : Int64)) rfl rfl ?_
      refine e_L 1 (f' := (21, [(0, .long a1)], [.int (lg_cmp a1 (1768846447 : Int64))])) rfl ?_
      refine e_ifz 176 rfl rfl rfl (fun c3 => ?_) (fun c3 => ?_)
      · refine e_L 2 (f' := (181, [(0, .long a1)], [.int (1 : Int32)])) rfl ?_
        exact qE_sub (qsubL [0] rfl (ks := [0]) rfl (by decide))
      · refine e_L 1 (f' := (25, [(0, .long a1)], [.long a1])) rfl ?_
        refine e_gs (w := .long (6513011 : Int64)) rfl rfl ?_
        refine e_L 1 (f' := (29, [(0, .long a1)], [.int (lg_cmp a1 (6513011 : Int64))])) rfl ?_
        refine e_ifz 176 rfl rfl rfl (fun c4 => ?_) (fun c4 => ?_)
        · refine e_L 2 (f' := (181, [(0, .long a1)], [.int (1 : Int32)])) rfl ?_
          exact qE_sub (qsubL [0] rfl (ks := [0]) rfl (by decide))
        · refine e_L 1 (f' := (33, [(0, .long a1)], [.long a1])) rfl ?_
          refine e_gs (w := .long (6382692 : Int64)) rfl rfl ?_
          refine e_L 1 (f' := (37, [(0, .long a1)], [.int (lg_cmp a1 (6382692 : Int64))])) rfl ?_
          refine e_ifz 176 rfl rfl rfl (fun c5 => ?_) (fun c5 => ?_)
          · refine e_L 2 (f' := (181, [(0, .long a1)], [.int (1 : Int32)])) rfl ?_
            exact qE_sub (qsubL [0] rfl (ks := [0]) rfl (by decide))
          · refine e_L 1 (f' := (41, [(0, .long a1)], [.long a1])) rfl ?_
            refine e_gs (w := .long (2002872692 : Int64)) rfl rfl ?_
            refine e_L 1 (f' := (45, [(0, .long a1)], [.int (lg_cmp a1 (2002872692 : Int64))])) rfl ?_
            refine e_ifz 176 rfl rfl rfl (fun c6 => ?_) (fun c6 => ?_)
            · refine e_L 2 (f' := (181, [(0, .long a1)], [.int (1 : Int32)])) rfl ?_
              exact qE_sub (qsubL [0] rfl (ks := [0]) rfl (by decide))
            · refine e_L 1 (f' := (49, [(0, .long a1)], [.long a1])) rfl ?_
              refine e_gs (w := .long (2002873189 : Int64)) rfl rfl ?_
              refine e_L 1 (f' := (53, [(0, .long a1)], [.int (lg_cmp a1 (2002873189 : Int64))])) rfl ?_
              refine e_ifz 176 rfl rfl rfl (fun c7 => ?_) (fun c7 => ?_)
              · refine e_L 2 (f' := (181, [(0, .long a1)], [.int (1 : Int32)])) rfl ?_
                exact qE_sub (qsubL [0] rfl (ks := [0]) rfl (by decide))
              · refine e_L 1 (f' := (57, [(0, .long a1)], [.long a1])) rfl ?_
                refine e_gs (w := .long (1785686382 : Int64)) rfl rfl ?_
                refine e_L 1 (f' := (61, [(0, .long a1)], [.int (lg_cmp a1 (1785686382 : Int64))])) rfl ?_
                refine e_ifz 176 rfl rfl rfl (fun c8 => ?_) (fun c8 => ?_)
                · refine e_L 2 (f' := (181, [(0, .long a1)], [.int (1 : Int32)])) rfl ?_
                  exact qE_sub (qsubL [0] rfl (ks := [0]) rfl (by decide))
                · refine e_L 1 (f' := (65, [(0, .long a1)], [.long a1])) rfl ?_
                  refine e_gs (w := .long (1751215220 : Int64)) rfl rfl ?_
                  refine e_L 1 (f' := (69, [(0, .long a1)], [.int (lg_cmp a1 (1751215220 : Int64))])) rfl ?_
                  refine e_ifz 176 rfl rfl rfl (fun c9 => ?_) (fun c9 => ?_)
                  · refine e_L 2 (f' := (181, [(0, .long a1)], [.int (1 : Int32)])) rfl ?_
                    exact qE_sub (qsubL [0] rfl (ks := [0]) rfl (by decide))
                  · refine e_L 1 (f' := (73, [(0, .long a1)], [.long a1])) rfl ?_
                    refine e_gs (w := .long (1667329132 : Int64)) rfl rfl ?_
                    refine e_L 1 (f' := (77, [(0, .long a1)], [.int (lg_cmp a1 (1667329132 : Int64))])) rfl ?_
                    refine e_ifz 176 rfl rfl rfl (fun c10 => ?_) (fun c10 => ?_)
                    · refine e_L 2 (f' := (181, [(0, .long a1)], [.int (1 : Int32)])) rfl ?_
                      exact qE_sub (qsubL [0] rfl (ks := [0]) rfl (by decide))
                    · refine e_L 1 (f' := (81, [(0, .long a1)], [.long a1])) rfl ?_
                      refine e_gs (w := .long (26982 : Int64)) rfl rfl ?_
                      refine e_L 1 (f' := (85, [(0, .long a1)], [.int (lg_cmp a1 (26982 : Int64))])) rfl ?_
                      refine e_ifz 176 rfl rfl rfl (fun c11 => ?_) (fun c11 => ?_)
                      · refine e_L 2 (f' := (181, [(0, .long a1)], [.int (1 : Int32)])) rfl ?_
                        exact qE_sub (qsubL [0] rfl (ks := [0]) rfl (by decide))
                      · refine e_L 1 (f' := (89, [(0, .long a1)], [.long a1])) rfl ?_
                        refine e_gs (w := .long (1701606245 : Int64)) rfl rfl ?_
                        refine e_L 1 (f' := (93, [(0, .long a1)], [.int (lg_cmp a1 (1701606245 : Int64))])) rfl ?_
                        refine e_ifz 176 rfl rfl rfl (fun c12 => ?_) (fun c12 => ?_)
                        · refine e_L 2 (f' := (181, [(0, .long a1)], [.int (1 : Int32)])) rfl ?_
                          exact qE_sub (qsubL [0] rfl (ks := [0]) rfl (by decide))
                        · refine e_L 1 (f' := (97, [(0, .long a1)], [.long a1])) rfl ?_
                          refine e_gs (w := .long (439788397413 : Int64)) rfl rfl ?_
                          refine e_L 1 (f' := (101, [(0, .long a1)], [.int (lg_cmp a1 (439788397413 : Int64))])) rfl ?_
                          refine e_ifz 176 rfl rfl rfl (fun c13 => ?_) (fun c13 => ?_)
                          · refine e_L 2 (f' := (181, [(0, .long a1)], [.int (1 : Int32)])) rfl ?_
                            exact qE_sub (qsubL [0] rfl (ks := [0]) rfl (by decide))
                          · refine e_L 1 (f' := (105, [(0, .long a1)], [.long a1])) rfl ?_
                            refine e_gs (w := .long (465491486066 : Int64)) rfl rfl ?_
                            refine e_L 1 (f' := (109, [(0, .long a1)], [.int (lg_cmp a1 (465491486066 : Int64))])) rfl ?_
                            refine e_ifz 176 rfl rfl rfl (fun c14 => ?_) (fun c14 => ?_)
                            · refine e_L 2 (f' := (181, [(0, .long a1)], [.int (1 : Int32)])) rfl ?_
                              exact qE_sub (qsubL [0] rfl (ks := [0]) rfl (by decide))
                            · refine e_L 1 (f' := (113, [(0, .long a1)], [.long a1])) rfl ?_
                              refine e_gs (w := .long (495873782388 : Int64)) rfl rfl ?_
                              refine e_L 1 (f' := (117, [(0, .long a1)], [.int (lg_cmp a1 (495873782388 : Int64))])) rfl ?_
                              refine e_ifz 176 rfl rfl rfl (fun c15 => ?_) (fun c15 => ?_)
                              · refine e_L 2 (f' := (181, [(0, .long a1)], [.int (1 : Int32)])) rfl ?_
                                exact qE_sub (qsubL [0] rfl (ks := [0]) rfl (by decide))
                              · refine e_L 1 (f' := (121, [(0, .long a1)], [.long a1])) rfl ?_
                                refine e_gs (w := .long (491328138361 : Int64)) rfl rfl ?_
                                refine e_L 1 (f' := (125, [(0, .long a1)], [.int (lg_cmp a1 (491328138361 : Int64))])) rfl ?_
                                refine e_ifz 176 rfl rfl rfl (fun c16 => ?_) (fun c16 => ?_)
                                · refine e_L 2 (f' := (181, [(0, .long a1)], [.int (1 : Int32)])) rfl ?_
                                  exact qE_sub (qsubL [0] rfl (ks := [0]) rfl (by decide))
                                · refine e_L 1 (f' := (129, [(0, .long a1)], [.long a1])) rfl ?_
                                  refine e_gs (w := .long (512852847717 : Int64)) rfl rfl ?_
                                  refine e_L 1 (f' := (133, [(0, .long a1)], [.int (lg_cmp a1 (512852847717 : Int64))])) rfl ?_
                                  refine e_ifz 176 rfl rfl rfl (fun c17 => ?_) (fun c17 => ?_)
                                  · refine e_L 2 (f' := (181, [(0, .long a1)], [.int (1 : Int32)])) rfl ?_
                                    exact qE_sub (qsubL [0] rfl (ks := [0]) rfl (by decide))
                                  · refine e_L 1 (f' := (137, [(0, .long a1)], [.long a1])) rfl ?_
                                    refine e_gs (w := .long (127991944667492 : Int64)) rfl rfl ?_
                                    refine e_L 1 (f' := (141, [(0, .long a1)], [.int (lg_cmp a1 (127991944667492 : Int64))])) rfl ?_
                                    refine e_ifz 176 rfl rfl rfl (fun c18 => ?_) (fun c18 => ?_)
                                    · refine e_L 2 (f' := (181, [(0, .long a1)], [.int (1 : Int32)])) rfl ?_
                                      exact qE_sub (qsubL [0] rfl (ks := [0]) rfl (by decide))
                                    · refine e_L 1 (f' := (145, [(0, .long a1)], [.long a1])) rfl ?_
                                      refine e_gs (w := .long (129117126091627 : Int64)) rfl rfl ?_
                                      refine e_L 1 (f' := (149, [(0, .long a1)], [.int (lg_cmp a1 (129117126091627 : Int64))])) rfl ?_
                                      refine e_ifz 176 rfl rfl rfl (fun c19 => ?_) (fun c19 => ?_)
                                      · refine e_L 2 (f' := (181, [(0, .long a1)], [.int (1 : Int32)])) rfl ?_
                                        exact qE_sub (qsubL [0] rfl (ks := [0]) rfl (by decide))
                                      · refine e_L 1 (f' := (153, [(0, .long a1)], [.long a1])) rfl ?_
                                        refine e_gs (w := .long (107148485161588 : Int64)) rfl rfl ?_
                                        refine e_L 1 (f' := (157, [(0, .long a1)], [.int (lg_cmp a1 (107148485161588 : Int64))])) rfl ?_
                                        refine e_ifz 176 rfl rfl rfl (fun c20 => ?_) (fun c20 => ?_)
                                        · refine e_L 2 (f' := (181, [(0, .long a1)], [.int (1 : Int32)])) rfl ?_
                                          exact qE_sub (qsubL [0] rfl (ks := [0]) rfl (by decide))
                                        · refine e_L 1 (f' := (161, [(0, .long a1)], [.long a1])) rfl ?_
                                          refine e_gs (w := .long (33602636118846572 : Int64)) rfl rfl ?_
                                          refine e_L 1 (f' := (165, [(0, .long a1)], [.int (lg_cmp a1 (33602636118846572 : Int64))])) rfl ?_
                                          refine e_ifz 176 rfl rfl rfl (fun c21 => ?_) (fun c21 => ?_)
                                          · refine e_L 2 (f' := (181, [(0, .long a1)], [.int (1 : Int32)])) rfl ?_
                                            exact qE_sub (qsubL [0] rfl (ks := [0]) rfl (by decide))
                                          · refine e_L 1 (f' := (169, [(0, .long a1)], [.long a1])) rfl ?_
                                            refine e_gs (w := .long (8534158984711072869 : Int64)) rfl rfl ?_
                                            refine e_L 1 (f' := (173, [(0, .long a1)], [.int (lg_cmp a1 (8534158984711072869 : Int64))])) rfl ?_
                                            refine e_ifz 180 rfl rfl rfl (fun c22 => ?_) (fun c22 => ?_)
                                            · refine e_L 1 (f' := (181, [(0, .long a1)], [.int (0 : Int32)])) rfl ?_
                                              exact qE_sub (qsubL [0] rfl (ks := [0]) rfl (by decide))
                                            · refine e_L 2 (f' := (181, [(0, .long a1)], [.int (1 : Int32)])) rfl ?_
                                              exact qE_sub (qsubL [0] rfl (ks := [0]) rfl (by decide))
set_option maxRecDepth 100000 in
set_option maxHeartbeats 4000000 in
theorem le_X12_isName (en : pN) (d : Nat) (s : qS) : qle (if ¬ (s.1 151 3) = (1 : Int32) then some (some (.int (0 : Int32)), s) else bI (qev en d 253 [.long (s.2.1 151 5)] s) (fun w2 s3 => if ¬ w2 = (0 : Int32) then some (some (.int (0 : Int32)), s3) else some (some (.int (1 : Int32)), s3))) (qev en (d + 1) 254 [.ref 151] s) := by
  refine e_enter ix_X12_isName (Nat.le_of_ble_eq_true rfl) ?_
  show qle _ (qE (qev en d) en (some .boolean) tb_X12_isName (0, [(0, .ref 151)], []) s)
  refine e_L 1 (f' := (1, [(0, .ref 151)], [.ref 151])) rfl ?_
  refine e_gI 12 3 rfl rfl lc_151 ?_
  refine e_L 1 (f' := (5, [(0, .ref 151)], [.int (1 : Int32), .int (s.1 151 3)])) rfl ?_
  refine e_icmp 22 rfl rfl rfl (fun c1 => ?_) (fun c1 => ?_)
  · refine e_L 1 (f' := (23, [(0, .ref 151)], [.int (0 : Int32)])) rfl ?_
    exact e_rZ rfl rfl (by decide)
  · refine e_L 1 (f' := (9, [(0, .ref 151)], [.ref 151])) rfl ?_
    refine e_gJ 12 5 rfl rfl lc_151 ?_
    refine e_sI 253 rfl rfl rfl ix_X12_isReserved rfl (Nat.le_of_ble_eq_true rfl) (fun w2 s3 e4 => ?_)
    refine e_ifz 22 rfl rfl rfl (fun c5 => ?_) (fun c5 => ?_)
    · refine e_L 1 (f' := (23, [(0, .ref 151)], [.int (0 : Int32)])) rfl ?_
      exact e_rZ rfl rfl (by decide)
    · refine e_L 2 (f' := (23, [(0, .ref 151)], [.int (1 : Int32)])) rfl ?_
      exact e_rZ rfl rfl (by decide)
set_option maxRecDepth 100000 in
set_option maxHeartbeats 4000000 in
theorem le_X12_isWord (en : pN) (d : Nat) (a1 : Int64) (s : qS) : qle (if ¬ (s.1 151 3) = (1 : Int32) then some (some (.int (0 : Int32)), s) else if ¬ (lg_cmp (s.2.1 151 5) a1) = (0 : Int32) then some (some (.int (0 : Int32)), s) else some (some (.int (1 : Int32)), s)) (qev en (d + 1) 255 [.ref 151, .long a1] s) := by
  refine e_enter ix_X12_isWord (Nat.le_of_ble_eq_true rfl) ?_
  show qle _ (qE (qev en d) en (some .boolean) tb_X12_isWord (0, [(0, .ref 151), (1, .long a1)], []) s)
  refine e_L 1 (f' := (1, [(0, .ref 151), (1, .long a1)], [.ref 151])) rfl ?_
  refine e_gI 12 3 rfl rfl lc_151 ?_
  refine e_L 1 (f' := (5, [(0, .ref 151), (1, .long a1)], [.int (1 : Int32), .int (s.1 151 3)])) rfl ?_
  refine e_icmp 21 rfl rfl rfl (fun c1 => ?_) (fun c1 => ?_)
  · refine e_L 1 (f' := (22, [(0, .ref 151), (1, .long a1)], [.int (0 : Int32)])) rfl ?_
    exact e_rZ rfl rfl (by decide)
  · refine e_L 1 (f' := (9, [(0, .ref 151), (1, .long a1)], [.ref 151])) rfl ?_
    refine e_gJ 12 5 rfl rfl lc_151 ?_
    refine e_L 2 (f' := (14, [(0, .ref 151), (1, .long a1)], [.int (lg_cmp (s.2.1 151 5) a1)])) rfl ?_
    refine e_ifz 21 rfl rfl rfl (fun c2 => ?_) (fun c2 => ?_)
    · refine e_L 1 (f' := (22, [(0, .ref 151), (1, .long a1)], [.int (0 : Int32)])) rfl ?_
      exact e_rZ rfl rfl (by decide)
    · refine e_L 2 (f' := (22, [(0, .ref 151), (1, .long a1)], [.int (1 : Int32)])) rfl ?_
      exact e_rZ rfl rfl (by decide)
noncomputable def L_X12_cellOf_2 (en : pN) (d : Nat) (v1 : Int64) (v3 : Int32) (s : qS) : Option qR := qE (qev en d) en (some .int) tb_X12_cellOf (2, [(0, .ref 151), (1, .long v1), (3, .int v3)], []) s
set_option maxRecDepth 100000 in
set_option maxHeartbeats 4000000 in
theorem le_X12_cellOf_2 (en : pN) (d : Nat) (v1 : Int64) (v3 : Int32) (s : qS) : qle (if (s.1 151 12) ≤ v3 then some (some (.int (-1 : Int32)), s) else gd (p_inB v3 8 = true) (if ¬ (lg_cmp (s.2.1 153 v3.toNatClampNeg) v1) = (0 : Int32) then L_X12_cellOf_2 en d v1 (v3 + (1 : Int32)) s else some (some (.int v3), s))) (L_X12_cellOf_2 en d v1 v3 s) := by
  show qle _ (qE (qev en d) en (some .int) tb_X12_cellOf (2, [(0, .ref 151), (1, .long v1), (3, .int v3)], []) s)
  refine e_L 2 (f' := (4, [(0, .ref 151), (1, .long v1), (3, .int v3)], [.ref 151, .int v3])) rfl ?_
  refine e_gI 12 12 rfl rfl lc_151 ?_
  refine e_icmp 29 rfl rfl rfl (fun c1 => ?_) (fun c1 => ?_)
  · refine e_L 1 (f' := (30, [(0, .ref 151), (1, .long v1), (3, .int v3)], [.int (-1 : Int32)])) rfl ?_
    exact e_rI rfl rfl
  · refine e_L 1 (f' := (11, [(0, .ref 151), (1, .long v1), (3, .int v3)], [.ref 151])) rfl ?_
    refine e_gR (q := 153) 12 13 rfl rfl lc_151 lr_151_13 ?_
    refine e_L 1 (f' := (15, [(0, .ref 151), (1, .long v1), (3, .int v3)], [.int v3, .ref 153])) rfl ?_
    refine qle_gd fun h2 => ?_
    refine e_lal (n := 8) (k := v3.toNatClampNeg) rfl lc_153 ln_153 h2 rfl ?_
    refine e_L 2 (f' := (18, [(0, .ref 151), (1, .long v1), (3, .int v3)], [.int (lg_cmp (s.2.1 153 v3.toNatClampNeg) v1)])) rfl ?_
    refine e_ifz 23 rfl rfl rfl (fun c3 => ?_) (fun c3 => ?_)
    · refine e_L 2 (f' := (2, [(3, .int (v3 + (1 : Int32))), (0, .ref 151), (1, .long v1)], [])) rfl ?_
      exact qE_sub (qsubL [1, 2, 0] rfl (ks := [3, 0, 1]) rfl (by decide))
    · refine e_L 1 (f' := (22, [(0, .ref 151), (1, .long v1), (3, .int v3)], [.int v3])) rfl ?_
      exact e_rI rfl rfl
set_option maxRecDepth 100000 in
set_option maxHeartbeats 4000000 in
theorem le_X12_cellOf (en : pN) (d : Nat) (a1 : Int64) (s : qS) : qle (L_X12_cellOf_2 en d a1 (0 : Int32) s) (qev en (d + 1) 256 [.ref 151, .long a1] s) := by
  refine e_enter ix_X12_cellOf (Nat.le_of_ble_eq_true rfl) ?_
  show qle _ (qE (qev en d) en (some .int) tb_X12_cellOf (0, [(0, .ref 151), (1, .long a1)], []) s)
  refine e_L 2 (f' := (2, [(3, .int (0 : Int32)), (0, .ref 151), (1, .long a1)], [])) rfl ?_
  exact qE_sub (qsubL [1, 2, 0] rfl (ks := [3, 0, 1]) rfl (by decide))
noncomputable def L_X12_lockOf_2 (en : pN) (d : Nat) (v1 : Int64) (v3 : Int32) (s : qS) : Option qR := qE (qev en d) en (some .int) tb_X12_lockOf (2, [(0, .ref 151), (1, .long v1), (3, .int v3)], []) s
set_option maxRecDepth 100000 in
set_option maxHeartbeats 4000000 in
theorem le_X12_lockOf_2 (en : pN) (d : Nat) (v1 : Int64) (v3 : Int32) (s : qS) : qle (if (s.1 151 16) ≤ v3 then some (some (.int (-1 : Int32)), s) else gd (p_inB v3 4 = true) (if ¬ (lg_cmp (s.2.1 156 v3.toNatClampNeg) v1) = (0 : Int32) then L_X12_lockOf_2 en d v1 (v3 + (1 : Int32)) s else some (some (.int v3), s))) (L_X12_lockOf_2 en d v1 v3 s) := by
  show qle _ (qE (qev en d) en (some .int) tb_X12_lockOf (2, [(0, .ref 151), (1, .long v1), (3, .int v3)], []) s)
  refine e_L 2 (f' := (4, [(0, .ref 151), (1, .long v1), (3, .int v3)], [.ref 151, .int v3])) rfl ?_
  refine e_gI 12 16 rfl rfl lc_151 ?_
  refine e_icmp 29 rfl rfl rfl (fun c1 => ?_) (fun c1 => ?_)
  · refine e_L 1 (f' := (30, [(0, .ref 151), (1, .long v1), (3, .int v3)], [.int (-1 : Int32)])) rfl ?_
    exact e_rI rfl rfl
  · refine e_L 1 (f' := (11, [(0, .ref 151), (1, .long v1), (3, .int v3)], [.ref 151])) rfl ?_
    refine e_gR (q := 156) 12 17 rfl rfl lc_151 lr_151_17 ?_
    refine e_L 1 (f' := (15, [(0, .ref 151), (1, .long v1), (3, .int v3)], [.int v3, .ref 156])) rfl ?_
    refine qle_gd fun h2 => ?_
    refine e_lal (n := 4) (k := v3.toNatClampNeg) rfl lc_156 ln_156 h2 rfl ?_
    refine e_L 2 (f' := (18, [(0, .ref 151), (1, .long v1), (3, .int v3)], [.int (lg_cmp (s.2.1 156 v3.toNatClampNeg) v1)])) rfl ?_
    refine e_ifz 23 rfl rfl rfl (fun c3 => ?_) (fun c3 => ?_)
    · refine e_L 2 (f' := (2, [(3, .int (v3 + (1 : Int32))), (0, .ref 151), (1, .long v1)], [])) rfl ?_
      exact qE_sub (qsubL [1, 2, 0] rfl (ks := [3, 0, 1]) rfl (by decide))
    · refine e_L 1 (f' := (22, [(0, .ref 151), (1, .long v1), (3, .int v3)], [.int v3])) rfl ?_
      exact e_rI rfl rfl
set_option maxRecDepth 100000 in
set_option maxHeartbeats 4000000 in
theorem le_X12_lockOf (en : pN) (d : Nat) (a1 : Int64) (s : qS) : qle (L_X12_lockOf_2 en d a1 (0 : Int32) s) (qev en (d + 1) 257 [.ref 151, .long a1] s) := by
  refine e_enter ix_X12_lockOf (Nat.le_of_ble_eq_true rfl) ?_
  show qle _ (qE (qev en d) en (some .int) tb_X12_lockOf (0, [(0, .ref 151), (1, .long a1)], []) s)
  refine e_L 2 (f' := (2, [(3, .int (0 : Int32)), (0, .ref 151), (1, .long a1)], [])) rfl ?_
  exact qE_sub (qsubL [1, 2, 0] rfl (ks := [3, 0, 1]) rfl (by decide))
noncomputable def L_X12_threadOf_2 (en : pN) (d : Nat) (v1 : Int64) (v3 : Int32) (s : qS) : Option qR := qE (qev en d) en (some .int) tb_X12_threadOf (2, [(0, .ref 151), (1, .long v1), (3, .int v3)], []) s
set_option maxRecDepth 100000 in
set_option maxHeartbeats 4000000 in
theorem le_X12_threadOf_2 (en : pN) (d : Nat) (v1 : Int64) (v3 : Int32) (s : qS) : qle (if (s.1 151 18) ≤ v3 then some (some (.int (-1 : Int32)), s) else gd (p_inB v3 4 = true) (if ¬ (lg_cmp (s.2.1 157 v3.toNatClampNeg) v1) = (0 : Int32) then L_X12_threadOf_2 en d v1 (v3 + (1 : Int32)) s else some (some (.int v3), s))) (L_X12_threadOf_2 en d v1 v3 s) := by
  show qle _ (qE (qev en d) en (some .int) tb_X12_threadOf (2, [(0, .ref 151), (1, .long v1), (3, .int v3)], []) s)
  refine e_L 2 (f' := (4, [(0, .ref 151), (1, .long v1), (3, .int v3)], [.ref 151, .int v3])) rfl ?_
  refine e_gI 12 18 rfl rfl lc_151 ?_
  refine e_icmp 29 rfl rfl rfl (fun c1 => ?_) (fun c1 => ?_)
  · refine e_L 1 (f' := (30, [(0, .ref 151), (1, .long v1), (3, .int v3)], [.int (-1 : Int32)])) rfl ?_
    exact e_rI rfl rfl
  · refine e_L 1 (f' := (11, [(0, .ref 151), (1, .long v1), (3, .int v3)], [.ref 151])) rfl ?_
    refine e_gR (q := 157) 12 19 rfl rfl lc_151 lr_151_19 ?_
    refine e_L 1 (f' := (15, [(0, .ref 151), (1, .long v1), (3, .int v3)], [.int v3, .ref 157])) rfl ?_
    refine qle_gd fun h2 => ?_
    refine e_lal (n := 4) (k := v3.toNatClampNeg) rfl lc_157 ln_157 h2 rfl ?_
    refine e_L 2 (f' := (18, [(0, .ref 151), (1, .long v1), (3, .int v3)], [.int (lg_cmp (s.2.1 157 v3.toNatClampNeg) v1)])) rfl ?_
    refine e_ifz 23 rfl rfl rfl (fun c3 => ?_) (fun c3 => ?_)
    · refine e_L 2 (f' := (2, [(3, .int (v3 + (1 : Int32))), (0, .ref 151), (1, .long v1)], [])) rfl ?_
      exact qE_sub (qsubL [1, 2, 0] rfl (ks := [3, 0, 1]) rfl (by decide))
    · refine e_L 1 (f' := (22, [(0, .ref 151), (1, .long v1), (3, .int v3)], [.int v3])) rfl ?_
      exact e_rI rfl rfl
set_option maxRecDepth 100000 in
set_option maxHeartbeats 4000000 in
theorem le_X12_threadOf (en : pN) (d : Nat) (a1 : Int64) (s : qS) : qle (L_X12_threadOf_2 en d a1 (0 : Int32) s) (qev en (d + 1) 258 [.ref 151, .long a1] s) := by
  refine e_enter ix_X12_threadOf (Nat.le_of_ble_eq_true rfl) ?_
  show qle _ (qE (qev en d) en (some .int) tb_X12_threadOf (0, [(0, .ref 151), (1, .long a1)], []) s)
  refine e_L 2 (f' := (2, [(3, .int (0 : Int32)), (0, .ref 151), (1, .long a1)], [])) rfl ?_
  exact qE_sub (qsubL [1, 2, 0] rfl (ks := [3, 0, 1]) rfl (by decide))
noncomputable def L_X12_localOf_3 (en : pN) (d : Nat) (v1 : Int32) (v2 : Int64) (v4 : Int32) (s : qS) : Option qR := qE (qev en d) en (some .int) tb_X12_localOf (3, [(0, .ref 151), (1, .int v1), (2, .long v2), (4, .int v4)], []) s
set_option maxRecDepth 100000 in
set_option maxHeartbeats 4000000 in
theorem le_X12_localOf_3 (en : pN) (d : Nat) (v1 : Int32) (v2 : Int64) (v4 : Int32) (s : qS) : qle (gd (p_inB v1 4 = true) (if (s.1 159 v1.toNatClampNeg) ≤ v4 then some (some (.int (-1 : Int32)), s) else gd (p_inB (((6 : Int32) * v1) + v4) 24 = true) (if ¬ (lg_cmp (s.2.1 160 (((6 : Int32) * v1) + v4).toNatClampNeg) v2) = (0 : Int32) then L_X12_localOf_3 en d v1 v2 (v4 + (1 : Int32)) s else some (some (.int v4), s)))) (L_X12_localOf_3 en d v1 v2 v4 s) := by
  show qle _ (qE (qev en d) en (some .int) tb_X12_localOf (3, [(0, .ref 151), (1, .int v1), (2, .long v2), (4, .int v4)], []) s)
  refine e_L 2 (f' := (6, [(0, .ref 151), (1, .int v1), (2, .long v2), (4, .int v4)], [.ref 151, .int v4])) rfl ?_
  refine e_gR (q := 159) 12 21 rfl rfl lc_151 lr_151_21 ?_
  refine e_L 1 (f' := (10, [(0, .ref 151), (1, .int v1), (2, .long v2), (4, .int v4)], [.int v1, .ref 159, .int v4])) rfl ?_
  refine qle_gd fun h1 => ?_
  refine e_ial (n := 4) (k := v1.toNatClampNeg) rfl lc_159 ln_159 h1 rfl ?_
  refine e_icmp 40 rfl rfl rfl (fun c2 => ?_) (fun c2 => ?_)
  · refine e_L 1 (f' := (41, [(0, .ref 151), (1, .int v1), (2, .long v2), (4, .int v4)], [.int (-1 : Int32)])) rfl ?_
    exact e_rI rfl rfl
  · refine e_L 1 (f' := (15, [(0, .ref 151), (1, .int v1), (2, .long v2), (4, .int v4)], [.ref 151])) rfl ?_
    refine e_gR (q := 160) 12 22 rfl rfl lc_151 lr_151_22 ?_
    refine e_L 5 (f' := (25, [(0, .ref 151), (1, .int v1), (2, .long v2), (4, .int v4)], [.int (((6 : Int32) * v1) + v4), .ref 160])) rfl ?_
    refine qle_gd fun h3 => ?_
    refine e_lal (n := 24) (k := (((6 : Int32) * v1) + v4).toNatClampNeg) rfl lc_160 ln_160 h3 rfl ?_
    refine e_L 2 (f' := (28, [(0, .ref 151), (1, .int v1), (2, .long v2), (4, .int v4)], [.int (lg_cmp (s.2.1 160 (((6 : Int32) * v1) + v4).toNatClampNeg) v2)])) rfl ?_
    refine e_ifz 34 rfl rfl rfl (fun c4 => ?_) (fun c4 => ?_)
    · refine e_L 2 (f' := (3, [(4, .int (v4 + (1 : Int32))), (0, .ref 151), (1, .int v1), (2, .long v2)], [])) rfl ?_
      exact qE_sub (qsubL [1, 2, 3, 0] rfl (ks := [4, 0, 1, 2]) rfl (by decide))
    · refine e_L 1 (f' := (33, [(0, .ref 151), (1, .int v1), (2, .long v2), (4, .int v4)], [.int v4])) rfl ?_
      exact e_rI rfl rfl
set_option maxRecDepth 100000 in
set_option maxHeartbeats 4000000 in
theorem le_X12_localOf (en : pN) (d : Nat) (a1 : Int32) (a2 : Int64) (s : qS) : qle (L_X12_localOf_3 en d a1 a2 (0 : Int32) s) (qev en (d + 1) 259 [.ref 151, .int a1, .long a2] s) := by
  refine e_enter ix_X12_localOf (Nat.le_of_ble_eq_true rfl) ?_
  show qle _ (qE (qev en d) en (some .int) tb_X12_localOf (0, [(0, .ref 151), (1, .int a1), (2, .long a2)], []) s)
  refine e_L 2 (f' := (3, [(4, .int (0 : Int32)), (0, .ref 151), (1, .int a1), (2, .long a2)], [])) rfl ?_
  exact qE_sub (qsubL [1, 2, 3, 0] rfl (ks := [4, 0, 1, 2]) rfl (by decide))
set_option maxRecDepth 100000 in
set_option maxHeartbeats 4000000 in
theorem le_X12_isTold (en : pN) (d : Nat) (a1 : Int64) (s : qS) : qle (bI (qev en d 256 [.ref 151, .long a1] s) (fun w1 s2 => if ¬ w1 = (-1 : Int32) then some (some (.int (1 : Int32)), s2) else bI (qev en d 257 [.ref 151, .long a1] s2) (fun w5 s6 => if ¬ w5 = (-1 : Int32) then some (some (.int (1 : Int32)), s6) else bI (qev en d 258 [.ref 151, .long a1] s6) (fun w9 s10 => if w9 = (-1 : Int32) then some (some (.int (0 : Int32)), s10) else some (some (.int (1 : Int32)), s10))))) (qev en (d + 1) 260 [.ref 151, .long a1] s) := by
  refine e_enter ix_X12_isTold (Nat.le_of_ble_eq_true rfl) ?_
  show qle _ (qE (qev en d) en (some .boolean) tb_X12_isTold (0, [(0, .ref 151), (1, .long a1)], []) s)
  refine e_L 2 (f' := (2, [(0, .ref 151), (1, .long a1)], [.long a1, .ref 151])) rfl ?_
  refine e_vI 256 rfl rfl ix_X12_cellOf rfl (q_recvOf lc_151 rfl) (Nat.le_of_ble_eq_true rfl) (fun w1 s2 e3 => ?_)
  refine e_L 1 (f' := (6, [(0, .ref 151), (1, .long a1)], [.int (-1 : Int32), .int w1])) rfl ?_
  refine e_icmp 27 rfl rfl rfl (fun c4 => ?_) (fun c4 => ?_)
  · refine e_L 2 (f' := (32, [(0, .ref 151), (1, .long a1)], [.int (1 : Int32)])) rfl ?_
    exact e_rZ rfl rfl (by decide)
  · refine e_L 2 (f' := (11, [(0, .ref 151), (1, .long a1)], [.long a1, .ref 151])) rfl ?_
    refine e_vI 257 rfl rfl ix_X12_lockOf rfl (q_recvOf lc_151 rfl) (Nat.le_of_ble_eq_true rfl) (fun w5 s6 e7 => ?_)
    refine e_L 1 (f' := (15, [(0, .ref 151), (1, .long a1)], [.int (-1 : Int32), .int w5])) rfl ?_
    refine e_icmp 27 rfl rfl rfl (fun c8 => ?_) (fun c8 => ?_)
    · refine e_L 2 (f' := (32, [(0, .ref 151), (1, .long a1)], [.int (1 : Int32)])) rfl ?_
      exact e_rZ rfl rfl (by decide)
    · refine e_L 2 (f' := (20, [(0, .ref 151), (1, .long a1)], [.long a1, .ref 151])) rfl ?_
      refine e_vI 258 rfl rfl ix_X12_threadOf rfl (q_recvOf lc_151 rfl) (Nat.le_of_ble_eq_true rfl) (fun w9 s10 e11 => ?_)
      refine e_L 1 (f' := (24, [(0, .ref 151), (1, .long a1)], [.int (-1 : Int32), .int w9])) rfl ?_
      refine e_icmp 31 rfl rfl rfl (fun c12 => ?_) (fun c12 => ?_)
      · refine e_L 1 (f' := (32, [(0, .ref 151), (1, .long a1)], [.int (0 : Int32)])) rfl ?_
        exact e_rZ rfl rfl (by decide)
      · refine e_L 2 (f' := (32, [(0, .ref 151), (1, .long a1)], [.int (1 : Int32)])) rfl ?_
        exact e_rZ rfl rfl (by decide)
noncomputable def L_X12_takeLocal_39 (en : pN) (d : Nat) (v1 : Int32) (v2 : Int32) (vs1 : Int32) (s : qS) : Option qR := qE (qev en d) en (some .int) tb_X12_takeLocal (39, [(0, .ref 151), (1, .int v1), (2, .int v2)], [.int vs1, .ref 151]) s
set_option maxRecDepth 100000 in
set_option maxHeartbeats 4000000 in
theorem le_X12_takeLocal_39 (en : pN) (d : Nat) (v1 : Int32) (v2 : Int32) (vs1 : Int32) (s : qS) : qle (bV (qev en d 245 [.ref 151, .int vs1, .int (4 : Int32)] s) (fun s2 => bI (qev en d 243 [.ref 151] s2) (fun w4 s5 => if w4 = (0 : Int32) then some (some (.int v2), s5) else gd (p_inB v1 4 = true) (nm (s5.1 159 v1.toNatClampNeg) (fun z9 => gd (p_inB (((6 : Int32) * v1) + z9) 24 = true) (nm (uJ s5 160 ((((6 : Int32) * v1) + z9).toNatClampNeg) (s5.2.1 151 5)) (fun s11 => nm (uI s11 159 (v1.toNatClampNeg) ((s11.1 159 v1.toNatClampNeg) + (1 : Int32))) (fun s12 => some (some (.int z9), s12))))))))) (L_X12_takeLocal_39 en d v1 v2 vs1 s) := by
  show qle _ (qE (qev en d) en (some .int) tb_X12_takeLocal (39, [(0, .ref 151), (1, .int v1), (2, .int v2)], [.int vs1, .ref 151]) s)
  refine e_L 1 (f' := (40, [(0, .ref 151), (1, .int v1), (2, .int v2)], [.int (4 : Int32), .int vs1, .ref 151])) rfl ?_
  refine e_vV 245 rfl rfl ix_X12_need rfl (q_recvOf lc_151 rfl) (Nat.le_of_ble_eq_true rfl) (fun s2 e3 => ?_)
  refine e_L 1 (f' := (44, [(0, .ref 151), (1, .int v1), (2, .int v2)], [.ref 151])) rfl ?_
  refine e_vI 243 rfl rfl ix_X12_good rfl (q_recvOf lc_151 rfl) (Nat.le_of_ble_eq_true rfl) (fun w4 s5 e6 => ?_)
  refine e_ifz 82 rfl rfl rfl (fun c7 => ?_) (fun c7 => ?_)
  · refine e_L 1 (f' := (83, [(0, .ref 151), (1, .int v1), (2, .int v2)], [.int v2])) rfl ?_
    exact e_rI rfl rfl
  · refine e_L 1 (f' := (51, [(0, .ref 151), (1, .int v1), (2, .int v2)], [.ref 151])) rfl ?_
    refine e_gR (q := 159) 12 21 rfl rfl lc_151 lr_151_21 ?_
    refine e_L 1 (f' := (55, [(0, .ref 151), (1, .int v1), (2, .int v2)], [.int v1, .ref 159])) rfl ?_
    refine qle_gd fun h8 => ?_
    refine e_ial (n := 4) (k := v1.toNatClampNeg) rfl lc_159 ln_159 h8 rfl ?_
    refine e_nI fun z9 => ?_
    refine e_L 2 (f' := (58, [(2, .int z9), (0, .ref 151), (1, .int v1)], [.ref 151])) rfl ?_
    refine e_gR (q := 160) 12 22 rfl rfl lc_151 lr_151_22 ?_
    refine e_L 6 (f' := (68, [(2, .int z9), (0, .ref 151), (1, .int v1)], [.ref 151, .int (((6 : Int32) * v1) + z9), .ref 160])) rfl ?_
    refine e_gJ 12 5 rfl rfl lc_151 ?_
    refine qle_gd fun h10 => ?_
    refine e_las (n := 24) (k := (((6 : Int32) * v1) + z9).toNatClampNeg) rfl lc_160 ln_160 h10 rfl ?_
    refine e_nS fun s11 => ?_
    refine e_L 1 (f' := (73, [(2, .int z9), (0, .ref 151), (1, .int v1)], [.ref 151])) rfl ?_
    refine e_gR (q := 159) 12 21 rfl rfl lc_151 lr_151_21 ?_
    refine e_L 2 (f' := (78, [(2, .int z9), (0, .ref 151), (1, .int v1)], [.int v1, .ref 159, .int v1, .ref 159])) rfl ?_
    refine e_ial (n := 4) (k := v1.toNatClampNeg) rfl lc_159 ln_159 h8 rfl ?_
    refine e_L 2 (f' := (81, [(2, .int z9), (0, .ref 151), (1, .int v1)], [.int ((s11.1 159 v1.toNatClampNeg) + (1 : Int32)), .int v1, .ref 159])) rfl ?_
    refine e_ias (n := 4) (k := v1.toNatClampNeg) rfl lc_159 ln_159 h8 rfl ?_
    refine e_nS fun s12 => ?_
    refine e_L 1 (f' := (83, [(2, .int z9), (0, .ref 151), (1, .int v1)], [.int z9])) rfl ?_
    exact e_rI rfl rfl
set_option maxRecDepth 100000 in
set_option maxHeartbeats 4000000 in
theorem le_X12_takeLocal (en : pN) (d : Nat) (s : qS) : qle (nm ((s.1 151 18) - (1 : Int32)) (fun z1 => bI (qev en d 259 [.ref 151, .int z1, .long (s.2.1 151 5)] s) (fun w2 s3 => if ¬ w2 = (-1 : Int32) then some (some (.int w2), s3) else gd (p_inB z1 4 = true) (if (6 : Int32) ≤ (s3.1 159 z1.toNatClampNeg) then L_X12_takeLocal_39 en d z1 w2 (0 : Int32) s3 else L_X12_takeLocal_39 en d z1 w2 (1 : Int32) s3)))) (qev en (d + 1) 261 [.ref 151] s) := by
  refine e_enter ix_X12_takeLocal (Nat.le_of_ble_eq_true rfl) ?_
  show qle _ (qE (qev en d) en (some .int) tb_X12_takeLocal (0, [(0, .ref 151)], []) s)
  refine e_L 1 (f' := (1, [(0, .ref 151)], [.ref 151])) rfl ?_
  refine e_gI 12 18 rfl rfl lc_151 ?_
  refine e_L 2 (f' := (6, [(0, .ref 151)], [.int ((s.1 151 18) - (1 : Int32))])) rfl ?_
  refine e_nI fun z1 => ?_
  refine e_L 4 (f' := (10, [(1, .int z1), (0, .ref 151)], [.ref 151, .int z1, .ref 151])) rfl ?_
  refine e_gJ 12 5 rfl rfl lc_151 ?_
  refine e_vI 259 rfl rfl ix_X12_localOf rfl (q_recvOf lc_151 rfl) (Nat.le_of_ble_eq_true rfl) (fun w2 s3 e4 => ?_)
  refine e_L 3 (f' := (19, [(2, .int w2), (1, .int z1), (0, .ref 151)], [.int (-1 : Int32), .int w2])) rfl ?_
  refine e_icmp 82 rfl rfl rfl (fun c5 => ?_) (fun c5 => ?_)
  · refine e_L 1 (f' := (83, [(2, .int w2), (1, .int z1), (0, .ref 151)], [.int w2])) rfl ?_
    exact e_rI rfl rfl
  · refine e_L 2 (f' := (24, [(2, .int w2), (1, .int z1), (0, .ref 151)], [.ref 151, .ref 151])) rfl ?_
    refine e_gR (q := 159) 12 21 rfl rfl lc_151 lr_151_21 ?_
    refine e_L 1 (f' := (28, [(2, .int w2), (1, .int z1), (0, .ref 151)], [.int z1, .ref 159, .ref 151])) rfl ?_
    refine qle_gd fun h6 => ?_
    refine e_ial (n := 4) (k := z1.toNatClampNeg) rfl lc_159 ln_159 h6 rfl ?_
    refine e_L 1 (f' := (31, [(2, .int w2), (1, .int z1), (0, .ref 151)], [.int (6 : Int32), .int (s3.1 159 z1.toNatClampNeg), .ref 151])) rfl ?_
    refine e_icmp 38 rfl rfl rfl (fun c7 => ?_) (fun c7 => ?_)
    · refine e_L 1 (f' := (39, [(2, .int w2), (1, .int z1), (0, .ref 151)], [.int (0 : Int32), .ref 151])) rfl ?_
      exact qE_sub (qsubL [2, 1, 0] rfl (ks := [2, 1, 0]) rfl (by decide))
    · refine e_L 2 (f' := (39, [(2, .int w2), (1, .int z1), (0, .ref 151)], [.int (1 : Int32), .ref 151])) rfl ?_
      exact qE_sub (qsubL [2, 1, 0] rfl (ks := [2, 1, 0]) rfl (by decide))
set_option maxRecDepth 100000 in
set_option maxHeartbeats 4000000 in
theorem le_X12_emit (en : pN) (d : Nat) (a1 : Int32) (a2 : Int32) (s : qS) : qle (bI (qev en d 243 [.ref 151] s) (fun w1 s2 => if w1 = (0 : Int32) then some (none, s2) else gd (p_inB (s2.1 151 25) 900 = true) (nm (uI s2 161 ((s2.1 151 25).toNatClampNeg) a1) (fun s6 => gd (p_inB (s6.1 151 25) 900 = true) (nm (uI s6 162 ((s6.1 151 25).toNatClampNeg) a2) (fun s8 => nm (uI s8 151 25 ((s8.1 151 25) + (1 : Int32))) (fun s9 => some (none, s9)))))))) (qev en (d + 1) 262 [.ref 151, .int a1, .int a2] s) := by
  refine e_enter ix_X12_emit (Nat.le_of_ble_eq_true rfl) ?_
  show qle _ (qE (qev en d) en none tb_X12_emit (0, [(0, .ref 151), (1, .int a1), (2, .int a2)], []) s)
  refine e_L 1 (f' := (1, [(0, .ref 151), (1, .int a1), (2, .int a2)], [.ref 151])) rfl ?_
  refine e_vI 243 rfl rfl ix_X12_good rfl (q_recvOf lc_151 rfl) (Nat.le_of_ble_eq_true rfl) (fun w1 s2 e3 => ?_)
  refine e_ifz 37 rfl rfl rfl (fun c4 => ?_) (fun c4 => ?_)
  · exact e_rV rfl rfl
  · refine e_L 1 (f' := (8, [(0, .ref 151), (1, .int a1), (2, .int a2)], [.ref 151])) rfl ?_
    refine e_gR (q := 161) 12 23 rfl rfl lc_151 lr_151_23 ?_
    refine e_L 1 (f' := (12, [(0, .ref 151), (1, .int a1), (2, .int a2)], [.ref 151, .ref 161])) rfl ?_
    refine e_gI 12 25 rfl rfl lc_151 ?_
    refine e_L 1 (f' := (16, [(0, .ref 151), (1, .int a1), (2, .int a2)], [.int a1, .int (s2.1 151 25), .ref 161])) rfl ?_
    refine qle_gd fun h5 => ?_
    refine e_ias (n := 900) (k := (s2.1 151 25).toNatClampNeg) rfl lc_161 ln_161 h5 rfl ?_
    refine e_nS fun s6 => ?_
    refine e_L 1 (f' := (18, [(0, .ref 151), (1, .int a1), (2, .int a2)], [.ref 151])) rfl ?_
    refine e_gR (q := 162) 12 24 rfl rfl lc_151 lr_151_24 ?_
    refine e_L 1 (f' := (22, [(0, .ref 151), (1, .int a1), (2, .int a2)], [.ref 151, .ref 162])) rfl ?_
    refine e_gI 12 25 rfl rfl lc_151 ?_
    refine e_L 1 (f' := (26, [(0, .ref 151), (1, .int a1), (2, .int a2)], [.int a2, .int (s6.1 151 25), .ref 162])) rfl ?_
    refine qle_gd fun h7 => ?_
    refine e_ias (n := 900) (k := (s6.1 151 25).toNatClampNeg) rfl lc_162 ln_162 h7 rfl ?_
    refine e_nS fun s8 => ?_
    refine e_L 2 (f' := (29, [(0, .ref 151), (1, .int a1), (2, .int a2)], [.ref 151, .ref 151])) rfl ?_
    refine e_gI 12 25 rfl rfl lc_151 ?_
    refine e_L 2 (f' := (34, [(0, .ref 151), (1, .int a1), (2, .int a2)], [.int ((s8.1 151 25) + (1 : Int32)), .ref 151])) rfl ?_
    refine e_pI 12 25 rfl rfl lc_151 rfl ?_
    refine e_nS fun s9 => ?_
    exact e_rV rfl rfl
noncomputable def L_X12_countNode_23 (en : pN) (d : Nat) (vs1 : Int32) (s : qS) : Option qR := qE (qev en d) en none tb_X12_countNode (23, [(0, .ref 151)], [.int vs1, .ref 151]) s
set_option maxRecDepth 100000 in
set_option maxHeartbeats 4000000 in
theorem le_X12_countNode_23 (en : pN) (d : Nat) (vs1 : Int32) (s : qS) : qle (bV (qev en d 245 [.ref 151, .int vs1, .int (4 : Int32)] s) (fun s2 => nm (uI s2 151 28 ((s2.1 151 28) + (1 : Int32))) (fun s4 => some (none, s4)))) (L_X12_countNode_23 en d vs1 s) := by
  show qle _ (qE (qev en d) en none tb_X12_countNode (23, [(0, .ref 151)], [.int vs1, .ref 151]) s)
  refine e_L 1 (f' := (24, [(0, .ref 151)], [.int (4 : Int32), .int vs1, .ref 151])) rfl ?_
  refine e_vV 245 rfl rfl ix_X12_need rfl (q_recvOf lc_151 rfl) (Nat.le_of_ble_eq_true rfl) (fun s2 e3 => ?_)
  refine e_L 2 (f' := (29, [(0, .ref 151)], [.ref 151, .ref 151])) rfl ?_
  refine e_gI 12 28 rfl rfl lc_151 ?_
  refine e_L 2 (f' := (34, [(0, .ref 151)], [.int ((s2.1 151 28) + (1 : Int32)), .ref 151])) rfl ?_
  refine e_pI 12 28 rfl rfl lc_151 rfl ?_
  refine e_nS fun s4 => ?_
  exact e_rV rfl rfl
set_option maxRecDepth 100000 in
set_option maxHeartbeats 4000000 in
theorem le_X12_countNode (en : pN) (d : Nat) (s : qS) : qle (bI (qev en d 243 [.ref 151] s) (fun w1 s2 => if w1 = (0 : Int32) then some (none, s2) else if (400 : Int32) ≤ (s2.1 151 28) then L_X12_countNode_23 en d (0 : Int32) s2 else L_X12_countNode_23 en d (1 : Int32) s2)) (qev en (d + 1) 263 [.ref 151] s) := by
  refine e_enter ix_X12_countNode (Nat.le_of_ble_eq_true rfl) ?_
  show qle _ (qE (qev en d) en none tb_X12_countNode (0, [(0, .ref 151)], []) s)
  refine e_L 1 (f' := (1, [(0, .ref 151)], [.ref 151])) rfl ?_
  refine e_vI 243 rfl rfl ix_X12_good rfl (q_recvOf lc_151 rfl) (Nat.le_of_ble_eq_true rfl) (fun w1 s2 e3 => ?_)
  refine e_ifz 37 rfl rfl rfl (fun c4 => ?_) (fun c4 => ?_)
  · exact e_rV rfl rfl
  · refine e_L 2 (f' := (9, [(0, .ref 151)], [.ref 151, .ref 151])) rfl ?_
    refine e_gI 12 28 rfl rfl lc_151 ?_
    refine e_L 1 (f' := (15, [(0, .ref 151)], [.int (400 : Int32), .int (s2.1 151 28), .ref 151])) rfl ?_
    refine e_icmp 22 rfl rfl rfl (fun c5 => ?_) (fun c5 => ?_)
    · refine e_L 1 (f' := (23, [(0, .ref 151)], [.int (0 : Int32), .ref 151])) rfl ?_
      exact qE_sub (qsubL [0] rfl (ks := [0]) rfl (by decide))
    · refine e_L 2 (f' := (23, [(0, .ref 151)], [.int (1 : Int32), .ref 151])) rfl ?_
      exact qE_sub (qsubL [0] rfl (ks := [0]) rfl (by decide))
noncomputable def L_X12_rankOf_36 (en : pN) (d : Nat) (v0 : Int32) (s : qS) : Option qR := qE (qev en d) en (some .int) tb_X12_rankOf (36, [(0, .int v0)], []) s
set_option maxRecDepth 100000 in
set_option maxHeartbeats 4000000 in
theorem le_X12_rankOf_36 (en : pN) (d : Nat) (v0 : Int32) (s : qS) : qle (if v0 = (5 : Int32) then some (some (.int (4 : Int32)), s) else if ¬ v0 = (6 : Int32) then if ¬ v0 = (4 : Int32) then if ¬ v0 = (22 : Int32) then some (some (.int (6 : Int32)), s) else some (some (.int (0 : Int32)), s) else some (some (.int (5 : Int32)), s) else some (some (.int (4 : Int32)), s)) (L_X12_rankOf_36 en d v0 s) := by
  show qle _ (qE (qev en d) en (some .int) tb_X12_rankOf (36, [(0, .int v0)], []) s)
  refine e_L 2 (f' := (38, [(0, .int v0)], [.int (5 : Int32), .int v0])) rfl ?_
  refine e_icmp 47 rfl rfl rfl (fun c1 => ?_) (fun c1 => ?_)
  · refine e_L 2 (f' := (72, [(0, .int v0)], [.int (4 : Int32)])) rfl ?_
    exact e_rI rfl rfl
  · refine e_L 2 (f' := (44, [(0, .int v0)], [.int (6 : Int32), .int v0])) rfl ?_
    refine e_icmp 51 rfl rfl rfl (fun c2 => ?_) (fun c2 => ?_)
    · refine e_L 2 (f' := (53, [(0, .int v0)], [.int (4 : Int32), .int v0])) rfl ?_
      refine e_icmp 60 rfl rfl rfl (fun c3 => ?_) (fun c3 => ?_)
      · refine e_L 2 (f' := (63, [(0, .int v0)], [.int (22 : Int32), .int v0])) rfl ?_
        refine e_icmp 70 rfl rfl rfl (fun c4 => ?_) (fun c4 => ?_)
        · refine e_L 1 (f' := (72, [(0, .int v0)], [.int (6 : Int32)])) rfl ?_
          exact e_rI rfl rfl
        · refine e_L 2 (f' := (72, [(0, .int v0)], [.int (0 : Int32)])) rfl ?_
          exact e_rI rfl rfl
      · refine e_L 2 (f' := (72, [(0, .int v0)], [.int (5 : Int32)])) rfl ?_
        exact e_rI rfl rfl
    · refine e_L 2 (f' := (72, [(0, .int v0)], [.int (4 : Int32)])) rfl ?_
      exact e_rI rfl rfl
set_option maxRecDepth 100000 in
set_option maxHeartbeats 4000000 in
theorem le_X12_rankOf (en : pN) (d : Nat) (a1 : Int32) (s : qS) : qle (if ¬ a1 = (14 : Int32) then if ¬ a1 = (13 : Int32) then if a1 < (7 : Int32) then L_X12_rankOf_36 en d a1 s else if (12 : Int32) < a1 then L_X12_rankOf_36 en d a1 s else some (some (.int (3 : Int32)), s) else some (some (.int (2 : Int32)), s) else some (some (.int (1 : Int32)), s)) (qev en (d + 1) 264 [.int a1] s) := by
  refine e_enter ix_X12_rankOf (Nat.le_of_ble_eq_true rfl) ?_
  show qle _ (qE (qev en d) en (some .int) tb_X12_rankOf (0, [(0, .int a1)], []) s)
  refine e_L 2 (f' := (3, [(0, .int a1)], [.int (14 : Int32), .int a1])) rfl ?_
  refine e_icmp 10 rfl rfl rfl (fun c1 => ?_) (fun c1 => ?_)
  · refine e_L 2 (f' := (13, [(0, .int a1)], [.int (13 : Int32), .int a1])) rfl ?_
    refine e_icmp 20 rfl rfl rfl (fun c2 => ?_) (fun c2 => ?_)
    · refine e_L 2 (f' := (23, [(0, .int a1)], [.int (7 : Int32), .int a1])) rfl ?_
      refine e_icmp 36 rfl rfl rfl (fun c3 => ?_) (fun c3 => ?_)
      · exact qE_sub (qsubL [0] rfl (ks := [0]) rfl (by decide))
      · refine e_L 2 (f' := (29, [(0, .int a1)], [.int (12 : Int32), .int a1])) rfl ?_
        refine e_icmp 36 rfl rfl rfl (fun c4 => ?_) (fun c4 => ?_)
        · exact qE_sub (qsubL [0] rfl (ks := [0]) rfl (by decide))
        · refine e_L 2 (f' := (72, [(0, .int a1)], [.int (3 : Int32)])) rfl ?_
          exact e_rI rfl rfl
    · refine e_L 2 (f' := (72, [(0, .int a1)], [.int (2 : Int32)])) rfl ?_
      exact e_rI rfl rfl
  · refine e_L 2 (f' := (72, [(0, .int a1)], [.int (1 : Int32)])) rfl ?_
    exact e_rI rfl rfl
set_option maxRecDepth 100000 in
set_option maxHeartbeats 4000000 in
theorem le_X12_operatorAtHand (en : pN) (d : Nat) (s : qS) : qle (swL (s.1 151 3).toInt [(38, some (some (.int (13 : Int32)), s)), (42, some (some (.int (4 : Int32)), s)), (43, some (some (.int (5 : Int32)), s)), (45, some (some (.int (6 : Int32)), s)), (60, some (some (.int (9 : Int32)), s)), (62, some (some (.int (11 : Int32)), s)), (124, some (some (.int (14 : Int32)), s)), (161, some (some (.int (8 : Int32)), s)), (188, some (some (.int (10 : Int32)), s)), (189, some (some (.int (7 : Int32)), s)), (190, some (some (.int (12 : Int32)), s))] (some (some (.int (-1 : Int32)), s))) (qev en (d + 1) 265 [.ref 151] s) := by
  refine e_enter ix_X12_operatorAtHand (Nat.le_of_ble_eq_true rfl) ?_
  show qle _ (qE (qev en d) en (some .int) tb_X12_operatorAtHand (0, [(0, .ref 151)], []) s)
  refine e_L 1 (f' := (1, [(0, .ref 151)], [.ref 151])) rfl ?_
  refine e_gI 12 3 rfl rfl lc_151 ?_
  refine e_lsw rfl ⟨rfl, ?_, rfl, ?_, rfl, ?_, rfl, ?_, rfl, ?_, rfl, ?_, rfl, ?_, rfl, ?_, rfl, ?_, rfl, ?_, rfl, ?_, trivial⟩ ?_
  · refine e_L 1 (f' := (109, [(0, .ref 151)], [.int (13 : Int32)])) rfl ?_
    exact e_rI rfl rfl
  · refine e_L 1 (f' := (134, [(0, .ref 151)], [.int (4 : Int32)])) rfl ?_
    exact e_rI rfl rfl
  · refine e_L 1 (f' := (129, [(0, .ref 151)], [.int (5 : Int32)])) rfl ?_
    exact e_rI rfl rfl
  · refine e_L 1 (f' := (132, [(0, .ref 151)], [.int (6 : Int32)])) rfl ?_
    exact e_rI rfl rfl
  · refine e_L 1 (f' := (118, [(0, .ref 151)], [.int (9 : Int32)])) rfl ?_
    exact e_rI rfl rfl
  · refine e_L 1 (f' := (124, [(0, .ref 151)], [.int (11 : Int32)])) rfl ?_
    exact e_rI rfl rfl
  · refine e_L 1 (f' := (106, [(0, .ref 151)], [.int (14 : Int32)])) rfl ?_
    exact e_rI rfl rfl
  · refine e_L 1 (f' := (115, [(0, .ref 151)], [.int (8 : Int32)])) rfl ?_
    exact e_rI rfl rfl
  · refine e_L 1 (f' := (121, [(0, .ref 151)], [.int (10 : Int32)])) rfl ?_
    exact e_rI rfl rfl
  · refine e_L 1 (f' := (112, [(0, .ref 151)], [.int (7 : Int32)])) rfl ?_
    exact e_rI rfl rfl
  · refine e_L 1 (f' := (127, [(0, .ref 151)], [.int (12 : Int32)])) rfl ?_
    exact e_rI rfl rfl
  · refine e_L 1 (f' := (136, [(0, .ref 151)], [.int (-1 : Int32)])) rfl ?_
    exact e_rI rfl rfl
noncomputable def L_X12_settle_0 (en : pN) (d : Nat) (v1 : Int32) (s : qS) : Option qR := qE (qev en d) en none tb_X12_settle (0, [(0, .ref 151), (1, .int v1)], []) s
set_option maxRecDepth 100000 in
set_option maxHeartbeats 4000000 in
theorem le_X12_settle_0 (en : pN) (d : Nat) (v1 : Int32) (s : qS) : qle (if (s.1 151 31) ≤ (0 : Int32) then some (none, s) else gd (p_inB ((s.1 151 31) - (1 : Int32)) 2000 = true) (bI (qev en d 264 [.int (s.1 163 ((s.1 151 31) - (1 : Int32)).toNatClampNeg)] s) (fun w3 s4 => if w3 < v1 then some (none, s4) else gd (p_inB ((s4.1 151 31) - (1 : Int32)) 2000 = true) (if (s4.1 163 ((s4.1 151 31) - (1 : Int32)).toNatClampNeg) = (22 : Int32) then some (none, s4) else nm (uI s4 151 31 ((s4.1 151 31) - (1 : Int32))) (fun s9 => gd (p_inB (s9.1 151 31) 2000 = true) (bV (qev en d 262 [.ref 151, .int (s9.1 163 (s9.1 151 31).toNatClampNeg), .int (0 : Int32)] s9) (fun s12 => L_X12_settle_0 en d v1 s12))))))) (L_X12_settle_0 en d v1 s) := by
  show qle _ (qE (qev en d) en none tb_X12_settle (0, [(0, .ref 151), (1, .int v1)], []) s)
  refine e_L 1 (f' := (1, [(0, .ref 151), (1, .int v1)], [.ref 151])) rfl ?_
  refine e_gI 12 31 rfl rfl lc_151 ?_
  refine e_ifz 68 rfl rfl rfl (fun c1 => ?_) (fun c1 => ?_)
  · exact e_rV rfl rfl
  · refine e_L 1 (f' := (8, [(0, .ref 151), (1, .int v1)], [.ref 151])) rfl ?_
    refine e_gR (q := 163) 12 30 rfl rfl lc_151 lr_151_30 ?_
    refine e_L 1 (f' := (12, [(0, .ref 151), (1, .int v1)], [.ref 151, .ref 163])) rfl ?_
    refine e_gI 12 31 rfl rfl lc_151 ?_
    refine e_L 2 (f' := (17, [(0, .ref 151), (1, .int v1)], [.int ((s.1 151 31) - (1 : Int32)), .ref 163])) rfl ?_
    refine qle_gd fun h2 => ?_
    refine e_ial (n := 2000) (k := ((s.1 151 31) - (1 : Int32)).toNatClampNeg) rfl lc_163 ln_163 h2 rfl ?_
    refine e_sI 264 rfl rfl rfl ix_X12_rankOf rfl (Nat.le_of_ble_eq_true rfl) (fun w3 s4 e5 => ?_)
    refine e_L 1 (f' := (22, [(0, .ref 151), (1, .int v1)], [.int v1, .int w3])) rfl ?_
    refine e_icmp 68 rfl rfl rfl (fun c6 => ?_) (fun c6 => ?_)
    · exact e_rV rfl rfl
    · refine e_L 1 (f' := (26, [(0, .ref 151), (1, .int v1)], [.ref 151])) rfl ?_
      refine e_gR (q := 163) 12 30 rfl rfl lc_151 lr_151_30 ?_
      refine e_L 1 (f' := (30, [(0, .ref 151), (1, .int v1)], [.ref 151, .ref 163])) rfl ?_
      refine e_gI 12 31 rfl rfl lc_151 ?_
      refine e_L 2 (f' := (35, [(0, .ref 151), (1, .int v1)], [.int ((s4.1 151 31) - (1 : Int32)), .ref 163])) rfl ?_
      refine qle_gd fun h7 => ?_
      refine e_ial (n := 2000) (k := ((s4.1 151 31) - (1 : Int32)).toNatClampNeg) rfl lc_163 ln_163 h7 rfl ?_
      refine e_L 1 (f' := (38, [(0, .ref 151), (1, .int v1)], [.int (22 : Int32), .int (s4.1 163 ((s4.1 151 31) - (1 : Int32)).toNatClampNeg)])) rfl ?_
      refine e_icmp 68 rfl rfl rfl (fun c8 => ?_) (fun c8 => ?_)
      · exact e_rV rfl rfl
      · refine e_L 2 (f' := (43, [(0, .ref 151), (1, .int v1)], [.ref 151, .ref 151])) rfl ?_
        refine e_gI 12 31 rfl rfl lc_151 ?_
        refine e_L 2 (f' := (48, [(0, .ref 151), (1, .int v1)], [.int ((s4.1 151 31) - (1 : Int32)), .ref 151])) rfl ?_
        refine e_pI 12 31 rfl rfl lc_151 rfl ?_
        refine e_nS fun s9 => ?_
        refine e_L 2 (f' := (53, [(0, .ref 151), (1, .int v1)], [.ref 151, .ref 151])) rfl ?_
        refine e_gR (q := 163) 12 30 rfl rfl lc_151 lr_151_30 ?_
        refine e_L 1 (f' := (57, [(0, .ref 151), (1, .int v1)], [.ref 151, .ref 163, .ref 151])) rfl ?_
        refine e_gI 12 31 rfl rfl lc_151 ?_
        refine qle_gd fun h10 => ?_
        refine e_ial (n := 2000) (k := (s9.1 151 31).toNatClampNeg) rfl lc_163 ln_163 h10 rfl ?_
        refine e_L 1 (f' := (62, [(0, .ref 151), (1, .int v1)], [.int (0 : Int32), .int (s9.1 163 (s9.1 151 31).toNatClampNeg), .ref 151])) rfl ?_
        refine e_vV 262 rfl rfl ix_X12_emit rfl (q_recvOf lc_151 rfl) (Nat.le_of_ble_eq_true rfl) (fun s12 e13 => ?_)
        refine e_L 1 (f' := (0, [(0, .ref 151), (1, .int v1)], [])) rfl ?_
        exact qE_sub (qsubL [0, 1] rfl (ks := [0, 1]) rfl (by decide))
set_option maxRecDepth 100000 in
set_option maxHeartbeats 4000000 in
theorem le_X12_settle (en : pN) (d : Nat) (a1 : Int32) (s : qS) : qle (L_X12_settle_0 en d a1 s) (qev en (d + 1) 266 [.ref 151, .int a1] s) := by
  refine e_enter ix_X12_settle (Nat.le_of_ble_eq_true rfl) ?_
  show qle _ (qE (qev en d) en none tb_X12_settle (0, [(0, .ref 151), (1, .int a1)], []) s)
  exact qE_sub (qsubL [0, 1] rfl (ks := [0, 1]) rfl (by decide))
set_option maxRecDepth 100000 in
set_option maxHeartbeats 4000000 in
theorem le_X12_lastRank (en : pN) (d : Nat) (a1 : Int32) (s : qS) : qle (if ¬ a1 = (22 : Int32) then bI (qev en d 264 [.int a1] s) (fun w2 s3 => some (some (.int w2), s3)) else some (some (.int (0 : Int32)), s)) (qev en (d + 1) 267 [.int a1] s) := by
  refine e_enter ix_X12_lastRank (Nat.le_of_ble_eq_true rfl) ?_
  show qle _ (qE (qev en d) en (some .int) tb_X12_lastRank (0, [(0, .int a1)], []) s)
  refine e_L 2 (f' := (3, [(0, .int a1)], [.int (22 : Int32), .int a1])) rfl ?_
  refine e_icmp 10 rfl rfl rfl (fun c1 => ?_) (fun c1 => ?_)
  · refine e_L 1 (f' := (11, [(0, .int a1)], [.int a1])) rfl ?_
    refine e_sI 264 rfl rfl rfl ix_X12_rankOf rfl (Nat.le_of_ble_eq_true rfl) (fun w2 s3 e4 => ?_)
    exact e_rI rfl rfl
  · refine e_L 2 (f' := (14, [(0, .int a1)], [.int (0 : Int32)])) rfl ?_
    exact e_rI rfl rfl
noncomputable def L_X12_readExp_20 (en : pN) (d : Nat) (v1 : Int32) (v2 : Int32) (v3 : Int32) (v4 : Int32) (v5 : Int32) (s : qS) : Option qR := qE (qev en d) en (some .int) tb_X12_readExp (20, [(0, .ref 151), (1, .int v1), (2, .int v2), (3, .int v3), (4, .int v4), (5, .int v5)], []) s
noncomputable def L_X12_readExp_108 (en : pN) (d : Nat) (v1 : Int32) (v2 : Int32) (v3 : Int32) (v4 : Int32) (v5 : Int32) (vs0 : Int32) (s : qS) : Option qR := qE (qev en d) en (some .int) tb_X12_readExp (108, [(0, .ref 151), (1, .int v1), (2, .int v2), (3, .int v3), (4, .int v4), (5, .int v5)], [.int vs0]) s
noncomputable def L_X12_readExp_136 (en : pN) (d : Nat) (v1 : Int32) (v2 : Int32) (v3 : Int32) (v4 : Int32) (v5 : Int32) (s : qS) : Option qR := qE (qev en d) en (some .int) tb_X12_readExp (136, [(0, .ref 151), (1, .int v1), (2, .int v2), (3, .int v3), (4, .int v4), (5, .int v5)], []) s
noncomputable def L_X12_readExp_155 (en : pN) (d : Nat) (v1 : Int32) (v2 : Int32) (v3 : Int32) (v4 : Int32) (v5 : Int32) (vs1 : Int32) (s : qS) : Option qR := qE (qev en d) en (some .int) tb_X12_readExp (155, [(0, .ref 151), (1, .int v1), (2, .int v2), (3, .int v3), (4, .int v4), (5, .int v5)], [.int vs1, .ref 151]) s
noncomputable def L_X12_readExp_159 (en : pN) (d : Nat) (v1 : Int32) (v2 : Int32) (v3 : Int32) (v4 : Int32) (v5 : Int32) (s : qS) : Option qR := qE (qev en d) en (some .int) tb_X12_readExp (159, [(0, .ref 151), (1, .int v1), (2, .int v2), (3, .int v3), (4, .int v4), (5, .int v5)], []) s
noncomputable def L_X12_readExp_195 (en : pN) (d : Nat) (v1 : Int32) (v2 : Int32) (v3 : Int32) (v4 : Int32) (v5 : Int32) (s : qS) : Option qR := qE (qev en d) en (some .int) tb_X12_readExp (195, [(0, .ref 151), (1, .int v1), (2, .int v2), (3, .int v3), (4, .int v4), (5, .int v5)], []) s
noncomputable def L_X12_readExp_208 (en : pN) (d : Nat) (v1 : Int32) (v2 : Int32) (v3 : Int32) (v4 : Int32) (v5 : Int32) (s : qS) : Option qR := qE (qev en d) en (some .int) tb_X12_readExp (208, [(0, .ref 151), (1, .int v1), (2, .int v2), (3, .int v3), (4, .int v4), (5, .int v5)], []) s
noncomputable def L_X12_readExp_244 (en : pN) (d : Nat) (v1 : Int32) (v2 : Int32) (v3 : Int32) (v4 : Int32) (v5 : Int32) (vs1 : Int32) (vs2 : Int32) (s : qS) : Option qR := qE (qev en d) en (some .int) tb_X12_readExp (244, [(0, .ref 151), (1, .int v1), (2, .int v2), (3, .int v3), (4, .int v4), (5, .int v5)], [.int vs2, .int vs1, .ref 163]) s
noncomputable def L_X12_readExp_270 (en : pN) (d : Nat) (v1 : Int32) (v3 : Int32) (v4 : Int32) (v5 : Int32) (vs0 : Int32) (vs1 : Int32) (s : qS) : Option qR := qE (qev en d) en (some .int) tb_X12_readExp (270, [(0, .ref 151), (1, .int v1), (3, .int v3), (4, .int v4), (5, .int v5)], [.int vs1, .int vs0]) s
noncomputable def L_X12_readExp_347 (en : pN) (d : Nat) (v1 : Int32) (v2 : Int32) (v3 : Int32) (v4 : Int32) (s : qS) : Option qR := qE (qev en d) en (some .int) tb_X12_readExp (347, [(0, .ref 151), (1, .int v1), (2, .int v2), (3, .int v3), (4, .int v4)], []) s
noncomputable def L_X12_readExp_368 (en : pN) (d : Nat) (v1 : Int32) (v2 : Int32) (v3 : Int32) (v4 : Int32) (v6 : Int32) (vs0 : Int32) (s : qS) : Option qR := qE (qev en d) en (some .int) tb_X12_readExp (368, [(0, .ref 151), (1, .int v1), (2, .int v2), (3, .int v3), (4, .int v4), (6, .int v6)], [.int vs0]) s
noncomputable def L_X12_readExp_389 (en : pN) (d : Nat) (v1 : Int32) (v2 : Int32) (v3 : Int32) (v4 : Int32) (v6 : Int32) (v7 : Int32) (vs1 : Int32) (s : qS) : Option qR := qE (qev en d) en (some .int) tb_X12_readExp (389, [(0, .ref 151), (1, .int v1), (2, .int v2), (3, .int v3), (4, .int v4), (6, .int v6), (7, .int v7)], [.int vs1, .ref 151]) s
noncomputable def L_X12_readExp_392 (en : pN) (d : Nat) (v1 : Int32) (v2 : Int32) (v3 : Int32) (v4 : Int32) (v6 : Int32) (v7 : Int32) (s : qS) : Option qR := qE (qev en d) en (some .int) tb_X12_readExp (392, [(0, .ref 151), (1, .int v1), (2, .int v2), (3, .int v3), (4, .int v4), (6, .int v6), (7, .int v7)], []) s
noncomputable def L_X12_readExp_428 (en : pN) (d : Nat) (v1 : Int32) (v2 : Int32) (v3 : Int32) (v4 : Int32) (v6 : Int32) (vs0 : Int32) (s : qS) : Option qR := qE (qev en d) en (some .int) tb_X12_readExp (428, [(0, .ref 151), (1, .int v1), (2, .int v2), (3, .int v3), (4, .int v4), (6, .int v6)], [.int vs0]) s
noncomputable def L_X12_readExp_446 (en : pN) (d : Nat) (v1 : Int32) (v2 : Int32) (v3 : Int32) (v4 : Int32) (v6 : Int32) (vs0 : Int32) (s : qS) : Option qR := qE (qev en d) en (some .int) tb_X12_readExp (446, [(0, .ref 151), (1, .int v1), (2, .int v2), (3, .int v3), (4, .int v4), (6, .int v6)], [.int vs0]) s
noncomputable def L_X12_readExp_488 (en : pN) (d : Nat) (v1 : Int32) (v2 : Int32) (s : qS) : Option qR := qE (qev en d) en (some .int) tb_X12_readExp (488, [(0, .ref 151), (1, .int v1), (2, .int v2)], []) s
noncomputable def L_X12_readExp_505 (en : pN) (d : Nat) (v1 : Int32) (vs1 : Int32) (s : qS) : Option qR := qE (qev en d) en (some .int) tb_X12_readExp (505, [(0, .ref 151), (1, .int v1)], [.int vs1, .ref 151]) s
noncomputable def L_X12_readExp_509 (en : pN) (d : Nat) (v1 : Int32) (s : qS) : Option qR := qE (qev en d) en (some .int) tb_X12_readExp (509, [(0, .ref 151), (1, .int v1)], []) s
set_option maxRecDepth 100000 in
set_option maxHeartbeats 4000000 in
theorem le_X12_readExp_20 (en : pN) (d : Nat) (v1 : Int32) (v2 : Int32) (v3 : Int32) (v4 : Int32) (v5 : Int32) (s : qS) : qle (bI (qev en d 243 [.ref 151] s) (fun w1 s2 => if w1 = (0 : Int32) then L_X12_readExp_488 en d v1 v2 s2 else if ¬ v5 = (0 : Int32) then L_X12_readExp_488 en d v1 v2 s2 else if v4 = (0 : Int32) then if ¬ (s2.1 151 3) = (41 : Int32) then L_X12_readExp_347 en d v1 v2 v3 v4 s2 else if v2 ≤ (0 : Int32) then L_X12_readExp_347 en d v1 v2 v3 v4 s2 else bV (qev en d 266 [.ref 151, .int (1 : Int32)] s2) (fun s10 => nm (uI s10 151 31 ((s10.1 151 31) - (1 : Int32))) (fun s12 => bV (qev en d 249 [.ref 151] s12) (fun s14 => bI (qev en d 269 [.ref 151] s14) (fun w16 s17 => nm ((v3 + (-1 : Int32)) - w16) (fun z19 => L_X12_readExp_20 en d v1 (v2 + (-1 : Int32)) z19 v4 v5 s17))))) else if (s2.1 151 3) = (2 : Int32) then L_X12_readExp_108 en d v1 v2 v3 v4 v5 (1 : Int32) s2 else if (s2.1 151 3) = (40 : Int32) then L_X12_readExp_108 en d v1 v2 v3 v4 v5 (1 : Int32) s2 else if (s2.1 151 3) = (45 : Int32) then L_X12_readExp_108 en d v1 v2 v3 v4 v5 (1 : Int32) s2 else if (s2.1 151 3) = (33 : Int32) then L_X12_readExp_108 en d v1 v2 v3 v4 v5 (1 : Int32) s2 else if (s2.1 151 29) = (0 : Int32) then bI (qev en d 254 [.ref 151] s2) (fun w25 s26 => if w25 = (0 : Int32) then L_X12_readExp_108 en d v1 v2 v3 v4 v5 (0 : Int32) s26 else L_X12_readExp_108 en d v1 v2 v3 v4 v5 (1 : Int32) s26) else bI (qev en d 254 [.ref 151] s2) (fun w29 s30 => if ¬ w29 = (0 : Int32) then L_X12_readExp_108 en d v1 v2 v3 v4 v5 (1 : Int32) s30 else bI (qev en d 270 [.ref 151] s30) (fun w33 s34 => if w33 = (0 : Int32) then L_X12_readExp_108 en d v1 v2 v3 v4 v5 (0 : Int32) s34 else L_X12_readExp_108 en d v1 v2 v3 v4 v5 (1 : Int32) s34)))) (L_X12_readExp_20 en d v1 v2 v3 v4 v5 s) := by
  show qle _ (qE (qev en d) en (some .int) tb_X12_readExp (20, [(0, .ref 151), (1, .int v1), (2, .int v2), (3, .int v3), (4, .int v4), (5, .int v5)], []) s)
  refine e_L 1 (f' := (21, [(0, .ref 151), (1, .int v1), (2, .int v2), (3, .int v3), (4, .int v4), (5, .int v5)], [.ref 151])) rfl ?_
  refine e_vI 243 rfl rfl ix_X12_good rfl (q_recvOf lc_151 rfl) (Nat.le_of_ble_eq_true rfl) (fun w1 s2 e3 => ?_)
  refine e_ifz 488 rfl rfl rfl (fun c4 => ?_) (fun c4 => ?_)
  · exact qE_sub (qsubL [0, 1, 2] rfl (ks := [0, 1, 2, 3, 4, 5]) rfl (by decide))
  · refine e_L 1 (f' := (29, [(0, .ref 151), (1, .int v1), (2, .int v2), (3, .int v3), (4, .int v4), (5, .int v5)], [.int v5])) rfl ?_
    refine e_ifz 488 rfl rfl rfl (fun c5 => ?_) (fun c5 => ?_)
    · exact qE_sub (qsubL [0, 1, 2] rfl (ks := [0, 1, 2, 3, 4, 5]) rfl (by decide))
    · refine e_L 1 (f' := (34, [(0, .ref 151), (1, .int v1), (2, .int v2), (3, .int v3), (4, .int v4), (5, .int v5)], [.int v4])) rfl ?_
      refine e_ifz 299 rfl rfl rfl (fun c6 => ?_) (fun c6 => ?_)
      · refine e_L 1 (f' := (300, [(0, .ref 151), (1, .int v1), (2, .int v2), (3, .int v3), (4, .int v4), (5, .int v5)], [.ref 151])) rfl ?_
        refine e_gI 12 3 rfl rfl lc_151 ?_
        refine e_L 1 (f' := (305, [(0, .ref 151), (1, .int v1), (2, .int v2), (3, .int v3), (4, .int v4), (5, .int v5)], [.int (41 : Int32), .int (s2.1 151 3)])) rfl ?_
        refine e_icmp 347 rfl rfl rfl (fun c7 => ?_) (fun c7 => ?_)
        · exact qE_sub (qsubL [0, 1, 2, 3, 4] rfl (ks := [0, 1, 2, 3, 4, 5]) rfl (by decide))
        · refine e_L 1 (f' := (309, [(0, .ref 151), (1, .int v1), (2, .int v2), (3, .int v3), (4, .int v4), (5, .int v5)], [.int v2])) rfl ?_
          refine e_ifz 347 rfl rfl rfl (fun c8 => ?_) (fun c8 => ?_)
          · exact qE_sub (qsubL [0, 1, 2, 3, 4] rfl (ks := [0, 1, 2, 3, 4, 5]) rfl (by decide))
          · refine e_L 2 (f' := (314, [(0, .ref 151), (1, .int v1), (2, .int v2), (3, .int v3), (4, .int v4), (5, .int v5)], [.int (1 : Int32), .ref 151])) rfl ?_
            refine e_vV 266 rfl rfl ix_X12_settle rfl (q_recvOf lc_151 rfl) (Nat.le_of_ble_eq_true rfl) (fun s10 e11 => ?_)
            refine e_L 2 (f' := (319, [(0, .ref 151), (1, .int v1), (2, .int v2), (3, .int v3), (4, .int v4), (5, .int v5)], [.ref 151, .ref 151])) rfl ?_
            refine e_gI 12 31 rfl rfl lc_151 ?_
            refine e_L 2 (f' := (324, [(0, .ref 151), (1, .int v1), (2, .int v2), (3, .int v3), (4, .int v4), (5, .int v5)], [.int ((s10.1 151 31) - (1 : Int32)), .ref 151])) rfl ?_
            refine e_pI 12 31 rfl rfl lc_151 rfl ?_
            refine e_nS fun s12 => ?_
            refine e_L 3 (f' := (334, [(3, .int (v3 + (-1 : Int32))), (2, .int (v2 + (-1 : Int32))), (0, .ref 151), (1, .int v1), (4, .int v4), (5, .int v5)], [.ref 151])) rfl ?_
            refine e_vV 249 rfl rfl ix_X12_next rfl (q_recvOf lc_151 rfl) (Nat.le_of_ble_eq_true rfl) (fun s14 e15 => ?_)
            refine e_L 2 (f' := (339, [(3, .int (v3 + (-1 : Int32))), (2, .int (v2 + (-1 : Int32))), (0, .ref 151), (1, .int v1), (4, .int v4), (5, .int v5)], [.ref 151, .int (v3 + (-1 : Int32))])) rfl ?_
            refine e_vI 269 rfl rfl ix_X12_endPrefixes rfl (q_recvOf lc_151 rfl) (Nat.le_of_ble_eq_true rfl) (fun w16 s17 e18 => ?_)
            refine e_L 1 (f' := (343, [(3, .int (v3 + (-1 : Int32))), (2, .int (v2 + (-1 : Int32))), (0, .ref 151), (1, .int v1), (4, .int v4), (5, .int v5)], [.int ((v3 + (-1 : Int32)) - w16)])) rfl ?_
            refine e_nI fun z19 => ?_
            refine e_L 2 (f' := (20, [(3, .int z19), (2, .int (v2 + (-1 : Int32))), (0, .ref 151), (1, .int v1), (4, .int v4), (5, .int v5)], [])) rfl ?_
            exact qE_sub (qsubL [2, 3, 1, 0, 4, 5] rfl (ks := [3, 2, 0, 1, 4, 5]) rfl (by decide))
      · refine e_L 1 (f' := (38, [(0, .ref 151), (1, .int v1), (2, .int v2), (3, .int v3), (4, .int v4), (5, .int v5)], [.ref 151])) rfl ?_
        refine e_gI 12 3 rfl rfl lc_151 ?_
        refine e_L 1 (f' := (42, [(0, .ref 151), (1, .int v1), (2, .int v2), (3, .int v3), (4, .int v4), (5, .int v5)], [.int (2 : Int32), .int (s2.1 151 3)])) rfl ?_
        refine e_icmp 103 rfl rfl rfl (fun c20 => ?_) (fun c20 => ?_)
        · refine e_L 2 (f' := (108, [(0, .ref 151), (1, .int v1), (2, .int v2), (3, .int v3), (4, .int v4), (5, .int v5)], [.int (1 : Int32)])) rfl ?_
          exact qE_sub (qsubL [0, 1, 2, 3, 4, 5] rfl (ks := [0, 1, 2, 3, 4, 5]) rfl (by decide))
        · refine e_L 1 (f' := (46, [(0, .ref 151), (1, .int v1), (2, .int v2), (3, .int v3), (4, .int v4), (5, .int v5)], [.ref 151])) rfl ?_
          refine e_gI 12 3 rfl rfl lc_151 ?_
          refine e_L 1 (f' := (51, [(0, .ref 151), (1, .int v1), (2, .int v2), (3, .int v3), (4, .int v4), (5, .int v5)], [.int (40 : Int32), .int (s2.1 151 3)])) rfl ?_
          refine e_icmp 103 rfl rfl rfl (fun c21 => ?_) (fun c21 => ?_)
          · refine e_L 2 (f' := (108, [(0, .ref 151), (1, .int v1), (2, .int v2), (3, .int v3), (4, .int v4), (5, .int v5)], [.int (1 : Int32)])) rfl ?_
            exact qE_sub (qsubL [0, 1, 2, 3, 4, 5] rfl (ks := [0, 1, 2, 3, 4, 5]) rfl (by decide))
          · refine e_L 1 (f' := (55, [(0, .ref 151), (1, .int v1), (2, .int v2), (3, .int v3), (4, .int v4), (5, .int v5)], [.ref 151])) rfl ?_
            refine e_gI 12 3 rfl rfl lc_151 ?_
            refine e_L 1 (f' := (60, [(0, .ref 151), (1, .int v1), (2, .int v2), (3, .int v3), (4, .int v4), (5, .int v5)], [.int (45 : Int32), .int (s2.1 151 3)])) rfl ?_
            refine e_icmp 103 rfl rfl rfl (fun c22 => ?_) (fun c22 => ?_)
            · refine e_L 2 (f' := (108, [(0, .ref 151), (1, .int v1), (2, .int v2), (3, .int v3), (4, .int v4), (5, .int v5)], [.int (1 : Int32)])) rfl ?_
              exact qE_sub (qsubL [0, 1, 2, 3, 4, 5] rfl (ks := [0, 1, 2, 3, 4, 5]) rfl (by decide))
            · refine e_L 1 (f' := (64, [(0, .ref 151), (1, .int v1), (2, .int v2), (3, .int v3), (4, .int v4), (5, .int v5)], [.ref 151])) rfl ?_
              refine e_gI 12 3 rfl rfl lc_151 ?_
              refine e_L 1 (f' := (69, [(0, .ref 151), (1, .int v1), (2, .int v2), (3, .int v3), (4, .int v4), (5, .int v5)], [.int (33 : Int32), .int (s2.1 151 3)])) rfl ?_
              refine e_icmp 103 rfl rfl rfl (fun c23 => ?_) (fun c23 => ?_)
              · refine e_L 2 (f' := (108, [(0, .ref 151), (1, .int v1), (2, .int v2), (3, .int v3), (4, .int v4), (5, .int v5)], [.int (1 : Int32)])) rfl ?_
                exact qE_sub (qsubL [0, 1, 2, 3, 4, 5] rfl (ks := [0, 1, 2, 3, 4, 5]) rfl (by decide))
              · refine e_L 1 (f' := (73, [(0, .ref 151), (1, .int v1), (2, .int v2), (3, .int v3), (4, .int v4), (5, .int v5)], [.ref 151])) rfl ?_
                refine e_gI 12 29 rfl rfl lc_151 ?_
                refine e_ifz 96 rfl rfl rfl (fun c24 => ?_) (fun c24 => ?_)
                · refine e_L 1 (f' := (97, [(0, .ref 151), (1, .int v1), (2, .int v2), (3, .int v3), (4, .int v4), (5, .int v5)], [.ref 151])) rfl ?_
                  refine e_vI 254 rfl rfl ix_X12_isName rfl (q_recvOf lc_151 rfl) (Nat.le_of_ble_eq_true rfl) (fun w25 s26 e27 => ?_)
                  refine e_ifz 107 rfl rfl rfl (fun c28 => ?_) (fun c28 => ?_)
                  · refine e_L 1 (f' := (108, [(0, .ref 151), (1, .int v1), (2, .int v2), (3, .int v3), (4, .int v4), (5, .int v5)], [.int (0 : Int32)])) rfl ?_
                    exact qE_sub (qsubL [0, 1, 2, 3, 4, 5] rfl (ks := [0, 1, 2, 3, 4, 5]) rfl (by decide))
                  · refine e_L 2 (f' := (108, [(0, .ref 151), (1, .int v1), (2, .int v2), (3, .int v3), (4, .int v4), (5, .int v5)], [.int (1 : Int32)])) rfl ?_
                    exact qE_sub (qsubL [0, 1, 2, 3, 4, 5] rfl (ks := [0, 1, 2, 3, 4, 5]) rfl (by decide))
                · refine e_L 1 (f' := (80, [(0, .ref 151), (1, .int v1), (2, .int v2), (3, .int v3), (4, .int v4), (5, .int v5)], [.ref 151])) rfl ?_
                  refine e_vI 254 rfl rfl ix_X12_isName rfl (q_recvOf lc_151 rfl) (Nat.le_of_ble_eq_true rfl) (fun w29 s30 e31 => ?_)
                  refine e_ifz 103 rfl rfl rfl (fun c32 => ?_) (fun c32 => ?_)
                  · refine e_L 2 (f' := (108, [(0, .ref 151), (1, .int v1), (2, .int v2), (3, .int v3), (4, .int v4), (5, .int v5)], [.int (1 : Int32)])) rfl ?_
                    exact qE_sub (qsubL [0, 1, 2, 3, 4, 5] rfl (ks := [0, 1, 2, 3, 4, 5]) rfl (by decide))
                  · refine e_L 1 (f' := (87, [(0, .ref 151), (1, .int v1), (2, .int v2), (3, .int v3), (4, .int v4), (5, .int v5)], [.ref 151])) rfl ?_
                    refine e_vI 270 rfl rfl ix_X12_isFactWord rfl (q_recvOf lc_151 rfl) (Nat.le_of_ble_eq_true rfl) (fun w33 s34 e35 => ?_)
                    refine e_ifz 107 rfl rfl rfl (fun c36 => ?_) (fun c36 => ?_)
                    · refine e_L 1 (f' := (108, [(0, .ref 151), (1, .int v1), (2, .int v2), (3, .int v3), (4, .int v4), (5, .int v5)], [.int (0 : Int32)])) rfl ?_
                      exact qE_sub (qsubL [0, 1, 2, 3, 4, 5] rfl (ks := [0, 1, 2, 3, 4, 5]) rfl (by decide))
                    · refine e_L 3 (f' := (108, [(0, .ref 151), (1, .int v1), (2, .int v2), (3, .int v3), (4, .int v4), (5, .int v5)], [.int (1 : Int32)])) rfl ?_
                      exact qE_sub (qsubL [0, 1, 2, 3, 4, 5] rfl (ks := [0, 1, 2, 3, 4, 5]) rfl (by decide))
set_option maxRecDepth 100000 in
set_option maxHeartbeats 4000000 in
theorem le_X12_readExp_108 (en : pN) (d : Nat) (v1 : Int32) (v2 : Int32) (v3 : Int32) (v4 : Int32) (v5 : Int32) (vs0 : Int32) (s : qS) : qle (bV (qev en d 245 [.ref 151, .int vs0, .int (2 : Int32)] s) (fun s2 => bI (qev en d 243 [.ref 151] s2) (fun w4 s5 => if w4 = (0 : Int32) then L_X12_readExp_136 en d v1 v2 v3 v4 v5 s5 else if ¬ (s5.1 151 3) = (1 : Int32) then L_X12_readExp_136 en d v1 v2 v3 v4 v5 s5 else bV (qev en d 271 [.ref 151] s5) (fun s10 => L_X12_readExp_136 en d v1 v2 v3 v4 v5 s10)))) (L_X12_readExp_108 en d v1 v2 v3 v4 v5 vs0 s) := by
  show qle _ (qE (qev en d) en (some .int) tb_X12_readExp (108, [(0, .ref 151), (1, .int v1), (2, .int v2), (3, .int v3), (4, .int v4), (5, .int v5)], [.int vs0]) s)
  refine e_L 4 (f' := (114, [(6, .int vs0), (0, .ref 151), (1, .int v1), (2, .int v2), (3, .int v3), (4, .int v4), (5, .int v5)], [.int (2 : Int32), .int vs0, .ref 151])) rfl ?_
  refine e_vV 245 rfl rfl ix_X12_need rfl (q_recvOf lc_151 rfl) (Nat.le_of_ble_eq_true rfl) (fun s2 e3 => ?_)
  refine e_L 1 (f' := (118, [(6, .int vs0), (0, .ref 151), (1, .int v1), (2, .int v2), (3, .int v3), (4, .int v4), (5, .int v5)], [.ref 151])) rfl ?_
  refine e_vI 243 rfl rfl ix_X12_good rfl (q_recvOf lc_151 rfl) (Nat.le_of_ble_eq_true rfl) (fun w4 s5 e6 => ?_)
  refine e_ifz 136 rfl rfl rfl (fun c7 => ?_) (fun c7 => ?_)
  · exact qE_sub (qsubL [1, 2, 3, 4, 5, 6] rfl (ks := [6, 0, 1, 2, 3, 4, 5]) rfl (by decide))
  · refine e_L 1 (f' := (125, [(6, .int vs0), (0, .ref 151), (1, .int v1), (2, .int v2), (3, .int v3), (4, .int v4), (5, .int v5)], [.ref 151])) rfl ?_
    refine e_gI 12 3 rfl rfl lc_151 ?_
    refine e_L 1 (f' := (129, [(6, .int vs0), (0, .ref 151), (1, .int v1), (2, .int v2), (3, .int v3), (4, .int v4), (5, .int v5)], [.int (1 : Int32), .int (s5.1 151 3)])) rfl ?_
    refine e_icmp 136 rfl rfl rfl (fun c8 => ?_) (fun c8 => ?_)
    · exact qE_sub (qsubL [1, 2, 3, 4, 5, 6] rfl (ks := [6, 0, 1, 2, 3, 4, 5]) rfl (by decide))
    · refine e_L 1 (f' := (133, [(6, .int vs0), (0, .ref 151), (1, .int v1), (2, .int v2), (3, .int v3), (4, .int v4), (5, .int v5)], [.ref 151])) rfl ?_
      refine e_vV 271 rfl rfl ix_X12_checkWord rfl (q_recvOf lc_151 rfl) (Nat.le_of_ble_eq_true rfl) (fun s10 e11 => ?_)
      exact qE_sub (qsubL [1, 2, 3, 4, 5, 6] rfl (ks := [6, 0, 1, 2, 3, 4, 5]) rfl (by decide))
set_option maxRecDepth 100000 in
set_option maxHeartbeats 4000000 in
theorem le_X12_readExp_136 (en : pN) (d : Nat) (v1 : Int32) (v2 : Int32) (v3 : Int32) (v4 : Int32) (v5 : Int32) (s : qS) : qle (bI (qev en d 243 [.ref 151] s) (fun w1 s2 => if w1 = (0 : Int32) then L_X12_readExp_159 en d v1 v2 v3 v4 v5 s2 else if (8 : Int32) < v3 then L_X12_readExp_155 en d v1 v2 v3 v4 v5 (0 : Int32) s2 else L_X12_readExp_155 en d v1 v2 v3 v4 v5 (1 : Int32) s2)) (L_X12_readExp_136 en d v1 v2 v3 v4 v5 s) := by
  show qle _ (qE (qev en d) en (some .int) tb_X12_readExp (136, [(0, .ref 151), (1, .int v1), (2, .int v2), (3, .int v3), (4, .int v4), (5, .int v5)], []) s)
  refine e_L 1 (f' := (137, [(0, .ref 151), (1, .int v1), (2, .int v2), (3, .int v3), (4, .int v4), (5, .int v5)], [.ref 151])) rfl ?_
  refine e_vI 243 rfl rfl ix_X12_good rfl (q_recvOf lc_151 rfl) (Nat.le_of_ble_eq_true rfl) (fun w1 s2 e3 => ?_)
  refine e_ifz 159 rfl rfl rfl (fun c4 => ?_) (fun c4 => ?_)
  · exact qE_sub (qsubL [0, 1, 2, 3, 4, 5] rfl (ks := [0, 1, 2, 3, 4, 5]) rfl (by decide))
  · refine e_L 3 (f' := (147, [(0, .ref 151), (1, .int v1), (2, .int v2), (3, .int v3), (4, .int v4), (5, .int v5)], [.int (8 : Int32), .int v3, .ref 151])) rfl ?_
    refine e_icmp 154 rfl rfl rfl (fun c5 => ?_) (fun c5 => ?_)
    · refine e_L 1 (f' := (155, [(0, .ref 151), (1, .int v1), (2, .int v2), (3, .int v3), (4, .int v4), (5, .int v5)], [.int (0 : Int32), .ref 151])) rfl ?_
      exact qE_sub (qsubL [0, 1, 2, 3, 4, 5] rfl (ks := [0, 1, 2, 3, 4, 5]) rfl (by decide))
    · refine e_L 2 (f' := (155, [(0, .ref 151), (1, .int v1), (2, .int v2), (3, .int v3), (4, .int v4), (5, .int v5)], [.int (1 : Int32), .ref 151])) rfl ?_
      exact qE_sub (qsubL [0, 1, 2, 3, 4, 5] rfl (ks := [0, 1, 2, 3, 4, 5]) rfl (by decide))
set_option maxRecDepth 100000 in
set_option maxHeartbeats 4000000 in
theorem le_X12_readExp_155 (en : pN) (d : Nat) (v1 : Int32) (v2 : Int32) (v3 : Int32) (v4 : Int32) (v5 : Int32) (vs1 : Int32) (s : qS) : qle (bV (qev en d 245 [.ref 151, .int vs1, .int (4 : Int32)] s) (fun s2 => L_X12_readExp_159 en d v1 v2 v3 v4 v5 s2)) (L_X12_readExp_155 en d v1 v2 v3 v4 v5 vs1 s) := by
  show qle _ (qE (qev en d) en (some .int) tb_X12_readExp (155, [(0, .ref 151), (1, .int v1), (2, .int v2), (3, .int v3), (4, .int v4), (5, .int v5)], [.int vs1, .ref 151]) s)
  refine e_L 1 (f' := (156, [(0, .ref 151), (1, .int v1), (2, .int v2), (3, .int v3), (4, .int v4), (5, .int v5)], [.int (4 : Int32), .int vs1, .ref 151])) rfl ?_
  refine e_vV 245 rfl rfl ix_X12_need rfl (q_recvOf lc_151 rfl) (Nat.le_of_ble_eq_true rfl) (fun s2 e3 => ?_)
  exact qE_sub (qsubL [0, 1, 2, 3, 4, 5] rfl (ks := [0, 1, 2, 3, 4, 5]) rfl (by decide))
set_option maxRecDepth 100000 in
set_option maxHeartbeats 4000000 in
theorem le_X12_readExp_159 (en : pN) (d : Nat) (v1 : Int32) (v2 : Int32) (v3 : Int32) (v4 : Int32) (v5 : Int32) (s : qS) : qle (bI (qev en d 243 [.ref 151] s) (fun w1 s2 => if ¬ w1 = (0 : Int32) then if (s2.1 151 3) = (40 : Int32) then L_X12_readExp_195 en d v1 v2 v3 v4 v5 s2 else if (s2.1 151 3) = (45 : Int32) then L_X12_readExp_195 en d v1 v2 v3 v4 v5 s2 else if ¬ (s2.1 151 3) = (33 : Int32) then bV (qev en d 272 [.ref 151] s2) (fun s9 => bI (qev en d 269 [.ref 151] s9) (fun w11 s12 => L_X12_readExp_20 en d v1 v2 (v3 - w11) (0 : Int32) v5 s12)) else L_X12_readExp_195 en d v1 v2 v3 v4 v5 s2 else some (some (.int v1), s2))) (L_X12_readExp_159 en d v1 v2 v3 v4 v5 s) := by
  show qle _ (qE (qev en d) en (some .int) tb_X12_readExp (159, [(0, .ref 151), (1, .int v1), (2, .int v2), (3, .int v3), (4, .int v4), (5, .int v5)], []) s)
  refine e_L 1 (f' := (160, [(0, .ref 151), (1, .int v1), (2, .int v2), (3, .int v3), (4, .int v4), (5, .int v5)], [.ref 151])) rfl ?_
  refine e_vI 243 rfl rfl ix_X12_good rfl (q_recvOf lc_151 rfl) (Nat.le_of_ble_eq_true rfl) (fun w1 s2 e3 => ?_)
  refine e_ifz 168 rfl rfl rfl (fun c4 => ?_) (fun c4 => ?_)
  · refine e_L 1 (f' := (169, [(0, .ref 151), (1, .int v1), (2, .int v2), (3, .int v3), (4, .int v4), (5, .int v5)], [.ref 151])) rfl ?_
    refine e_gI 12 3 rfl rfl lc_151 ?_
    refine e_L 1 (f' := (174, [(0, .ref 151), (1, .int v1), (2, .int v2), (3, .int v3), (4, .int v4), (5, .int v5)], [.int (40 : Int32), .int (s2.1 151 3)])) rfl ?_
    refine e_icmp 195 rfl rfl rfl (fun c5 => ?_) (fun c5 => ?_)
    · exact qE_sub (qsubL [0, 1, 2, 3, 4, 5] rfl (ks := [0, 1, 2, 3, 4, 5]) rfl (by decide))
    · refine e_L 1 (f' := (178, [(0, .ref 151), (1, .int v1), (2, .int v2), (3, .int v3), (4, .int v4), (5, .int v5)], [.ref 151])) rfl ?_
      refine e_gI 12 3 rfl rfl lc_151 ?_
      refine e_L 1 (f' := (183, [(0, .ref 151), (1, .int v1), (2, .int v2), (3, .int v3), (4, .int v4), (5, .int v5)], [.int (45 : Int32), .int (s2.1 151 3)])) rfl ?_
      refine e_icmp 195 rfl rfl rfl (fun c6 => ?_) (fun c6 => ?_)
      · exact qE_sub (qsubL [0, 1, 2, 3, 4, 5] rfl (ks := [0, 1, 2, 3, 4, 5]) rfl (by decide))
      · refine e_L 1 (f' := (187, [(0, .ref 151), (1, .int v1), (2, .int v2), (3, .int v3), (4, .int v4), (5, .int v5)], [.ref 151])) rfl ?_
        refine e_gI 12 3 rfl rfl lc_151 ?_
        refine e_L 1 (f' := (192, [(0, .ref 151), (1, .int v1), (2, .int v2), (3, .int v3), (4, .int v4), (5, .int v5)], [.int (33 : Int32), .int (s2.1 151 3)])) rfl ?_
        refine e_icmp 282 rfl rfl rfl (fun c7 => ?_) (fun c7 => ?_)
        · refine e_L 1 (f' := (283, [(0, .ref 151), (1, .int v1), (2, .int v2), (3, .int v3), (4, .int v4), (5, .int v5)], [.ref 151])) rfl ?_
          refine e_vV 272 rfl rfl ix_X12_takeOperand rfl (q_recvOf lc_151 rfl) (Nat.le_of_ble_eq_true rfl) (fun s9 e10 => ?_)
          refine e_L 2 (f' := (288, [(0, .ref 151), (1, .int v1), (2, .int v2), (3, .int v3), (4, .int v4), (5, .int v5)], [.ref 151, .int v3])) rfl ?_
          refine e_vI 269 rfl rfl ix_X12_endPrefixes rfl (q_recvOf lc_151 rfl) (Nat.le_of_ble_eq_true rfl) (fun w11 s12 e13 => ?_)
          refine e_L 5 (f' := (20, [(4, .int (0 : Int32)), (3, .int (v3 - w11)), (0, .ref 151), (1, .int v1), (2, .int v2), (5, .int v5)], [])) rfl ?_
          exact qE_sub (qsubL [2, 3, 4, 1, 0, 5] rfl (ks := [4, 3, 0, 1, 2, 5]) rfl (by decide))
        · exact qE_sub (qsubL [0, 1, 2, 3, 4, 5] rfl (ks := [0, 1, 2, 3, 4, 5]) rfl (by decide))
  · refine e_L 1 (f' := (167, [(0, .ref 151), (1, .int v1), (2, .int v2), (3, .int v3), (4, .int v4), (5, .int v5)], [.int v1])) rfl ?_
    exact e_rI rfl rfl
set_option maxRecDepth 100000 in
set_option maxHeartbeats 4000000 in
theorem le_X12_readExp_195 (en : pN) (d : Nat) (v1 : Int32) (v2 : Int32) (v3 : Int32) (v4 : Int32) (v5 : Int32) (s : qS) : qle (if (s.1 151 3) = (40 : Int32) then L_X12_readExp_208 en d v1 v2 v3 v4 v5 s else bV (qev en d 263 [.ref 151] s) (fun s3 => L_X12_readExp_208 en d v1 v2 v3 v4 v5 s3)) (L_X12_readExp_195 en d v1 v2 v3 v4 v5 s) := by
  show qle _ (qE (qev en d) en (some .int) tb_X12_readExp (195, [(0, .ref 151), (1, .int v1), (2, .int v2), (3, .int v3), (4, .int v4), (5, .int v5)], []) s)
  refine e_L 1 (f' := (196, [(0, .ref 151), (1, .int v1), (2, .int v2), (3, .int v3), (4, .int v4), (5, .int v5)], [.ref 151])) rfl ?_
  refine e_gI 12 3 rfl rfl lc_151 ?_
  refine e_L 1 (f' := (201, [(0, .ref 151), (1, .int v1), (2, .int v2), (3, .int v3), (4, .int v4), (5, .int v5)], [.int (40 : Int32), .int (s.1 151 3)])) rfl ?_
  refine e_icmp 208 rfl rfl rfl (fun c1 => ?_) (fun c1 => ?_)
  · exact qE_sub (qsubL [0, 1, 2, 3, 4, 5] rfl (ks := [0, 1, 2, 3, 4, 5]) rfl (by decide))
  · refine e_L 1 (f' := (205, [(0, .ref 151), (1, .int v1), (2, .int v2), (3, .int v3), (4, .int v4), (5, .int v5)], [.ref 151])) rfl ?_
    refine e_vV 263 rfl rfl ix_X12_countNode rfl (q_recvOf lc_151 rfl) (Nat.le_of_ble_eq_true rfl) (fun s3 e4 => ?_)
    exact qE_sub (qsubL [0, 1, 2, 3, 4, 5] rfl (ks := [0, 1, 2, 3, 4, 5]) rfl (by decide))
set_option maxRecDepth 100000 in
set_option maxHeartbeats 4000000 in
theorem le_X12_readExp_208 (en : pN) (d : Nat) (v1 : Int32) (v2 : Int32) (v3 : Int32) (v4 : Int32) (v5 : Int32) (s : qS) : qle (if ¬ (s.1 151 3) = (40 : Int32) then if ¬ (s.1 151 3) = (45 : Int32) then L_X12_readExp_244 en d v1 v2 v3 v4 v5 (s.1 151 31) (3 : Int32) s else L_X12_readExp_244 en d v1 v2 v3 v4 v5 (s.1 151 31) (2 : Int32) s else L_X12_readExp_244 en d v1 v2 v3 v4 v5 (s.1 151 31) (22 : Int32) s) (L_X12_readExp_208 en d v1 v2 v3 v4 v5 s) := by
  show qle _ (qE (qev en d) en (some .int) tb_X12_readExp (208, [(0, .ref 151), (1, .int v1), (2, .int v2), (3, .int v3), (4, .int v4), (5, .int v5)], []) s)
  refine e_L 1 (f' := (209, [(0, .ref 151), (1, .int v1), (2, .int v2), (3, .int v3), (4, .int v4), (5, .int v5)], [.ref 151])) rfl ?_
  refine e_gR (q := 163) 12 30 rfl rfl lc_151 lr_151_30 ?_
  refine e_L 1 (f' := (213, [(0, .ref 151), (1, .int v1), (2, .int v2), (3, .int v3), (4, .int v4), (5, .int v5)], [.ref 151, .ref 163])) rfl ?_
  refine e_gI 12 31 rfl rfl lc_151 ?_
  refine e_L 1 (f' := (217, [(0, .ref 151), (1, .int v1), (2, .int v2), (3, .int v3), (4, .int v4), (5, .int v5)], [.ref 151, .int (s.1 151 31), .ref 163])) rfl ?_
  refine e_gI 12 3 rfl rfl lc_151 ?_
  refine e_L 1 (f' := (222, [(0, .ref 151), (1, .int v1), (2, .int v2), (3, .int v3), (4, .int v4), (5, .int v5)], [.int (40 : Int32), .int (s.1 151 3), .int (s.1 151 31), .ref 163])) rfl ?_
  refine e_icmp 230 rfl rfl rfl (fun c1 => ?_) (fun c1 => ?_)
  · refine e_L 1 (f' := (231, [(0, .ref 151), (1, .int v1), (2, .int v2), (3, .int v3), (4, .int v4), (5, .int v5)], [.ref 151, .int (s.1 151 31), .ref 163])) rfl ?_
    refine e_gI 12 3 rfl rfl lc_151 ?_
    refine e_L 1 (f' := (236, [(0, .ref 151), (1, .int v1), (2, .int v2), (3, .int v3), (4, .int v4), (5, .int v5)], [.int (45 : Int32), .int (s.1 151 3), .int (s.1 151 31), .ref 163])) rfl ?_
    refine e_icmp 243 rfl rfl rfl (fun c2 => ?_) (fun c2 => ?_)
    · refine e_L 1 (f' := (244, [(0, .ref 151), (1, .int v1), (2, .int v2), (3, .int v3), (4, .int v4), (5, .int v5)], [.int (3 : Int32), .int (s.1 151 31), .ref 163])) rfl ?_
      exact qE_sub (qsubL [0, 1, 2, 3, 4, 5] rfl (ks := [0, 1, 2, 3, 4, 5]) rfl (by decide))
    · refine e_L 2 (f' := (244, [(0, .ref 151), (1, .int v1), (2, .int v2), (3, .int v3), (4, .int v4), (5, .int v5)], [.int (2 : Int32), .int (s.1 151 31), .ref 163])) rfl ?_
      exact qE_sub (qsubL [0, 1, 2, 3, 4, 5] rfl (ks := [0, 1, 2, 3, 4, 5]) rfl (by decide))
  · refine e_L 2 (f' := (244, [(0, .ref 151), (1, .int v1), (2, .int v2), (3, .int v3), (4, .int v4), (5, .int v5)], [.int (22 : Int32), .int (s.1 151 31), .ref 163])) rfl ?_
    exact qE_sub (qsubL [0, 1, 2, 3, 4, 5] rfl (ks := [0, 1, 2, 3, 4, 5]) rfl (by decide))
set_option maxRecDepth 100000 in
set_option maxHeartbeats 4000000 in
theorem le_X12_readExp_244 (en : pN) (d : Nat) (v1 : Int32) (v2 : Int32) (v3 : Int32) (v4 : Int32) (v5 : Int32) (vs1 : Int32) (vs2 : Int32) (s : qS) : qle (gd (p_inB vs1 2000 = true) (nm (uI s 163 (vs1.toNatClampNeg) vs2) (fun s2 => nm (uI s2 151 31 ((s2.1 151 31) + (1 : Int32))) (fun s3 => if ¬ (s3.1 151 3) = (40 : Int32) then L_X12_readExp_270 en d v1 v3 v4 v5 v2 (0 : Int32) s3 else L_X12_readExp_270 en d v1 v3 v4 v5 v2 (1 : Int32) s3)))) (L_X12_readExp_244 en d v1 v2 v3 v4 v5 vs1 vs2 s) := by
  show qle _ (qE (qev en d) en (some .int) tb_X12_readExp (244, [(0, .ref 151), (1, .int v1), (2, .int v2), (3, .int v3), (4, .int v4), (5, .int v5)], [.int vs2, .int vs1, .ref 163]) s)
  refine qle_gd fun h1 => ?_
  refine e_ias (n := 2000) (k := vs1.toNatClampNeg) rfl lc_163 ln_163 h1 rfl ?_
  refine e_nS fun s2 => ?_
  refine e_L 2 (f' := (247, [(0, .ref 151), (1, .int v1), (2, .int v2), (3, .int v3), (4, .int v4), (5, .int v5)], [.ref 151, .ref 151])) rfl ?_
  refine e_gI 12 31 rfl rfl lc_151 ?_
  refine e_L 2 (f' := (252, [(0, .ref 151), (1, .int v1), (2, .int v2), (3, .int v3), (4, .int v4), (5, .int v5)], [.int ((s2.1 151 31) + (1 : Int32)), .ref 151])) rfl ?_
  refine e_pI 12 31 rfl rfl lc_151 rfl ?_
  refine e_nS fun s3 => ?_
  refine e_L 2 (f' := (257, [(0, .ref 151), (1, .int v1), (2, .int v2), (3, .int v3), (4, .int v4), (5, .int v5)], [.ref 151, .int v2])) rfl ?_
  refine e_gI 12 3 rfl rfl lc_151 ?_
  refine e_L 1 (f' := (262, [(0, .ref 151), (1, .int v1), (2, .int v2), (3, .int v3), (4, .int v4), (5, .int v5)], [.int (40 : Int32), .int (s3.1 151 3), .int v2])) rfl ?_
  refine e_icmp 269 rfl rfl rfl (fun c4 => ?_) (fun c4 => ?_)
  · refine e_L 1 (f' := (270, [(0, .ref 151), (1, .int v1), (2, .int v2), (3, .int v3), (4, .int v4), (5, .int v5)], [.int (0 : Int32), .int v2])) rfl ?_
    exact qE_sub (qsubL [0, 1, 3, 4, 5] rfl (ks := [0, 1, 2, 3, 4, 5]) rfl (by decide))
  · refine e_L 2 (f' := (270, [(0, .ref 151), (1, .int v1), (2, .int v2), (3, .int v3), (4, .int v4), (5, .int v5)], [.int (1 : Int32), .int v2])) rfl ?_
    exact qE_sub (qsubL [0, 1, 3, 4, 5] rfl (ks := [0, 1, 2, 3, 4, 5]) rfl (by decide))
set_option maxRecDepth 100000 in
set_option maxHeartbeats 4000000 in
theorem le_X12_readExp_270 (en : pN) (d : Nat) (v1 : Int32) (v3 : Int32) (v4 : Int32) (v5 : Int32) (vs0 : Int32) (vs1 : Int32) (s : qS) : qle (bV (qev en d 249 [.ref 151] s) (fun s2 => L_X12_readExp_20 en d v1 (vs0 + vs1) (v3 + (1 : Int32)) v4 v5 s2)) (L_X12_readExp_270 en d v1 v3 v4 v5 vs0 vs1 s) := by
  show qle _ (qE (qev en d) en (some .int) tb_X12_readExp (270, [(0, .ref 151), (1, .int v1), (3, .int v3), (4, .int v4), (5, .int v5)], [.int vs1, .int vs0]) s)
  refine e_L 4 (f' := (276, [(3, .int (v3 + (1 : Int32))), (2, .int (vs0 + vs1)), (0, .ref 151), (1, .int v1), (4, .int v4), (5, .int v5)], [.ref 151])) rfl ?_
  refine e_vV 249 rfl rfl ix_X12_next rfl (q_recvOf lc_151 rfl) (Nat.le_of_ble_eq_true rfl) (fun s2 e3 => ?_)
  refine e_L 2 (f' := (20, [(3, .int (v3 + (1 : Int32))), (2, .int (vs0 + vs1)), (0, .ref 151), (1, .int v1), (4, .int v4), (5, .int v5)], [])) rfl ?_
  exact qE_sub (qsubL [2, 3, 1, 0, 4, 5] rfl (ks := [3, 2, 0, 1, 4, 5]) rfl (by decide))
set_option maxRecDepth 100000 in
set_option maxHeartbeats 4000000 in
theorem le_X12_readExp_347 (en : pN) (d : Nat) (v1 : Int32) (v2 : Int32) (v3 : Int32) (v4 : Int32) (s : qS) : qle (bI (qev en d 265 [.ref 151] s) (fun w1 s2 => if ¬ w1 = (-1 : Int32) then bI (qev en d 264 [.int w1] s2) (fun w5 s6 => L_X12_readExp_368 en d v1 v2 v3 v4 w1 w5 s6) else L_X12_readExp_368 en d v1 v2 v3 v4 w1 (0 : Int32) s2)) (L_X12_readExp_347 en d v1 v2 v3 v4 s) := by
  show qle _ (qE (qev en d) en (some .int) tb_X12_readExp (347, [(0, .ref 151), (1, .int v1), (2, .int v2), (3, .int v3), (4, .int v4)], []) s)
  refine e_L 1 (f' := (348, [(0, .ref 151), (1, .int v1), (2, .int v2), (3, .int v3), (4, .int v4)], [.ref 151])) rfl ?_
  refine e_vI 265 rfl rfl ix_X12_operatorAtHand rfl (q_recvOf lc_151 rfl) (Nat.le_of_ble_eq_true rfl) (fun w1 s2 e3 => ?_)
  refine e_L 3 (f' := (356, [(6, .int w1), (0, .ref 151), (1, .int v1), (2, .int v2), (3, .int v3), (4, .int v4)], [.int (-1 : Int32), .int w1])) rfl ?_
  refine e_icmp 363 rfl rfl rfl (fun c4 => ?_) (fun c4 => ?_)
  · refine e_L 1 (f' := (365, [(6, .int w1), (0, .ref 151), (1, .int v1), (2, .int v2), (3, .int v3), (4, .int v4)], [.int w1])) rfl ?_
    refine e_sI 264 rfl rfl rfl ix_X12_rankOf rfl (Nat.le_of_ble_eq_true rfl) (fun w5 s6 e7 => ?_)
    exact qE_sub (qsubL [1, 2, 3, 4, 5, 0] rfl (ks := [6, 0, 1, 2, 3, 4]) rfl (by decide))
  · refine e_L 2 (f' := (368, [(6, .int w1), (0, .ref 151), (1, .int v1), (2, .int v2), (3, .int v3), (4, .int v4)], [.int (0 : Int32)])) rfl ?_
    exact qE_sub (qsubL [1, 2, 3, 4, 5, 0] rfl (ks := [6, 0, 1, 2, 3, 4]) rfl (by decide))
set_option maxRecDepth 100000 in
set_option maxHeartbeats 4000000 in
theorem le_X12_readExp_368 (en : pN) (d : Nat) (v1 : Int32) (v2 : Int32) (v3 : Int32) (v4 : Int32) (v6 : Int32) (vs0 : Int32) (s : qS) : qle (if v6 = (-1 : Int32) then L_X12_readExp_392 en d v1 v2 v3 v4 v6 vs0 s else if ¬ vs0 = (3 : Int32) then L_X12_readExp_389 en d v1 v2 v3 v4 v6 vs0 vs0 s else L_X12_readExp_389 en d v1 v2 v3 v4 v6 vs0 (4 : Int32) s) (L_X12_readExp_368 en d v1 v2 v3 v4 v6 vs0 s) := by
  show qle _ (qE (qev en d) en (some .int) tb_X12_readExp (368, [(0, .ref 151), (1, .int v1), (2, .int v2), (3, .int v3), (4, .int v4), (6, .int v6)], [.int vs0]) s)
  refine e_L 3 (f' := (373, [(7, .int vs0), (0, .ref 151), (1, .int v1), (2, .int v2), (3, .int v3), (4, .int v4), (6, .int v6)], [.int (-1 : Int32), .int v6])) rfl ?_
  refine e_icmp 392 rfl rfl rfl (fun c1 => ?_) (fun c1 => ?_)
  · exact qE_sub (qsubL [1, 2, 3, 4, 5, 6, 0] rfl (ks := [7, 0, 1, 2, 3, 4, 6]) rfl (by decide))
  · refine e_L 3 (f' := (380, [(7, .int vs0), (0, .ref 151), (1, .int v1), (2, .int v2), (3, .int v3), (4, .int v4), (6, .int v6)], [.int (3 : Int32), .int vs0, .ref 151])) rfl ?_
    refine e_icmp 387 rfl rfl rfl (fun c2 => ?_) (fun c2 => ?_)
    · refine e_L 1 (f' := (389, [(7, .int vs0), (0, .ref 151), (1, .int v1), (2, .int v2), (3, .int v3), (4, .int v4), (6, .int v6)], [.int vs0, .ref 151])) rfl ?_
      exact qE_sub (qsubL [1, 2, 3, 4, 5, 6, 0] rfl (ks := [7, 0, 1, 2, 3, 4, 6]) rfl (by decide))
    · refine e_L 2 (f' := (389, [(7, .int vs0), (0, .ref 151), (1, .int v1), (2, .int v2), (3, .int v3), (4, .int v4), (6, .int v6)], [.int (4 : Int32), .ref 151])) rfl ?_
      exact qE_sub (qsubL [1, 2, 3, 4, 5, 6, 0] rfl (ks := [7, 0, 1, 2, 3, 4, 6]) rfl (by decide))
set_option maxRecDepth 100000 in
set_option maxHeartbeats 4000000 in
theorem le_X12_readExp_389 (en : pN) (d : Nat) (v1 : Int32) (v2 : Int32) (v3 : Int32) (v4 : Int32) (v6 : Int32) (v7 : Int32) (vs1 : Int32) (s : qS) : qle (bV (qev en d 266 [.ref 151, .int vs1] s) (fun s2 => L_X12_readExp_392 en d v1 v2 v3 v4 v6 v7 s2)) (L_X12_readExp_389 en d v1 v2 v3 v4 v6 v7 vs1 s) := by
  show qle _ (qE (qev en d) en (some .int) tb_X12_readExp (389, [(0, .ref 151), (1, .int v1), (2, .int v2), (3, .int v3), (4, .int v4), (6, .int v6), (7, .int v7)], [.int vs1, .ref 151]) s)
  refine e_vV 266 rfl rfl ix_X12_settle rfl (q_recvOf lc_151 rfl) (Nat.le_of_ble_eq_true rfl) (fun s2 e3 => ?_)
  exact qE_sub (qsubL [0, 1, 2, 3, 4, 5, 6] rfl (ks := [0, 1, 2, 3, 4, 6, 7]) rfl (by decide))
set_option maxRecDepth 100000 in
set_option maxHeartbeats 4000000 in
theorem le_X12_readExp_392 (en : pN) (d : Nat) (v1 : Int32) (v2 : Int32) (v3 : Int32) (v4 : Int32) (v6 : Int32) (v7 : Int32) (s : qS) : qle (if ¬ v7 = (3 : Int32) then L_X12_readExp_428 en d v1 v2 v3 v4 v6 (0 : Int32) s else if (s.1 151 31) ≤ (0 : Int32) then L_X12_readExp_428 en d v1 v2 v3 v4 v6 (0 : Int32) s else gd (p_inB ((s.1 151 31) - (1 : Int32)) 2000 = true) (bI (qev en d 267 [.int (s.1 163 ((s.1 151 31) - (1 : Int32)).toNatClampNeg)] s) (fun w4 s5 => if ¬ w4 = (3 : Int32) then L_X12_readExp_428 en d v1 v2 v3 v4 v6 (0 : Int32) s5 else L_X12_readExp_428 en d v1 v2 v3 v4 v6 (1 : Int32) s5))) (L_X12_readExp_392 en d v1 v2 v3 v4 v6 v7 s) := by
  show qle _ (qE (qev en d) en (some .int) tb_X12_readExp (392, [(0, .ref 151), (1, .int v1), (2, .int v2), (3, .int v3), (4, .int v4), (6, .int v6), (7, .int v7)], []) s)
  refine e_L 2 (f' := (395, [(0, .ref 151), (1, .int v1), (2, .int v2), (3, .int v3), (4, .int v4), (6, .int v6), (7, .int v7)], [.int (3 : Int32), .int v7])) rfl ?_
  refine e_icmp 427 rfl rfl rfl (fun c1 => ?_) (fun c1 => ?_)
  · refine e_L 1 (f' := (428, [(0, .ref 151), (1, .int v1), (2, .int v2), (3, .int v3), (4, .int v4), (6, .int v6), (7, .int v7)], [.int (0 : Int32)])) rfl ?_
    exact qE_sub (qsubL [0, 1, 2, 3, 4, 5] rfl (ks := [0, 1, 2, 3, 4, 6, 7]) rfl (by decide))
  · refine e_L 1 (f' := (399, [(0, .ref 151), (1, .int v1), (2, .int v2), (3, .int v3), (4, .int v4), (6, .int v6), (7, .int v7)], [.ref 151])) rfl ?_
    refine e_gI 12 31 rfl rfl lc_151 ?_
    refine e_ifz 427 rfl rfl rfl (fun c2 => ?_) (fun c2 => ?_)
    · refine e_L 1 (f' := (428, [(0, .ref 151), (1, .int v1), (2, .int v2), (3, .int v3), (4, .int v4), (6, .int v6), (7, .int v7)], [.int (0 : Int32)])) rfl ?_
      exact qE_sub (qsubL [0, 1, 2, 3, 4, 5] rfl (ks := [0, 1, 2, 3, 4, 6, 7]) rfl (by decide))
    · refine e_L 1 (f' := (406, [(0, .ref 151), (1, .int v1), (2, .int v2), (3, .int v3), (4, .int v4), (6, .int v6), (7, .int v7)], [.ref 151])) rfl ?_
      refine e_gR (q := 163) 12 30 rfl rfl lc_151 lr_151_30 ?_
      refine e_L 1 (f' := (410, [(0, .ref 151), (1, .int v1), (2, .int v2), (3, .int v3), (4, .int v4), (6, .int v6), (7, .int v7)], [.ref 151, .ref 163])) rfl ?_
      refine e_gI 12 31 rfl rfl lc_151 ?_
      refine e_L 2 (f' := (415, [(0, .ref 151), (1, .int v1), (2, .int v2), (3, .int v3), (4, .int v4), (6, .int v6), (7, .int v7)], [.int ((s.1 151 31) - (1 : Int32)), .ref 163])) rfl ?_
      refine qle_gd fun h3 => ?_
      refine e_ial (n := 2000) (k := ((s.1 151 31) - (1 : Int32)).toNatClampNeg) rfl lc_163 ln_163 h3 rfl ?_
      refine e_sI 267 rfl rfl rfl ix_X12_lastRank rfl (Nat.le_of_ble_eq_true rfl) (fun w4 s5 e6 => ?_)
      refine e_L 1 (f' := (420, [(0, .ref 151), (1, .int v1), (2, .int v2), (3, .int v3), (4, .int v4), (6, .int v6), (7, .int v7)], [.int (3 : Int32), .int w4])) rfl ?_
      refine e_icmp 427 rfl rfl rfl (fun c7 => ?_) (fun c7 => ?_)
      · refine e_L 1 (f' := (428, [(0, .ref 151), (1, .int v1), (2, .int v2), (3, .int v3), (4, .int v4), (6, .int v6), (7, .int v7)], [.int (0 : Int32)])) rfl ?_
        exact qE_sub (qsubL [0, 1, 2, 3, 4, 5] rfl (ks := [0, 1, 2, 3, 4, 6, 7]) rfl (by decide))
      · refine e_L 2 (f' := (428, [(0, .ref 151), (1, .int v1), (2, .int v2), (3, .int v3), (4, .int v4), (6, .int v6), (7, .int v7)], [.int (1 : Int32)])) rfl ?_
        exact qE_sub (qsubL [0, 1, 2, 3, 4, 5] rfl (ks := [0, 1, 2, 3, 4, 6, 7]) rfl (by decide))
set_option maxRecDepth 100000 in
set_option maxHeartbeats 4000000 in
theorem le_X12_readExp_428 (en : pN) (d : Nat) (v1 : Int32) (v2 : Int32) (v3 : Int32) (v4 : Int32) (v6 : Int32) (vs0 : Int32) (s : qS) : qle (if v6 = (-1 : Int32) then L_X12_readExp_446 en d v1 v2 v3 v4 v6 (1 : Int32) s else if vs0 = (0 : Int32) then L_X12_readExp_446 en d v1 v2 v3 v4 v6 (0 : Int32) s else L_X12_readExp_446 en d v1 v2 v3 v4 v6 (1 : Int32) s) (L_X12_readExp_428 en d v1 v2 v3 v4 v6 vs0 s) := by
  show qle _ (qE (qev en d) en (some .int) tb_X12_readExp (428, [(0, .ref 151), (1, .int v1), (2, .int v2), (3, .int v3), (4, .int v4), (6, .int v6)], [.int vs0]) s)
  refine e_L 3 (f' := (433, [(8, .int vs0), (0, .ref 151), (1, .int v1), (2, .int v2), (3, .int v3), (4, .int v4), (6, .int v6)], [.int (-1 : Int32), .int v6])) rfl ?_
  refine e_icmp 441 rfl rfl rfl (fun c1 => ?_) (fun c1 => ?_)
  · refine e_L 2 (f' := (446, [(8, .int vs0), (0, .ref 151), (1, .int v1), (2, .int v2), (3, .int v3), (4, .int v4), (6, .int v6)], [.int (1 : Int32)])) rfl ?_
    exact qE_sub (qsubL [1, 2, 3, 4, 5, 6] rfl (ks := [8, 0, 1, 2, 3, 4, 6]) rfl (by decide))
  · refine e_L 1 (f' := (438, [(8, .int vs0), (0, .ref 151), (1, .int v1), (2, .int v2), (3, .int v3), (4, .int v4), (6, .int v6)], [.int vs0])) rfl ?_
    refine e_ifz 445 rfl rfl rfl (fun c2 => ?_) (fun c2 => ?_)
    · refine e_L 1 (f' := (446, [(8, .int vs0), (0, .ref 151), (1, .int v1), (2, .int v2), (3, .int v3), (4, .int v4), (6, .int v6)], [.int (0 : Int32)])) rfl ?_
      exact qE_sub (qsubL [1, 2, 3, 4, 5, 6] rfl (ks := [8, 0, 1, 2, 3, 4, 6]) rfl (by decide))
    · refine e_L 2 (f' := (446, [(8, .int vs0), (0, .ref 151), (1, .int v1), (2, .int v2), (3, .int v3), (4, .int v4), (6, .int v6)], [.int (1 : Int32)])) rfl ?_
      exact qE_sub (qsubL [1, 2, 3, 4, 5, 6] rfl (ks := [8, 0, 1, 2, 3, 4, 6]) rfl (by decide))
set_option maxRecDepth 100000 in
set_option maxHeartbeats 4000000 in
theorem le_X12_readExp_446 (en : pN) (d : Nat) (v1 : Int32) (v2 : Int32) (v3 : Int32) (v4 : Int32) (v6 : Int32) (vs0 : Int32) (s : qS) : qle (if ¬ vs0 = (0 : Int32) then L_X12_readExp_20 en d v1 v2 v3 v4 vs0 s else bV (qev en d 263 [.ref 151] s) (fun s3 => gd (p_inB (s3.1 151 31) 2000 = true) (nm (uI s3 163 ((s3.1 151 31).toNatClampNeg) v6) (fun s6 => nm (uI s6 151 31 ((s6.1 151 31) + (1 : Int32))) (fun s7 => bV (qev en d 249 [.ref 151] s7) (fun s9 => L_X12_readExp_20 en d v1 v2 v3 (1 : Int32) vs0 s9)))))) (L_X12_readExp_446 en d v1 v2 v3 v4 v6 vs0 s) := by
  show qle _ (qE (qev en d) en (some .int) tb_X12_readExp (446, [(0, .ref 151), (1, .int v1), (2, .int v2), (3, .int v3), (4, .int v4), (6, .int v6)], [.int vs0]) s)
  refine e_L 2 (f' := (450, [(5, .int vs0), (0, .ref 151), (1, .int v1), (2, .int v2), (3, .int v3), (4, .int v4), (6, .int v6)], [.int vs0])) rfl ?_
  refine e_ifz 485 rfl rfl rfl (fun c1 => ?_) (fun c1 => ?_)
  · refine e_L 1 (f' := (20, [(5, .int vs0), (0, .ref 151), (1, .int v1), (2, .int v2), (3, .int v3), (4, .int v4), (6, .int v6)], [])) rfl ?_
    exact qE_sub (qsubL [1, 2, 3, 4, 5, 0] rfl (ks := [5, 0, 1, 2, 3, 4, 6]) rfl (by decide))
  · refine e_L 1 (f' := (454, [(5, .int vs0), (0, .ref 151), (1, .int v1), (2, .int v2), (3, .int v3), (4, .int v4), (6, .int v6)], [.ref 151])) rfl ?_
    refine e_vV 263 rfl rfl ix_X12_countNode rfl (q_recvOf lc_151 rfl) (Nat.le_of_ble_eq_true rfl) (fun s3 e4 => ?_)
    refine e_L 1 (f' := (458, [(5, .int vs0), (0, .ref 151), (1, .int v1), (2, .int v2), (3, .int v3), (4, .int v4), (6, .int v6)], [.ref 151])) rfl ?_
    refine e_gR (q := 163) 12 30 rfl rfl lc_151 lr_151_30 ?_
    refine e_L 1 (f' := (462, [(5, .int vs0), (0, .ref 151), (1, .int v1), (2, .int v2), (3, .int v3), (4, .int v4), (6, .int v6)], [.ref 151, .ref 163])) rfl ?_
    refine e_gI 12 31 rfl rfl lc_151 ?_
    refine e_L 1 (f' := (467, [(5, .int vs0), (0, .ref 151), (1, .int v1), (2, .int v2), (3, .int v3), (4, .int v4), (6, .int v6)], [.int v6, .int (s3.1 151 31), .ref 163])) rfl ?_
    refine qle_gd fun h5 => ?_
    refine e_ias (n := 2000) (k := (s3.1 151 31).toNatClampNeg) rfl lc_163 ln_163 h5 rfl ?_
    refine e_nS fun s6 => ?_
    refine e_L 2 (f' := (470, [(5, .int vs0), (0, .ref 151), (1, .int v1), (2, .int v2), (3, .int v3), (4, .int v4), (6, .int v6)], [.ref 151, .ref 151])) rfl ?_
    refine e_gI 12 31 rfl rfl lc_151 ?_
    refine e_L 2 (f' := (475, [(5, .int vs0), (0, .ref 151), (1, .int v1), (2, .int v2), (3, .int v3), (4, .int v4), (6, .int v6)], [.int ((s6.1 151 31) + (1 : Int32)), .ref 151])) rfl ?_
    refine e_pI 12 31 rfl rfl lc_151 rfl ?_
    refine e_nS fun s7 => ?_
    refine e_L 1 (f' := (479, [(5, .int vs0), (0, .ref 151), (1, .int v1), (2, .int v2), (3, .int v3), (4, .int v4), (6, .int v6)], [.ref 151])) rfl ?_
    refine e_vV 249 rfl rfl ix_X12_next rfl (q_recvOf lc_151 rfl) (Nat.le_of_ble_eq_true rfl) (fun s9 e10 => ?_)
    refine e_L 3 (f' := (20, [(4, .int (1 : Int32)), (5, .int vs0), (0, .ref 151), (1, .int v1), (2, .int v2), (3, .int v3), (6, .int v6)], [])) rfl ?_
    exact qE_sub (qsubL [2, 3, 4, 5, 0, 1] rfl (ks := [4, 5, 0, 1, 2, 3, 6]) rfl (by decide))
set_option maxRecDepth 100000 in
set_option maxHeartbeats 4000000 in
theorem le_X12_readExp_488 (en : pN) (d : Nat) (v1 : Int32) (v2 : Int32) (s : qS) : qle (bI (qev en d 243 [.ref 151] s) (fun w1 s2 => if w1 = (0 : Int32) then L_X12_readExp_509 en d v1 s2 else if ¬ v2 = (0 : Int32) then L_X12_readExp_505 en d v1 (0 : Int32) s2 else L_X12_readExp_505 en d v1 (1 : Int32) s2)) (L_X12_readExp_488 en d v1 v2 s) := by
  show qle _ (qE (qev en d) en (some .int) tb_X12_readExp (488, [(0, .ref 151), (1, .int v1), (2, .int v2)], []) s)
  refine e_L 1 (f' := (489, [(0, .ref 151), (1, .int v1), (2, .int v2)], [.ref 151])) rfl ?_
  refine e_vI 243 rfl rfl ix_X12_good rfl (q_recvOf lc_151 rfl) (Nat.le_of_ble_eq_true rfl) (fun w1 s2 e3 => ?_)
  refine e_ifz 509 rfl rfl rfl (fun c4 => ?_) (fun c4 => ?_)
  · exact qE_sub (qsubL [0, 1] rfl (ks := [0, 1, 2]) rfl (by decide))
  · refine e_L 2 (f' := (497, [(0, .ref 151), (1, .int v1), (2, .int v2)], [.int v2, .ref 151])) rfl ?_
    refine e_ifz 504 rfl rfl rfl (fun c5 => ?_) (fun c5 => ?_)
    · refine e_L 1 (f' := (505, [(0, .ref 151), (1, .int v1), (2, .int v2)], [.int (0 : Int32), .ref 151])) rfl ?_
      exact qE_sub (qsubL [0, 1] rfl (ks := [0, 1, 2]) rfl (by decide))
    · refine e_L 2 (f' := (505, [(0, .ref 151), (1, .int v1), (2, .int v2)], [.int (1 : Int32), .ref 151])) rfl ?_
      exact qE_sub (qsubL [0, 1] rfl (ks := [0, 1, 2]) rfl (by decide))
set_option maxRecDepth 100000 in
set_option maxHeartbeats 4000000 in
theorem le_X12_readExp_505 (en : pN) (d : Nat) (v1 : Int32) (vs1 : Int32) (s : qS) : qle (bV (qev en d 245 [.ref 151, .int vs1, .int (2 : Int32)] s) (fun s2 => L_X12_readExp_509 en d v1 s2)) (L_X12_readExp_505 en d v1 vs1 s) := by
  show qle _ (qE (qev en d) en (some .int) tb_X12_readExp (505, [(0, .ref 151), (1, .int v1)], [.int vs1, .ref 151]) s)
  refine e_L 1 (f' := (506, [(0, .ref 151), (1, .int v1)], [.int (2 : Int32), .int vs1, .ref 151])) rfl ?_
  refine e_vV 245 rfl rfl ix_X12_need rfl (q_recvOf lc_151 rfl) (Nat.le_of_ble_eq_true rfl) (fun s2 e3 => ?_)
  exact qE_sub (qsubL [0, 1] rfl (ks := [0, 1]) rfl (by decide))
set_option maxRecDepth 100000 in
set_option maxHeartbeats 4000000 in
theorem le_X12_readExp_509 (en : pN) (d : Nat) (v1 : Int32) (s : qS) : qle (bV (qev en d 266 [.ref 151, .int (1 : Int32)] s) (fun s2 => some (some (.int v1), s2))) (L_X12_readExp_509 en d v1 s) := by
  show qle _ (qE (qev en d) en (some .int) tb_X12_readExp (509, [(0, .ref 151), (1, .int v1)], []) s)
  refine e_L 2 (f' := (511, [(0, .ref 151), (1, .int v1)], [.int (1 : Int32), .ref 151])) rfl ?_
  refine e_vV 266 rfl rfl ix_X12_settle rfl (q_recvOf lc_151 rfl) (Nat.le_of_ble_eq_true rfl) (fun s2 e3 => ?_)
  refine e_L 1 (f' := (515, [(0, .ref 151), (1, .int v1)], [.int v1])) rfl ?_
  exact e_rI rfl rfl
set_option maxRecDepth 100000 in
set_option maxHeartbeats 4000000 in
theorem le_X12_readExp (en : pN) (d : Nat) (s : qS) : qle (nm (uI s 151 31 (0 : Int32)) (fun s1 => L_X12_readExp_20 en d (s.1 151 25) (0 : Int32) (0 : Int32) (1 : Int32) (0 : Int32) s1)) (qev en (d + 1) 268 [.ref 151] s) := by
  refine e_enter ix_X12_readExp (Nat.le_of_ble_eq_true rfl) ?_
  show qle _ (qE (qev en d) en (some .int) tb_X12_readExp (0, [(0, .ref 151)], []) s)
  refine e_L 1 (f' := (1, [(0, .ref 151)], [.ref 151])) rfl ?_
  refine e_gI 12 25 rfl rfl lc_151 ?_
  refine e_L 3 (f' := (7, [(1, .int (s.1 151 25)), (0, .ref 151)], [.int (0 : Int32), .ref 151])) rfl ?_
  refine e_pI 12 31 rfl rfl lc_151 rfl ?_
  refine e_nS fun s1 => ?_
  refine e_L 8 (f' := (20, [(5, .int (0 : Int32)), (4, .int (1 : Int32)), (3, .int (0 : Int32)), (2, .int (0 : Int32)), (1, .int (s.1 151 25)), (0, .ref 151)], [])) rfl ?_
  exact qE_sub (qsubL [5, 4, 3, 2, 1, 0] rfl (ks := [5, 4, 3, 2, 1, 0]) rfl (by decide))
