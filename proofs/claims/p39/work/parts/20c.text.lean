/-! what methods do, printed by program out of their tables: X5_isCell .. -/
set_option maxRecDepth 100000 in
set_option maxHeartbeats 4000000 in
theorem le_X5_isCell (en : pN) (d : Nat) (a1 : Int32) (s : qS) : qle (if a1 < (0 : Int32) then some (some (.int (0 : Int32)), s) else if (8 : Int32) ≤ a1 then some (some (.int (0 : Int32)), s) else some (some (.int (1 : Int32)), s)) (qev en (d + 1) 85 [.int a1] s) := by
  refine e_enter ix_X5_isCell (Nat.le_of_ble_eq_true rfl) ?_
  show qle _ (qE (qev en d) en (some .boolean) tb_X5_isCell (0, [(0, .int a1)], []) s)
  refine e_L 1 (f' := (1, [(0, .int a1)], [.int a1])) rfl ?_
  refine e_ifz 14 rfl rfl rfl (fun c1 => ?_) (fun c1 => ?_)
  · refine e_L 1 (f' := (15, [(0, .int a1)], [.int (0 : Int32)])) rfl ?_
    exact e_rZ rfl rfl (by decide)
  · refine e_L 2 (f' := (7, [(0, .int a1)], [.int (8 : Int32), .int a1])) rfl ?_
    refine e_icmp 14 rfl rfl rfl (fun c2 => ?_) (fun c2 => ?_)
    · refine e_L 1 (f' := (15, [(0, .int a1)], [.int (0 : Int32)])) rfl ?_
      exact e_rZ rfl rfl (by decide)
    · refine e_L 2 (f' := (15, [(0, .int a1)], [.int (1 : Int32)])) rfl ?_
      exact e_rZ rfl rfl (by decide)
set_option maxRecDepth 100000 in
set_option maxHeartbeats 4000000 in
theorem le_X5_clear (en : pN) (d : Nat) (t : Nat) (s : qS) : qle (gd (lc t = 5) (bV (qev en d 434 [.ref (t + 1), .long (0 : Int64)] s) (fun s2 => bV (qev en d 435 [.ref (t + 3), .int (0 : Int32)] s2) (fun s5 => nm (uI s5 7 3 (0 : Int32)) (fun s7 => nm (uI s7 t 7 (0 : Int32)) (fun s8 => nm (uI s8 t 8 (0 : Int32)) (fun s9 => nm (uI s9 t 9 (0 : Int32)) (fun s10 => nm (uI s10 t 10 (0 : Int32)) (fun s11 => nm (uI s11 t 11 (0 : Int32)) (fun s12 => nm (uI s12 t 12 (0 : Int32)) (fun s13 => nm (uI s13 t 13 (0 : Int32)) (fun s14 => some (none, s14))))))))))))) (qev en (d + 1) 81 [.ref t] s) := by
  refine e_enter ix_X5_clear (Nat.le_of_ble_eq_true rfl) ?_
  show qle _ (qE (qev en d) en none tb_X5_clear (0, [(0, .ref t)], []) s)
  refine qle_gd fun ht => ?_
  refine e_L 1 (f' := (1, [(0, .ref t)], [.ref t])) rfl ?_
  refine e_gR (q := (t + 1)) 5 1 rfl rfl ht (fo_5_1 ht) ?_
  refine e_L 1 (f' := (5, [(0, .ref t)], [.long (0 : Int64), .ref (t + 1)])) rfl ?_
  refine e_sV 434 rfl rfl rfl ix_J7_fill_d0a16 rfl (Nat.le_of_ble_eq_true rfl) (fun s2 e3 => ?_)
  refine e_L 1 (f' := (9, [(0, .ref t)], [.ref t])) rfl ?_
  refine e_gR (q := (t + 3)) 5 3 rfl rfl ht (fo_5_3 ht) ?_
  refine e_L 1 (f' := (13, [(0, .ref t)], [.int (0 : Int32), .ref (t + 3)])) rfl ?_
  refine e_sV 435 rfl rfl rfl ix_J7_fill_53178 rfl (Nat.le_of_ble_eq_true rfl) (fun s5 e6 => ?_)
  refine e_L 1 (f' := (17, [(0, .ref t)], [.ref t])) rfl ?_
  refine e_gR (q := 7) 5 0 rfl rfl ht (fo_5_0 ht) ?_
  refine e_L 1 (f' := (21, [(0, .ref t)], [.int (0 : Int32), .ref 7])) rfl ?_
  refine e_pI 4 3 rfl rfl lc_7 rfl ?_
  refine e_nS fun s7 => ?_
  refine e_L 2 (f' := (26, [(0, .ref t)], [.int (0 : Int32), .ref t])) rfl ?_
  refine e_pI 5 7 rfl rfl ht rfl ?_
  refine e_nS fun s8 => ?_
  refine e_L 2 (f' := (31, [(0, .ref t)], [.int (0 : Int32), .ref t])) rfl ?_
  refine e_pI 5 8 rfl rfl ht rfl ?_
  refine e_nS fun s9 => ?_
  refine e_L 2 (f' := (36, [(0, .ref t)], [.int (0 : Int32), .ref t])) rfl ?_
  refine e_pI 5 9 rfl rfl ht rfl ?_
  refine e_nS fun s10 => ?_
  refine e_L 2 (f' := (41, [(0, .ref t)], [.int (0 : Int32), .ref t])) rfl ?_
  refine e_pI 5 10 rfl rfl ht rfl ?_
  refine e_nS fun s11 => ?_
  refine e_L 2 (f' := (46, [(0, .ref t)], [.int (0 : Int32), .ref t])) rfl ?_
  refine e_pI 5 11 rfl rfl ht rfl ?_
  refine e_nS fun s12 => ?_
  refine e_L 2 (f' := (51, [(0, .ref t)], [.int (0 : Int32), .ref t])) rfl ?_
  refine e_pI 5 12 rfl rfl ht rfl ?_
  refine e_nS fun s13 => ?_
  refine e_L 2 (f' := (56, [(0, .ref t)], [.int (0 : Int32), .ref t])) rfl ?_
  refine e_pI 5 13 rfl rfl ht rfl ?_
  refine e_nS fun s14 => ?_
  exact e_rV rfl rfl
noncomputable def L_X5_copy_131 (en : pN) (d : Nat) (r0 : Nat) (r1 : Nat) (v2 : Int32) (s : qS) : Option qR := qE (qev en d) en none tb_X5_copy (131, [(0, .ref r0), (1, .ref r1), (2, .int v2)], []) s
set_option maxRecDepth 100000 in
set_option maxHeartbeats 4000000 in
theorem le_X5_copy_131 (en : pN) (d : Nat) (r0 : Nat) (r1 : Nat) (v2 : Int32) (s : qS) : qle (gd (lc r0 = 5) (gd (lc r1 = 5) (if (18 : Int32) ≤ v2 then some (none, s) else gd (p_inB v2 18 = true) (gd (cpG (0 : Int32) (0 : Int32) (100 : Int32) 100 100) (nm (uIr s (r0 + 7 + v2.toNatClampNeg) (va_cpy (s.1 (r1 + 7 + v2.toNatClampNeg)) (s.1 (r0 + 7 + v2.toNatClampNeg)) (0 : Int32).toNatClampNeg (0 : Int32).toNatClampNeg (100 : Int32).toNatClampNeg)) (fun s4 => L_X5_copy_131 en d r0 r1 (v2 + (1 : Int32)) s4)))))) (L_X5_copy_131 en d r0 r1 v2 s) := by
  show qle _ (qE (qev en d) en none tb_X5_copy (131, [(0, .ref r0), (1, .ref r1), (2, .int v2)], []) s)
  refine qle_gd fun h_r0 => ?_
  refine qle_gd fun h_r1 => ?_
  refine e_L 2 (f' := (134, [(0, .ref r0), (1, .ref r1), (2, .int v2)], [.int (18 : Int32), .int v2])) rfl ?_
  refine e_icmp 162 rfl rfl rfl (fun c1 => ?_) (fun c1 => ?_)
  · exact e_rV rfl rfl
  · refine e_L 1 (f' := (138, [(0, .ref r0), (1, .ref r1), (2, .int v2)], [.ref r1])) rfl ?_
    refine e_gR (q := (r1 + 6)) 5 6 rfl rfl h_r1 (fo_5_6 h_r1) ?_
    refine e_L 1 (f' := (142, [(0, .ref r0), (1, .ref r1), (2, .int v2)], [.int v2, .ref (r1 + 6)])) rfl ?_
    refine qle_gd fun h2 => ?_
    refine e_aal (n := 18) (q := (r1 + 7 + v2.toNatClampNeg)) rfl (fc_5_6 h_r1) (fl_5_6 h_r1) h2 (pes h_r1 _) ?_
    refine e_L 2 (f' := (145, [(0, .ref r0), (1, .ref r1), (2, .int v2)], [.ref r0, .int (0 : Int32), .ref (r1 + 7 + v2.toNatClampNeg)])) rfl ?_
    refine e_gR (q := (r0 + 6)) 5 6 rfl rfl h_r0 (fo_5_6 h_r0) ?_
    refine e_L 1 (f' := (149, [(0, .ref r0), (1, .ref r1), (2, .int v2)], [.int v2, .ref (r0 + 6), .int (0 : Int32), .ref (r1 + 7 + v2.toNatClampNeg)])) rfl ?_
    refine e_aal (n := 18) (q := (r0 + 7 + v2.toNatClampNeg)) rfl (fc_5_6 h_r0) (fl_5_6 h_r0) h2 (pes h_r0 _) ?_
    refine e_L 2 (f' := (153, [(0, .ref r0), (1, .ref r1), (2, .int v2)], [.int (100 : Int32), .int (0 : Int32), .ref (r0 + 7 + v2.toNatClampNeg), .int (0 : Int32), .ref (r1 + 7 + v2.toNatClampNeg)])) rfl ?_
    refine qle_gd fun h3 => ?_
    refine e_cpI (n0 := 100) (n1 := 100) rfl rfl (Nat.le_of_ble_eq_true rfl) ⟨(pes_c h_r1 h2), (pes_c h_r0 h2)⟩ (pes_l h_r1 h2) (pes_l h_r0 h2) h3 ?_
    refine e_nS fun s4 => ?_
    refine e_L 2 (f' := (131, [(2, .int (v2 + (1 : Int32))), (0, .ref r0), (1, .ref r1)], [])) rfl ?_
    exact qE_sub (qsubL [1, 2, 0] rfl (ks := [2, 0, 1]) rfl (by decide))
set_option maxRecDepth 100000 in
set_option maxHeartbeats 4000000 in
theorem le_X5_copy (en : pN) (d : Nat) (t : Nat) (a1 : Nat) (s : qS) : qle (gd (lc t = 5) (gd (lc a1 = 5) (nm (uI s t 7 (s.1 a1 7)) (fun s1 => nm (uI s1 t 8 (s1.1 a1 8)) (fun s2 => nm (uI s2 t 9 (s2.1 a1 9)) (fun s3 => nm (uI s3 t 10 (s3.1 a1 10)) (fun s4 => nm (uI s4 t 11 (s4.1 a1 11)) (fun s5 => nm (uI s5 t 12 (s5.1 a1 12)) (fun s6 => nm (uI s6 t 13 (s6.1 a1 13)) (fun s7 => gd (cpG (0 : Int32) (0 : Int32) (16 : Int32) 16 16) (nm (uJr s7 (t + 1) (va_cpy (s7.2.1 (a1 + 1)) (s7.2.1 (t + 1)) (0 : Int32).toNatClampNeg (0 : Int32).toNatClampNeg (16 : Int32).toNatClampNeg)) (fun s9 => gd (cpG (0 : Int32) (0 : Int32) (24 : Int32) 24 24) (nm (uJr s9 (t + 2) (va_cpy (s9.2.1 (a1 + 2)) (s9.2.1 (t + 2)) (0 : Int32).toNatClampNeg (0 : Int32).toNatClampNeg (24 : Int32).toNatClampNeg)) (fun s11 => gd (cpG (0 : Int32) (0 : Int32) (4 : Int32) 4 4) (nm (uIr s11 (t + 3) (va_cpy (s11.1 (a1 + 3)) (s11.1 (t + 3)) (0 : Int32).toNatClampNeg (0 : Int32).toNatClampNeg (4 : Int32).toNatClampNeg)) (fun s13 => gd (cpG (0 : Int32) (0 : Int32) (8 : Int32) 8 8) (nm (uIr s13 (t + 4) (va_cpy (s13.1 (a1 + 4)) (s13.1 (t + 4)) (0 : Int32).toNatClampNeg (0 : Int32).toNatClampNeg (8 : Int32).toNatClampNeg)) (fun s15 => gd (cpG (0 : Int32) (0 : Int32) (4 : Int32) 4 4) (nm (uIr s15 (t + 5) (va_cpy (s15.1 (a1 + 5)) (s15.1 (t + 5)) (0 : Int32).toNatClampNeg (0 : Int32).toNatClampNeg (4 : Int32).toNatClampNeg)) (fun s17 => L_X5_copy_131 en d t a1 (0 : Int32) s17)))))))))))))))))))) (qev en (d + 1) 82 [.ref t, .ref a1] s) := by
  refine e_enter ix_X5_copy (Nat.le_of_ble_eq_true rfl) ?_
  show qle _ (qE (qev en d) en none tb_X5_copy (0, [(0, .ref t), (1, .ref a1)], []) s)
  refine qle_gd fun ht => ?_
  refine qle_gd fun h_a1 => ?_
  refine e_L 2 (f' := (2, [(0, .ref t), (1, .ref a1)], [.ref a1, .ref t])) rfl ?_
  refine e_gI 5 7 rfl rfl h_a1 ?_
  refine e_pI 5 7 rfl rfl ht rfl ?_
  refine e_nS fun s1 => ?_
  refine e_L 2 (f' := (10, [(0, .ref t), (1, .ref a1)], [.ref a1, .ref t])) rfl ?_
  refine e_gI 5 8 rfl rfl h_a1 ?_
  refine e_pI 5 8 rfl rfl ht rfl ?_
  refine e_nS fun s2 => ?_
  refine e_L 2 (f' := (18, [(0, .ref t), (1, .ref a1)], [.ref a1, .ref t])) rfl ?_
  refine e_gI 5 9 rfl rfl h_a1 ?_
  refine e_pI 5 9 rfl rfl ht rfl ?_
  refine e_nS fun s3 => ?_
  refine e_L 2 (f' := (26, [(0, .ref t), (1, .ref a1)], [.ref a1, .ref t])) rfl ?_
  refine e_gI 5 10 rfl rfl h_a1 ?_
  refine e_pI 5 10 rfl rfl ht rfl ?_
  refine e_nS fun s4 => ?_
  refine e_L 2 (f' := (34, [(0, .ref t), (1, .ref a1)], [.ref a1, .ref t])) rfl ?_
  refine e_gI 5 11 rfl rfl h_a1 ?_
  refine e_pI 5 11 rfl rfl ht rfl ?_
  refine e_nS fun s5 => ?_
  refine e_L 2 (f' := (42, [(0, .ref t), (1, .ref a1)], [.ref a1, .ref t])) rfl ?_
  refine e_gI 5 12 rfl rfl h_a1 ?_
  refine e_pI 5 12 rfl rfl ht rfl ?_
  refine e_nS fun s6 => ?_
  refine e_L 2 (f' := (50, [(0, .ref t), (1, .ref a1)], [.ref a1, .ref t])) rfl ?_
  refine e_gI 5 13 rfl rfl h_a1 ?_
  refine e_pI 5 13 rfl rfl ht rfl ?_
  refine e_nS fun s7 => ?_
  refine e_L 1 (f' := (57, [(0, .ref t), (1, .ref a1)], [.ref a1])) rfl ?_
  refine e_gR (q := (a1 + 1)) 5 1 rfl rfl h_a1 (fo_5_1 h_a1) ?_
  refine e_L 2 (f' := (62, [(0, .ref t), (1, .ref a1)], [.ref t, .int (0 : Int32), .ref (a1 + 1)])) rfl ?_
  refine e_gR (q := (t + 1)) 5 1 rfl rfl ht (fo_5_1 ht) ?_
  refine e_L 2 (f' := (68, [(0, .ref t), (1, .ref a1)], [.int (16 : Int32), .int (0 : Int32), .ref (t + 1), .int (0 : Int32), .ref (a1 + 1)])) rfl ?_
  refine qle_gd fun h8 => ?_
  refine e_cpJ (n0 := 16) (n1 := 16) rfl rfl (Nat.le_of_ble_eq_true rfl) ⟨(fc_5_1 h_a1), (fc_5_1 ht)⟩ (fl_5_1 h_a1) (fl_5_1 ht) h8 ?_
  refine e_nS fun s9 => ?_
  refine e_L 1 (f' := (72, [(0, .ref t), (1, .ref a1)], [.ref a1])) rfl ?_
  refine e_gR (q := (a1 + 2)) 5 2 rfl rfl h_a1 (fo_5_2 h_a1) ?_
  refine e_L 2 (f' := (77, [(0, .ref t), (1, .ref a1)], [.ref t, .int (0 : Int32), .ref (a1 + 2)])) rfl ?_
  refine e_gR (q := (t + 2)) 5 2 rfl rfl ht (fo_5_2 ht) ?_
  refine e_L 2 (f' := (83, [(0, .ref t), (1, .ref a1)], [.int (24 : Int32), .int (0 : Int32), .ref (t + 2), .int (0 : Int32), .ref (a1 + 2)])) rfl ?_
  refine qle_gd fun h10 => ?_
  refine e_cpJ (n0 := 24) (n1 := 24) rfl rfl (Nat.le_of_ble_eq_true rfl) ⟨(fc_5_2 h_a1), (fc_5_2 ht)⟩ (fl_5_2 h_a1) (fl_5_2 ht) h10 ?_
  refine e_nS fun s11 => ?_
  refine e_L 1 (f' := (87, [(0, .ref t), (1, .ref a1)], [.ref a1])) rfl ?_
  refine e_gR (q := (a1 + 3)) 5 3 rfl rfl h_a1 (fo_5_3 h_a1) ?_
  refine e_L 2 (f' := (92, [(0, .ref t), (1, .ref a1)], [.ref t, .int (0 : Int32), .ref (a1 + 3)])) rfl ?_
  refine e_gR (q := (t + 3)) 5 3 rfl rfl ht (fo_5_3 ht) ?_
  refine e_L 2 (f' := (97, [(0, .ref t), (1, .ref a1)], [.int (4 : Int32), .int (0 : Int32), .ref (t + 3), .int (0 : Int32), .ref (a1 + 3)])) rfl ?_
  refine qle_gd fun h12 => ?_
  refine e_cpI (n0 := 4) (n1 := 4) rfl rfl (Nat.le_of_ble_eq_true rfl) ⟨(fc_5_3 h_a1), (fc_5_3 ht)⟩ (fl_5_3 h_a1) (fl_5_3 ht) h12 ?_
  refine e_nS fun s13 => ?_
  refine e_L 1 (f' := (101, [(0, .ref t), (1, .ref a1)], [.ref a1])) rfl ?_
  refine e_gR (q := (a1 + 4)) 5 4 rfl rfl h_a1 (fo_5_4 h_a1) ?_
  refine e_L 2 (f' := (106, [(0, .ref t), (1, .ref a1)], [.ref t, .int (0 : Int32), .ref (a1 + 4)])) rfl ?_
  refine e_gR (q := (t + 4)) 5 4 rfl rfl ht (fo_5_4 ht) ?_
  refine e_L 2 (f' := (112, [(0, .ref t), (1, .ref a1)], [.int (8 : Int32), .int (0 : Int32), .ref (t + 4), .int (0 : Int32), .ref (a1 + 4)])) rfl ?_
  refine qle_gd fun h14 => ?_
  refine e_cpI (n0 := 8) (n1 := 8) rfl rfl (Nat.le_of_ble_eq_true rfl) ⟨(fc_5_4 h_a1), (fc_5_4 ht)⟩ (fl_5_4 h_a1) (fl_5_4 ht) h14 ?_
  refine e_nS fun s15 => ?_
  refine e_L 1 (f' := (116, [(0, .ref t), (1, .ref a1)], [.ref a1])) rfl ?_
  refine e_gR (q := (a1 + 5)) 5 5 rfl rfl h_a1 (fo_5_5 h_a1) ?_
  refine e_L 2 (f' := (121, [(0, .ref t), (1, .ref a1)], [.ref t, .int (0 : Int32), .ref (a1 + 5)])) rfl ?_
  refine e_gR (q := (t + 5)) 5 5 rfl rfl ht (fo_5_5 ht) ?_
  refine e_L 2 (f' := (126, [(0, .ref t), (1, .ref a1)], [.int (4 : Int32), .int (0 : Int32), .ref (t + 5), .int (0 : Int32), .ref (a1 + 5)])) rfl ?_
  refine qle_gd fun h16 => ?_
  refine e_cpI (n0 := 4) (n1 := 4) rfl rfl (Nat.le_of_ble_eq_true rfl) ⟨(fc_5_5 h_a1), (fc_5_5 ht)⟩ (fl_5_5 h_a1) (fl_5_5 ht) h16 ?_
  refine e_nS fun s17 => ?_
  refine e_L 2 (f' := (131, [(2, .int (0 : Int32)), (0, .ref t), (1, .ref a1)], [])) rfl ?_
  exact qE_sub (qsubL [1, 2, 0] rfl (ks := [2, 0, 1]) rfl (by decide))
noncomputable def L_X5_find_3 (en : pN) (d : Nat) (r0 : Nat) (v1 : Int32) (v2 : Int32) (v3 : Int64) (v5 : Int32) (s : qS) : Option qR := qE (qev en d) en (some .int) tb_X5_find (3, [(0, .ref r0), (1, .int v1), (2, .int v2), (3, .long v3), (5, .int v5)], []) s
set_option maxRecDepth 100000 in
set_option maxHeartbeats 4000000 in
theorem le_X5_find_3 (en : pN) (d : Nat) (r0 : Nat) (v1 : Int32) (v2 : Int32) (v3 : Int64) (v5 : Int32) (s : qS) : qle (gd (lc r0 = 21) (if v2 ≤ v5 then some (some (.int (-1 : Int32)), s) else gd (p_inB (v1 + v5) (ln r0) = true) (if ¬ (lg_cmp (s.2.1 r0 (v1 + v5).toNatClampNeg) v3) = (0 : Int32) then L_X5_find_3 en d r0 v1 v2 v3 (v5 + (1 : Int32)) s else some (some (.int v5), s)))) (L_X5_find_3 en d r0 v1 v2 v3 v5 s) := by
  show qle _ (qE (qev en d) en (some .int) tb_X5_find (3, [(0, .ref r0), (1, .int v1), (2, .int v2), (3, .long v3), (5, .int v5)], []) s)
  refine qle_gd fun h_r0 => ?_
  refine e_L 2 (f' := (6, [(0, .ref r0), (1, .int v1), (2, .int v2), (3, .long v3), (5, .int v5)], [.int v2, .int v5])) rfl ?_
  refine e_icmp 29 rfl rfl rfl (fun c1 => ?_) (fun c1 => ?_)
  · refine e_L 1 (f' := (30, [(0, .ref r0), (1, .int v1), (2, .int v2), (3, .long v3), (5, .int v5)], [.int (-1 : Int32)])) rfl ?_
    exact e_rI rfl rfl
  · refine e_L 4 (f' := (14, [(0, .ref r0), (1, .int v1), (2, .int v2), (3, .long v3), (5, .int v5)], [.int (v1 + v5), .ref r0])) rfl ?_
    refine qle_gd fun h2 => ?_
    refine e_lal (n := (ln r0)) (k := (v1 + v5).toNatClampNeg) rfl h_r0 rfl h2 rfl ?_
    refine e_L 2 (f' := (17, [(0, .ref r0), (1, .int v1), (2, .int v2), (3, .long v3), (5, .int v5)], [.int (lg_cmp (s.2.1 r0 (v1 + v5).toNatClampNeg) v3)])) rfl ?_
    refine e_ifz 23 rfl rfl rfl (fun c3 => ?_) (fun c3 => ?_)
    · refine e_L 2 (f' := (3, [(5, .int (v5 + (1 : Int32))), (0, .ref r0), (1, .int v1), (2, .int v2), (3, .long v3)], [])) rfl ?_
      exact qE_sub (qsubL [1, 2, 3, 4, 0] rfl (ks := [5, 0, 1, 2, 3]) rfl (by decide))
    · refine e_L 1 (f' := (22, [(0, .ref r0), (1, .int v1), (2, .int v2), (3, .long v3), (5, .int v5)], [.int v5])) rfl ?_
      exact e_rI rfl rfl
set_option maxRecDepth 100000 in
set_option maxHeartbeats 4000000 in
theorem le_X5_find (en : pN) (d : Nat) (a1 : Nat) (a2 : Int32) (a3 : Int32) (a4 : Int64) (s : qS) : qle (gd (lc a1 = 21) (L_X5_find_3 en d a1 a2 a3 a4 (0 : Int32) s)) (qev en (d + 1) 83 [.ref a1, .int a2, .int a3, .long a4] s) := by
  refine e_enter ix_X5_find (Nat.le_of_ble_eq_true rfl) ?_
  show qle _ (qE (qev en d) en (some .int) tb_X5_find (0, [(0, .ref a1), (1, .int a2), (2, .int a3), (3, .long a4)], []) s)
  refine qle_gd fun h_a1 => ?_
  refine e_L 2 (f' := (3, [(5, .int (0 : Int32)), (0, .ref a1), (1, .int a2), (2, .int a3), (3, .long a4)], [])) rfl ?_
  exact qE_sub (qsubL [1, 2, 3, 4, 0] rfl (ks := [5, 0, 1, 2, 3]) rfl (by decide))
noncomputable def L_X5_named_2 (en : pN) (d : Nat) (r0 : Nat) (v1 : Int64) (v3 : Int32) (s : qS) : Option qR := qE (qev en d) en (some .int) tb_X5_named (2, [(0, .ref r0), (1, .long v1), (3, .int v3)], []) s
set_option maxRecDepth 100000 in
set_option maxHeartbeats 4000000 in
theorem le_X5_named_2 (en : pN) (d : Nat) (r0 : Nat) (v1 : Int64) (v3 : Int32) (s : qS) : qle (gd (lc r0 = 5) (if (16 : Int32) ≤ v3 then some (some (.int (-1 : Int32)), s) else gd (p_inB v3 16 = true) (if ¬ (lg_cmp (s.2.1 (r0 + 1) v3.toNatClampNeg) v1) = (0 : Int32) then L_X5_named_2 en d r0 v1 (v3 + (1 : Int32)) s else some (some (.int v3), s)))) (L_X5_named_2 en d r0 v1 v3 s) := by
  show qle _ (qE (qev en d) en (some .int) tb_X5_named (2, [(0, .ref r0), (1, .long v1), (3, .int v3)], []) s)
  refine qle_gd fun h_r0 => ?_
  refine e_L 2 (f' := (5, [(0, .ref r0), (1, .long v1), (3, .int v3)], [.int (16 : Int32), .int v3])) rfl ?_
  refine e_icmp 27 rfl rfl rfl (fun c1 => ?_) (fun c1 => ?_)
  · refine e_L 1 (f' := (28, [(0, .ref r0), (1, .long v1), (3, .int v3)], [.int (-1 : Int32)])) rfl ?_
    exact e_rI rfl rfl
  · refine e_L 1 (f' := (9, [(0, .ref r0), (1, .long v1), (3, .int v3)], [.ref r0])) rfl ?_
    refine e_gR (q := (r0 + 1)) 5 1 rfl rfl h_r0 (fo_5_1 h_r0) ?_
    refine e_L 1 (f' := (13, [(0, .ref r0), (1, .long v1), (3, .int v3)], [.int v3, .ref (r0 + 1)])) rfl ?_
    refine qle_gd fun h2 => ?_
    refine e_lal (n := 16) (k := v3.toNatClampNeg) rfl (fc_5_1 h_r0) (fl_5_1 h_r0) h2 rfl ?_
    refine e_L 2 (f' := (16, [(0, .ref r0), (1, .long v1), (3, .int v3)], [.int (lg_cmp (s.2.1 (r0 + 1) v3.toNatClampNeg) v1)])) rfl ?_
    refine e_ifz 21 rfl rfl rfl (fun c3 => ?_) (fun c3 => ?_)
    · refine e_L 2 (f' := (2, [(3, .int (v3 + (1 : Int32))), (0, .ref r0), (1, .long v1)], [])) rfl ?_
      exact qE_sub (qsubL [1, 2, 0] rfl (ks := [3, 0, 1]) rfl (by decide))
    · refine e_L 1 (f' := (20, [(0, .ref r0), (1, .long v1), (3, .int v3)], [.int v3])) rfl ?_
      exact e_rI rfl rfl
set_option maxRecDepth 100000 in
set_option maxHeartbeats 4000000 in
theorem le_X5_named (en : pN) (d : Nat) (t : Nat) (a1 : Int64) (s : qS) : qle (gd (lc t = 5) (L_X5_named_2 en d t a1 (0 : Int32) s)) (qev en (d + 1) 84 [.ref t, .long a1] s) := by
  refine e_enter ix_X5_named (Nat.le_of_ble_eq_true rfl) ?_
  show qle _ (qE (qev en d) en (some .int) tb_X5_named (0, [(0, .ref t), (1, .long a1)], []) s)
  refine qle_gd fun ht => ?_
  refine e_L 2 (f' := (2, [(3, .int (0 : Int32)), (0, .ref t), (1, .long a1)], [])) rfl ?_
  exact qE_sub (qsubL [1, 2, 0] rfl (ks := [3, 0, 1]) rfl (by decide))
set_option maxRecDepth 100000 in
set_option maxHeartbeats 4000000 in
theorem le_X5_isLock (en : pN) (d : Nat) (a1 : Int32) (s : qS) : qle (if a1 < (8 : Int32) then some (some (.int (0 : Int32)), s) else if (12 : Int32) ≤ a1 then some (some (.int (0 : Int32)), s) else some (some (.int (1 : Int32)), s)) (qev en (d + 1) 86 [.int a1] s) := by
  refine e_enter ix_X5_isLock (Nat.le_of_ble_eq_true rfl) ?_
  show qle _ (qE (qev en d) en (some .boolean) tb_X5_isLock (0, [(0, .int a1)], []) s)
  refine e_L 2 (f' := (3, [(0, .int a1)], [.int (8 : Int32), .int a1])) rfl ?_
  refine e_icmp 16 rfl rfl rfl (fun c1 => ?_) (fun c1 => ?_)
  · refine e_L 1 (f' := (17, [(0, .int a1)], [.int (0 : Int32)])) rfl ?_
    exact e_rZ rfl rfl (by decide)
  · refine e_L 2 (f' := (9, [(0, .int a1)], [.int (12 : Int32), .int a1])) rfl ?_
    refine e_icmp 16 rfl rfl rfl (fun c2 => ?_) (fun c2 => ?_)
    · refine e_L 1 (f' := (17, [(0, .int a1)], [.int (0 : Int32)])) rfl ?_
      exact e_rZ rfl rfl (by decide)
    · refine e_L 2 (f' := (17, [(0, .int a1)], [.int (1 : Int32)])) rfl ?_
      exact e_rZ rfl rfl (by decide)
set_option maxRecDepth 100000 in
set_option maxHeartbeats 4000000 in
theorem le_X5_isThread (en : pN) (d : Nat) (a1 : Int32) (s : qS) : qle (if a1 < (12 : Int32) then some (some (.int (0 : Int32)), s) else some (some (.int (1 : Int32)), s)) (qev en (d + 1) 87 [.int a1] s) := by
  refine e_enter ix_X5_isThread (Nat.le_of_ble_eq_true rfl) ?_
  show qle _ (qE (qev en d) en (some .boolean) tb_X5_isThread (0, [(0, .int a1)], []) s)
  refine e_L 2 (f' := (3, [(0, .int a1)], [.int (12 : Int32), .int a1])) rfl ?_
  refine e_icmp 10 rfl rfl rfl (fun c1 => ?_) (fun c1 => ?_)
  · refine e_L 1 (f' := (11, [(0, .int a1)], [.int (0 : Int32)])) rfl ?_
    exact e_rZ rfl rfl (by decide)
  · refine e_L 2 (f' := (11, [(0, .int a1)], [.int (1 : Int32)])) rfl ?_
    exact e_rZ rfl rfl (by decide)
set_option maxRecDepth 100000 in
set_option maxHeartbeats 4000000 in
theorem le_X5_localOf (en : pN) (d : Nat) (t : Nat) (a1 : Int32) (a2 : Int64) (s : qS) : qle (gd (lc t = 5) (gd (p_inB a1 4 = true) (bI (qev en d 83 [.ref (t + 2), .int (a1 * (6 : Int32)), .int (s.1 (t + 3) a1.toNatClampNeg), .long a2] s) (fun w2 s3 => some (some (.int w2), s3))))) (qev en (d + 1) 88 [.ref t, .int a1, .long a2] s) := by
  refine e_enter ix_X5_localOf (Nat.le_of_ble_eq_true rfl) ?_
  show qle _ (qE (qev en d) en (some .int) tb_X5_localOf (0, [(0, .ref t), (1, .int a1), (2, .long a2)], []) s)
  refine qle_gd fun ht => ?_
  refine e_L 1 (f' := (1, [(0, .ref t), (1, .int a1), (2, .long a2)], [.ref t])) rfl ?_
  refine e_gR (q := (t + 2)) 5 2 rfl rfl ht (fo_5_2 ht) ?_
  refine e_L 4 (f' := (9, [(0, .ref t), (1, .int a1), (2, .long a2)], [.ref t, .int (a1 * (6 : Int32)), .ref (t + 2)])) rfl ?_
  refine e_gR (q := (t + 3)) 5 3 rfl rfl ht (fo_5_3 ht) ?_
  refine e_L 1 (f' := (13, [(0, .ref t), (1, .int a1), (2, .long a2)], [.int a1, .ref (t + 3), .int (a1 * (6 : Int32)), .ref (t + 2)])) rfl ?_
  refine qle_gd fun h1 => ?_
  refine e_ial (n := 4) (k := a1.toNatClampNeg) rfl (fc_5_3 ht) (fl_5_3 ht) h1 rfl ?_
  refine e_L 1 (f' := (15, [(0, .ref t), (1, .int a1), (2, .long a2)], [.long a2, .int (s.1 (t + 3) a1.toNatClampNeg), .int (a1 * (6 : Int32)), .ref (t + 2)])) rfl ?_
  refine e_sI 83 rfl rfl rfl ix_X5_find rfl (Nat.le_of_ble_eq_true rfl) (fun w2 s3 e4 => ?_)
  exact e_rI rfl rfl
noncomputable def L_X5_isTold_2 (en : pN) (d : Nat) (r0 : Nat) (v1 : Int64) (v3 : Int32) (s : qS) : Option qR := qE (qev en d) en (some .boolean) tb_X5_isTold (2, [(0, .ref r0), (1, .long v1), (3, .int v3)], []) s
set_option maxRecDepth 100000 in
set_option maxHeartbeats 4000000 in
theorem le_X5_isTold_2 (en : pN) (d : Nat) (r0 : Nat) (v1 : Int64) (v3 : Int32) (s : qS) : qle (gd (lc r0 = 5) (if (s.1 r0 11) ≤ v3 then bI (qev en d 84 [.ref r0, .long v1] s) (fun w2 s3 => if w2 < (0 : Int32) then some (some (.int (0 : Int32)), s3) else some (some (.int (1 : Int32)), s3)) else bI (qev en d 88 [.ref r0, .int v3, .long v1] s) (fun w6 s7 => if w6 < (0 : Int32) then L_X5_isTold_2 en d r0 v1 (v3 + (1 : Int32)) s7 else some (some (.int (1 : Int32)), s7)))) (L_X5_isTold_2 en d r0 v1 v3 s) := by
  show qle _ (qE (qev en d) en (some .boolean) tb_X5_isTold (2, [(0, .ref r0), (1, .long v1), (3, .int v3)], []) s)
  refine qle_gd fun h_r0 => ?_
  refine e_L 2 (f' := (4, [(0, .ref r0), (1, .long v1), (3, .int v3)], [.ref r0, .int v3])) rfl ?_
  refine e_gI 5 11 rfl rfl h_r0 ?_
  refine e_icmp 27 rfl rfl rfl (fun c1 => ?_) (fun c1 => ?_)
  · refine e_L 2 (f' := (29, [(0, .ref r0), (1, .long v1), (3, .int v3)], [.long v1, .ref r0])) rfl ?_
    refine e_vI 84 rfl rfl ix_X5_named rfl (q_recvOf h_r0 rfl) (Nat.le_of_ble_eq_true rfl) (fun w2 s3 e4 => ?_)
    refine e_ifz 39 rfl rfl rfl (fun c5 => ?_) (fun c5 => ?_)
    · refine e_L 1 (f' := (40, [(0, .ref r0), (1, .long v1), (3, .int v3)], [.int (0 : Int32)])) rfl ?_
      exact e_rZ rfl rfl (by decide)
    · refine e_L 2 (f' := (40, [(0, .ref r0), (1, .long v1), (3, .int v3)], [.int (1 : Int32)])) rfl ?_
      exact e_rZ rfl rfl (by decide)
  · refine e_L 3 (f' := (13, [(0, .ref r0), (1, .long v1), (3, .int v3)], [.long v1, .int v3, .ref r0])) rfl ?_
    refine e_vI 88 rfl rfl ix_X5_localOf rfl (q_recvOf h_r0 rfl) (Nat.le_of_ble_eq_true rfl) (fun w6 s7 e8 => ?_)
    refine e_ifz 21 rfl rfl rfl (fun c9 => ?_) (fun c9 => ?_)
    · refine e_L 2 (f' := (2, [(3, .int (v3 + (1 : Int32))), (0, .ref r0), (1, .long v1)], [])) rfl ?_
      exact qE_sub (qsubL [1, 2, 0] rfl (ks := [3, 0, 1]) rfl (by decide))
    · refine e_L 1 (f' := (20, [(0, .ref r0), (1, .long v1), (3, .int v3)], [.int (1 : Int32)])) rfl ?_
      exact e_rZ rfl rfl (by decide)
set_option maxRecDepth 100000 in
set_option maxHeartbeats 4000000 in
theorem le_X5_isTold (en : pN) (d : Nat) (t : Nat) (a1 : Int64) (s : qS) : qle (gd (lc t = 5) (L_X5_isTold_2 en d t a1 (0 : Int32) s)) (qev en (d + 1) 89 [.ref t, .long a1] s) := by
  refine e_enter ix_X5_isTold (Nat.le_of_ble_eq_true rfl) ?_
  show qle _ (qE (qev en d) en (some .boolean) tb_X5_isTold (0, [(0, .ref t), (1, .long a1)], []) s)
  refine qle_gd fun ht => ?_
  refine e_L 2 (f' := (2, [(3, .int (0 : Int32)), (0, .ref t), (1, .long a1)], [])) rfl ?_
  exact qE_sub (qsubL [1, 2, 0] rfl (ks := [3, 0, 1]) rfl (by decide))
set_option maxRecDepth 100000 in
set_option maxHeartbeats 4000000 in
theorem le_X5_hasCell (en : pN) (d : Nat) (t : Nat) (a1 : Int32) (s : qS) : qle (gd (lc t = 5) (if a1 < (0 : Int32) then some (some (.int (0 : Int32)), s) else if (s.1 t 9) ≤ a1 then some (some (.int (0 : Int32)), s) else some (some (.int (1 : Int32)), s))) (qev en (d + 1) 90 [.ref t, .int a1] s) := by
  refine e_enter ix_X5_hasCell (Nat.le_of_ble_eq_true rfl) ?_
  show qle _ (qE (qev en d) en (some .boolean) tb_X5_hasCell (0, [(0, .ref t), (1, .int a1)], []) s)
  refine qle_gd fun ht => ?_
  refine e_L 1 (f' := (1, [(0, .ref t), (1, .int a1)], [.int a1])) rfl ?_
  refine e_ifz 16 rfl rfl rfl (fun c1 => ?_) (fun c1 => ?_)
  · refine e_L 1 (f' := (17, [(0, .ref t), (1, .int a1)], [.int (0 : Int32)])) rfl ?_
    exact e_rZ rfl rfl (by decide)
  · refine e_L 2 (f' := (6, [(0, .ref t), (1, .int a1)], [.ref t, .int a1])) rfl ?_
    refine e_gI 5 9 rfl rfl ht ?_
    refine e_icmp 16 rfl rfl rfl (fun c2 => ?_) (fun c2 => ?_)
    · refine e_L 1 (f' := (17, [(0, .ref t), (1, .int a1)], [.int (0 : Int32)])) rfl ?_
      exact e_rZ rfl rfl (by decide)
    · refine e_L 2 (f' := (17, [(0, .ref t), (1, .int a1)], [.int (1 : Int32)])) rfl ?_
      exact e_rZ rfl rfl (by decide)
set_option maxRecDepth 100000 in
set_option maxHeartbeats 4000000 in
theorem le_X5_hasThread (en : pN) (d : Nat) (t : Nat) (a1 : Int32) (s : qS) : qle (gd (lc t = 5) (if a1 < (0 : Int32) then some (some (.int (0 : Int32)), s) else if (s.1 t 11) ≤ a1 then some (some (.int (0 : Int32)), s) else some (some (.int (1 : Int32)), s))) (qev en (d + 1) 92 [.ref t, .int a1] s) := by
  refine e_enter ix_X5_hasThread (Nat.le_of_ble_eq_true rfl) ?_
  show qle _ (qE (qev en d) en (some .boolean) tb_X5_hasThread (0, [(0, .ref t), (1, .int a1)], []) s)
  refine qle_gd fun ht => ?_
  refine e_L 1 (f' := (1, [(0, .ref t), (1, .int a1)], [.int a1])) rfl ?_
  refine e_ifz 16 rfl rfl rfl (fun c1 => ?_) (fun c1 => ?_)
  · refine e_L 1 (f' := (17, [(0, .ref t), (1, .int a1)], [.int (0 : Int32)])) rfl ?_
    exact e_rZ rfl rfl (by decide)
  · refine e_L 2 (f' := (6, [(0, .ref t), (1, .int a1)], [.ref t, .int a1])) rfl ?_
    refine e_gI 5 11 rfl rfl ht ?_
    refine e_icmp 16 rfl rfl rfl (fun c2 => ?_) (fun c2 => ?_)
    · refine e_L 1 (f' := (17, [(0, .ref t), (1, .int a1)], [.int (0 : Int32)])) rfl ?_
      exact e_rZ rfl rfl (by decide)
    · refine e_L 2 (f' := (17, [(0, .ref t), (1, .int a1)], [.int (1 : Int32)])) rfl ?_
      exact e_rZ rfl rfl (by decide)
set_option maxRecDepth 100000 in
set_option maxHeartbeats 4000000 in
theorem le_X5_hasLocal (en : pN) (d : Nat) (t : Nat) (a1 : Int32) (a2 : Int32) (s : qS) : qle (gd (lc t = 5) (bI (qev en d 92 [.ref t, .int a1] s) (fun w1 s2 => if w1 = (0 : Int32) then some (some (.int (0 : Int32)), s2) else if a2 < (0 : Int32) then some (some (.int (0 : Int32)), s2) else gd (p_inB a1 4 = true) (if (s2.1 (t + 3) a1.toNatClampNeg) ≤ a2 then some (some (.int (0 : Int32)), s2) else some (some (.int (1 : Int32)), s2))))) (qev en (d + 1) 93 [.ref t, .int a1, .int a2] s) := by
  refine e_enter ix_X5_hasLocal (Nat.le_of_ble_eq_true rfl) ?_
  show qle _ (qE (qev en d) en (some .boolean) tb_X5_hasLocal (0, [(0, .ref t), (1, .int a1), (2, .int a2)], []) s)
  refine qle_gd fun ht => ?_
  refine e_L 2 (f' := (2, [(0, .ref t), (1, .int a1), (2, .int a2)], [.int a1, .ref t])) rfl ?_
  refine e_vI 92 rfl rfl ix_X5_hasThread rfl (q_recvOf ht rfl) (Nat.le_of_ble_eq_true rfl) (fun w1 s2 e3 => ?_)
  refine e_ifz 26 rfl rfl rfl (fun c4 => ?_) (fun c4 => ?_)
  · refine e_L 1 (f' := (27, [(0, .ref t), (1, .int a1), (2, .int a2)], [.int (0 : Int32)])) rfl ?_
    exact e_rZ rfl rfl (by decide)
  · refine e_L 1 (f' := (9, [(0, .ref t), (1, .int a1), (2, .int a2)], [.int a2])) rfl ?_
    refine e_ifz 26 rfl rfl rfl (fun c5 => ?_) (fun c5 => ?_)
    · refine e_L 1 (f' := (27, [(0, .ref t), (1, .int a1), (2, .int a2)], [.int (0 : Int32)])) rfl ?_
      exact e_rZ rfl rfl (by decide)
    · refine e_L 2 (f' := (14, [(0, .ref t), (1, .int a1), (2, .int a2)], [.ref t, .int a2])) rfl ?_
      refine e_gR (q := (t + 3)) 5 3 rfl rfl ht (fo_5_3 ht) ?_
      refine e_L 1 (f' := (18, [(0, .ref t), (1, .int a1), (2, .int a2)], [.int a1, .ref (t + 3), .int a2])) rfl ?_
      refine qle_gd fun h6 => ?_
      refine e_ial (n := 4) (k := a1.toNatClampNeg) rfl (fc_5_3 ht) (fl_5_3 ht) h6 rfl ?_
      refine e_icmp 26 rfl rfl rfl (fun c7 => ?_) (fun c7 => ?_)
      · refine e_L 1 (f' := (27, [(0, .ref t), (1, .int a1), (2, .int a2)], [.int (0 : Int32)])) rfl ?_
        exact e_rZ rfl rfl (by decide)
      · refine e_L 2 (f' := (27, [(0, .ref t), (1, .int a1), (2, .int a2)], [.int (1 : Int32)])) rfl ?_
        exact e_rZ rfl rfl (by decide)
set_option maxRecDepth 100000 in
set_option maxHeartbeats 4000000 in
theorem le_X5_isVolatile (en : pN) (d : Nat) (t : Nat) (a1 : Int32) (s : qS) : qle (gd (lc t = 5) (if (((s.1 t 7) >>> (a1 &&& 31)) &&& (1 : Int32)) = (0 : Int32) then some (some (.int (0 : Int32)), s) else some (some (.int (1 : Int32)), s))) (qev en (d + 1) 94 [.ref t, .int a1] s) := by
  refine e_enter ix_X5_isVolatile (Nat.le_of_ble_eq_true rfl) ?_
  show qle _ (qE (qev en d) en (some .boolean) tb_X5_isVolatile (0, [(0, .ref t), (1, .int a1)], []) s)
  refine qle_gd fun ht => ?_
  refine e_L 1 (f' := (1, [(0, .ref t), (1, .int a1)], [.ref t])) rfl ?_
  refine e_gI 5 7 rfl rfl ht ?_
  refine e_L 4 (f' := (8, [(0, .ref t), (1, .int a1)], [.int (((s.1 t 7) >>> (a1 &&& 31)) &&& (1 : Int32))])) rfl ?_
  refine e_ifz 15 rfl rfl rfl (fun c1 => ?_) (fun c1 => ?_)
  · refine e_L 1 (f' := (16, [(0, .ref t), (1, .int a1)], [.int (0 : Int32)])) rfl ?_
    exact e_rZ rfl rfl (by decide)
  · refine e_L 2 (f' := (16, [(0, .ref t), (1, .int a1)], [.int (1 : Int32)])) rfl ?_
    exact e_rZ rfl rfl (by decide)
set_option maxRecDepth 100000 in
set_option maxHeartbeats 4000000 in
theorem le_X5_addCell (en : pN) (d : Nat) (t : Nat) (a1 : Int64) (s : qS) : qle (gd (lc t = 5) (gd (p_inB (s.1 t 9) 16 = true) (nm (uJ s (t + 1) ((s.1 t 9).toNatClampNeg) a1) (fun s2 => gd (p_inB (s2.1 t 9) 8 = true) (nm (uI s2 (t + 4) ((s2.1 t 9).toNatClampNeg) (0 : Int32)) (fun s4 => nm (uI s4 t 9 ((s4.1 t 9) + (1 : Int32))) (fun s5 => some (some (.int ((s5.1 t 9) - (1 : Int32))), s5)))))))) (qev en (d + 1) 95 [.ref t, .long a1] s) := by
  refine e_enter ix_X5_addCell (Nat.le_of_ble_eq_true rfl) ?_
  show qle _ (qE (qev en d) en (some .int) tb_X5_addCell (0, [(0, .ref t), (1, .long a1)], []) s)
  refine qle_gd fun ht => ?_
  refine e_L 1 (f' := (1, [(0, .ref t), (1, .long a1)], [.ref t])) rfl ?_
  refine e_gR (q := (t + 1)) 5 1 rfl rfl ht (fo_5_1 ht) ?_
  refine e_L 1 (f' := (5, [(0, .ref t), (1, .long a1)], [.ref t, .ref (t + 1)])) rfl ?_
  refine e_gI 5 9 rfl rfl ht ?_
  refine e_L 1 (f' := (9, [(0, .ref t), (1, .long a1)], [.long a1, .int (s.1 t 9), .ref (t + 1)])) rfl ?_
  refine qle_gd fun h1 => ?_
  refine e_las (n := 16) (k := (s.1 t 9).toNatClampNeg) rfl (fc_5_1 ht) (fl_5_1 ht) h1 rfl ?_
  refine e_nS fun s2 => ?_
  refine e_L 1 (f' := (11, [(0, .ref t), (1, .long a1)], [.ref t])) rfl ?_
  refine e_gR (q := (t + 4)) 5 4 rfl rfl ht (fo_5_4 ht) ?_
  refine e_L 1 (f' := (15, [(0, .ref t), (1, .long a1)], [.ref t, .ref (t + 4)])) rfl ?_
  refine e_gI 5 9 rfl rfl ht ?_
  refine e_L 1 (f' := (19, [(0, .ref t), (1, .long a1)], [.int (0 : Int32), .int (s2.1 t 9), .ref (t + 4)])) rfl ?_
  refine qle_gd fun h3 => ?_
  refine e_ias (n := 8) (k := (s2.1 t 9).toNatClampNeg) rfl (fc_5_4 ht) (fl_5_4 ht) h3 rfl ?_
  refine e_nS fun s4 => ?_
  refine e_L 2 (f' := (22, [(0, .ref t), (1, .long a1)], [.ref t, .ref t])) rfl ?_
  refine e_gI 5 9 rfl rfl ht ?_
  refine e_L 2 (f' := (27, [(0, .ref t), (1, .long a1)], [.int ((s4.1 t 9) + (1 : Int32)), .ref t])) rfl ?_
  refine e_pI 5 9 rfl rfl ht rfl ?_
  refine e_nS fun s5 => ?_
  refine e_L 1 (f' := (31, [(0, .ref t), (1, .long a1)], [.ref t])) rfl ?_
  refine e_gI 5 9 rfl rfl ht ?_
  refine e_L 2 (f' := (36, [(0, .ref t), (1, .long a1)], [.int ((s5.1 t 9) - (1 : Int32))])) rfl ?_
  exact e_rI rfl rfl
set_option maxRecDepth 100000 in
set_option maxHeartbeats 4000000 in
theorem le_X5_addLock (en : pN) (d : Nat) (t : Nat) (a1 : Int64) (s : qS) : qle (gd (lc t = 5) (gd (p_inB ((8 : Int32) + (s.1 t 10)) 16 = true) (nm (uJ s (t + 1) (((8 : Int32) + (s.1 t 10)).toNatClampNeg) a1) (fun s2 => nm (uI s2 t 10 ((s2.1 t 10) + (1 : Int32))) (fun s3 => some (none, s3)))))) (qev en (d + 1) 96 [.ref t, .long a1] s) := by
  refine e_enter ix_X5_addLock (Nat.le_of_ble_eq_true rfl) ?_
  show qle _ (qE (qev en d) en none tb_X5_addLock (0, [(0, .ref t), (1, .long a1)], []) s)
  refine qle_gd fun ht => ?_
  refine e_L 1 (f' := (1, [(0, .ref t), (1, .long a1)], [.ref t])) rfl ?_
  refine e_gR (q := (t + 1)) 5 1 rfl rfl ht (fo_5_1 ht) ?_
  refine e_L 2 (f' := (7, [(0, .ref t), (1, .long a1)], [.ref t, .int (8 : Int32), .ref (t + 1)])) rfl ?_
  refine e_gI 5 10 rfl rfl ht ?_
  refine e_L 2 (f' := (12, [(0, .ref t), (1, .long a1)], [.long a1, .int ((8 : Int32) + (s.1 t 10)), .ref (t + 1)])) rfl ?_
  refine qle_gd fun h1 => ?_
  refine e_las (n := 16) (k := ((8 : Int32) + (s.1 t 10)).toNatClampNeg) rfl (fc_5_1 ht) (fl_5_1 ht) h1 rfl ?_
  refine e_nS fun s2 => ?_
  refine e_L 2 (f' := (15, [(0, .ref t), (1, .long a1)], [.ref t, .ref t])) rfl ?_
  refine e_gI 5 10 rfl rfl ht ?_
  refine e_L 2 (f' := (20, [(0, .ref t), (1, .long a1)], [.int ((s2.1 t 10) + (1 : Int32)), .ref t])) rfl ?_
  refine e_pI 5 10 rfl rfl ht rfl ?_
  refine e_nS fun s3 => ?_
  exact e_rV rfl rfl
set_option maxRecDepth 100000 in
set_option maxHeartbeats 4000000 in
theorem le_X5_addThread (en : pN) (d : Nat) (t : Nat) (a1 : Int64) (s : qS) : qle (gd (lc t = 5) (gd (p_inB ((12 : Int32) + (s.1 t 11)) 16 = true) (nm (uJ s (t + 1) (((12 : Int32) + (s.1 t 11)).toNatClampNeg) a1) (fun s2 => gd (p_inB (s2.1 t 11) 4 = true) (nm (uI s2 (t + 5) ((s2.1 t 11).toNatClampNeg) (-1 : Int32)) (fun s4 => nm (uI s4 t 11 ((s4.1 t 11) + (1 : Int32))) (fun s5 => some (some (.int ((s5.1 t 11) - (1 : Int32))), s5)))))))) (qev en (d + 1) 97 [.ref t, .long a1] s) := by
  refine e_enter ix_X5_addThread (Nat.le_of_ble_eq_true rfl) ?_
  show qle _ (qE (qev en d) en (some .int) tb_X5_addThread (0, [(0, .ref t), (1, .long a1)], []) s)
  refine qle_gd fun ht => ?_
  refine e_L 1 (f' := (1, [(0, .ref t), (1, .long a1)], [.ref t])) rfl ?_
  refine e_gR (q := (t + 1)) 5 1 rfl rfl ht (fo_5_1 ht) ?_
  refine e_L 2 (f' := (7, [(0, .ref t), (1, .long a1)], [.ref t, .int (12 : Int32), .ref (t + 1)])) rfl ?_
  refine e_gI 5 11 rfl rfl ht ?_
  refine e_L 2 (f' := (12, [(0, .ref t), (1, .long a1)], [.long a1, .int ((12 : Int32) + (s.1 t 11)), .ref (t + 1)])) rfl ?_
  refine qle_gd fun h1 => ?_
  refine e_las (n := 16) (k := ((12 : Int32) + (s.1 t 11)).toNatClampNeg) rfl (fc_5_1 ht) (fl_5_1 ht) h1 rfl ?_
  refine e_nS fun s2 => ?_
  refine e_L 1 (f' := (14, [(0, .ref t), (1, .long a1)], [.ref t])) rfl ?_
  refine e_gR (q := (t + 5)) 5 5 rfl rfl ht (fo_5_5 ht) ?_
  refine e_L 1 (f' := (18, [(0, .ref t), (1, .long a1)], [.ref t, .ref (t + 5)])) rfl ?_
  refine e_gI 5 11 rfl rfl ht ?_
  refine e_L 1 (f' := (22, [(0, .ref t), (1, .long a1)], [.int (-1 : Int32), .int (s2.1 t 11), .ref (t + 5)])) rfl ?_
  refine qle_gd fun h3 => ?_
  refine e_ias (n := 4) (k := (s2.1 t 11).toNatClampNeg) rfl (fc_5_5 ht) (fl_5_5 ht) h3 rfl ?_
  refine e_nS fun s4 => ?_
  refine e_L 2 (f' := (25, [(0, .ref t), (1, .long a1)], [.ref t, .ref t])) rfl ?_
  refine e_gI 5 11 rfl rfl ht ?_
  refine e_L 2 (f' := (30, [(0, .ref t), (1, .long a1)], [.int ((s4.1 t 11) + (1 : Int32)), .ref t])) rfl ?_
  refine e_pI 5 11 rfl rfl ht rfl ?_
  refine e_nS fun s5 => ?_
  refine e_L 1 (f' := (34, [(0, .ref t), (1, .long a1)], [.ref t])) rfl ?_
  refine e_gI 5 11 rfl rfl ht ?_
  refine e_L 2 (f' := (39, [(0, .ref t), (1, .long a1)], [.int ((s5.1 t 11) - (1 : Int32))])) rfl ?_
  exact e_rI rfl rfl
set_option maxRecDepth 100000 in
set_option maxHeartbeats 4000000 in
theorem le_X5_addLocal (en : pN) (d : Nat) (t : Nat) (a1 : Int32) (a2 : Int64) (s : qS) : qle (gd (lc t = 5) (gd (p_inB a1 4 = true) (gd (p_inB ((a1 * (6 : Int32)) + (s.1 (t + 3) a1.toNatClampNeg)) 24 = true) (nm (uJ s (t + 2) (((a1 * (6 : Int32)) + (s.1 (t + 3) a1.toNatClampNeg)).toNatClampNeg) a2) (fun s3 => nm (uI s3 (t + 3) (a1.toNatClampNeg) ((s3.1 (t + 3) a1.toNatClampNeg) + (1 : Int32))) (fun s4 => some (some (.int ((s4.1 (t + 3) a1.toNatClampNeg) - (1 : Int32))), s4))))))) (qev en (d + 1) 98 [.ref t, .int a1, .long a2] s) := by
  refine e_enter ix_X5_addLocal (Nat.le_of_ble_eq_true rfl) ?_
  show qle _ (qE (qev en d) en (some .int) tb_X5_addLocal (0, [(0, .ref t), (1, .int a1), (2, .long a2)], []) s)
  refine qle_gd fun ht => ?_
  refine e_L 1 (f' := (1, [(0, .ref t), (1, .int a1), (2, .long a2)], [.ref t])) rfl ?_
  refine e_gR (q := (t + 2)) 5 2 rfl rfl ht (fo_5_2 ht) ?_
  refine e_L 4 (f' := (9, [(0, .ref t), (1, .int a1), (2, .long a2)], [.ref t, .int (a1 * (6 : Int32)), .ref (t + 2)])) rfl ?_
  refine e_gR (q := (t + 3)) 5 3 rfl rfl ht (fo_5_3 ht) ?_
  refine e_L 1 (f' := (13, [(0, .ref t), (1, .int a1), (2, .long a2)], [.int a1, .ref (t + 3), .int (a1 * (6 : Int32)), .ref (t + 2)])) rfl ?_
  refine qle_gd fun h1 => ?_
  refine e_ial (n := 4) (k := a1.toNatClampNeg) rfl (fc_5_3 ht) (fl_5_3 ht) h1 rfl ?_
  refine e_L 2 (f' := (16, [(0, .ref t), (1, .int a1), (2, .long a2)], [.long a2, .int ((a1 * (6 : Int32)) + (s.1 (t + 3) a1.toNatClampNeg)), .ref (t + 2)])) rfl ?_
  refine qle_gd fun h2 => ?_
  refine e_las (n := 24) (k := ((a1 * (6 : Int32)) + (s.1 (t + 3) a1.toNatClampNeg)).toNatClampNeg) rfl (fc_5_2 ht) (fl_5_2 ht) h2 rfl ?_
  refine e_nS fun s3 => ?_
  refine e_L 1 (f' := (18, [(0, .ref t), (1, .int a1), (2, .long a2)], [.ref t])) rfl ?_
  refine e_gR (q := (t + 3)) 5 3 rfl rfl ht (fo_5_3 ht) ?_
  refine e_L 2 (f' := (23, [(0, .ref t), (1, .int a1), (2, .long a2)], [.int a1, .ref (t + 3), .int a1, .ref (t + 3)])) rfl ?_
  refine e_ial (n := 4) (k := a1.toNatClampNeg) rfl (fc_5_3 ht) (fl_5_3 ht) h1 rfl ?_
  refine e_L 2 (f' := (26, [(0, .ref t), (1, .int a1), (2, .long a2)], [.int ((s3.1 (t + 3) a1.toNatClampNeg) + (1 : Int32)), .int a1, .ref (t + 3)])) rfl ?_
  refine e_ias (n := 4) (k := a1.toNatClampNeg) rfl (fc_5_3 ht) (fl_5_3 ht) h1 rfl ?_
  refine e_nS fun s4 => ?_
  refine e_L 1 (f' := (28, [(0, .ref t), (1, .int a1), (2, .long a2)], [.ref t])) rfl ?_
  refine e_gR (q := (t + 3)) 5 3 rfl rfl ht (fo_5_3 ht) ?_
  refine e_L 1 (f' := (32, [(0, .ref t), (1, .int a1), (2, .long a2)], [.int a1, .ref (t + 3)])) rfl ?_
  refine e_ial (n := 4) (k := a1.toNatClampNeg) rfl (fc_5_3 ht) (fl_5_3 ht) h1 rfl ?_
  refine e_L 2 (f' := (35, [(0, .ref t), (1, .int a1), (2, .long a2)], [.int ((s4.1 (t + 3) a1.toNatClampNeg) - (1 : Int32))])) rfl ?_
  exact e_rI rfl rfl
noncomputable def L_X5_addLine_19 (en : pN) (d : Nat) (r0 : Nat) (v1 : Int32) (v2 : Int32) (v3 : Int32) (v4 : Int32) (v5 : Int32) (v6 : Int32) (s : qS) : Option qR := qE (qev en d) en (some .int) tb_X5_addLine (19, [(0, .ref r0), (1, .int v1), (2, .int v2), (3, .int v3), (4, .int v4), (5, .int v5), (6, .int v6)], []) s
set_option maxRecDepth 100000 in
set_option maxHeartbeats 4000000 in
theorem le_X5_addLine_19 (en : pN) (d : Nat) (r0 : Nat) (v1 : Int32) (v2 : Int32) (v3 : Int32) (v4 : Int32) (v5 : Int32) (v6 : Int32) (s : qS) : qle (gd (lc r0 = 5) (if (18 : Int32) ≤ v6 then gd (p_inB v5 100 = true) (nm (uI s (r0 + 8) (v5.toNatClampNeg) v1) (fun s3 => nm (uI s3 (r0 + 9) (v5.toNatClampNeg) (-2 : Int32)) (fun s4 => nm (uI s4 (r0 + 10) (v5.toNatClampNeg) (-2 : Int32)) (fun s5 => nm (uI s5 (r0 + 11) (v5.toNatClampNeg) v4) (fun s6 => nm (uI s6 (r0 + 17) (v5.toNatClampNeg) (-1 : Int32)) (fun s7 => nm (uI s7 (r0 + 18) (v5.toNatClampNeg) v2) (fun s8 => nm (uI s8 (r0 + 19) (v5.toNatClampNeg) v3) (fun s9 => nm (uI s9 (r0 + 20) (v5.toNatClampNeg) (-1 : Int32)) (fun s10 => nm (uI s10 (r0 + 21) (v5.toNatClampNeg) (-1 : Int32)) (fun s11 => some (some (.int v5), s11))))))))))) else gd (p_inB v6 18 = true) (gd (p_inB v5 100 = true) (nm (uI s (r0 + 7 + v6.toNatClampNeg) (v5.toNatClampNeg) (0 : Int32)) (fun s14 => L_X5_addLine_19 en d r0 v1 v2 v3 v4 v5 (v6 + (1 : Int32)) s14))))) (L_X5_addLine_19 en d r0 v1 v2 v3 v4 v5 v6 s) := by
  show qle _ (qE (qev en d) en (some .int) tb_X5_addLine (19, [(0, .ref r0), (1, .int v1), (2, .int v2), (3, .int v3), (4, .int v4), (5, .int v5), (6, .int v6)], []) s)
  refine qle_gd fun h_r0 => ?_
  refine e_L 2 (f' := (23, [(0, .ref r0), (1, .int v1), (2, .int v2), (3, .int v3), (4, .int v4), (5, .int v5), (6, .int v6)], [.int (18 : Int32), .int v6])) rfl ?_
  refine e_icmp 43 rfl rfl rfl (fun c1 => ?_) (fun c1 => ?_)
  · refine e_L 1 (f' := (44, [(0, .ref r0), (1, .int v1), (2, .int v2), (3, .int v3), (4, .int v4), (5, .int v5), (6, .int v6)], [.ref r0])) rfl ?_
    refine e_gR (q := (r0 + 6)) 5 6 rfl rfl h_r0 (fo_5_6 h_r0) ?_
    refine e_L 1 (f' := (48, [(0, .ref r0), (1, .int v1), (2, .int v2), (3, .int v3), (4, .int v4), (5, .int v5), (6, .int v6)], [.int (1 : Int32), .ref (r0 + 6)])) rfl ?_
    refine e_aal (n := 18) (q := (r0 + 8)) rfl (fc_5_6 h_r0) (fl_5_6 h_r0) (by decide +kernel) (pe_1 h_r0) ?_
    refine e_L 2 (f' := (52, [(0, .ref r0), (1, .int v1), (2, .int v2), (3, .int v3), (4, .int v4), (5, .int v5), (6, .int v6)], [.int v1, .int v5, .ref (r0 + 8)])) rfl ?_
    refine qle_gd fun h2 => ?_
    refine e_ias (n := 100) (k := v5.toNatClampNeg) rfl (pe_c_1 h_r0) (pe_l_1 h_r0) h2 rfl ?_
    refine e_nS fun s3 => ?_
    refine e_L 1 (f' := (54, [(0, .ref r0), (1, .int v1), (2, .int v2), (3, .int v3), (4, .int v4), (5, .int v5), (6, .int v6)], [.ref r0])) rfl ?_
    refine e_gR (q := (r0 + 6)) 5 6 rfl rfl h_r0 (fo_5_6 h_r0) ?_
    refine e_L 1 (f' := (58, [(0, .ref r0), (1, .int v1), (2, .int v2), (3, .int v3), (4, .int v4), (5, .int v5), (6, .int v6)], [.int (2 : Int32), .ref (r0 + 6)])) rfl ?_
    refine e_aal (n := 18) (q := (r0 + 9)) rfl (fc_5_6 h_r0) (fl_5_6 h_r0) (by decide +kernel) (pe_2 h_r0) ?_
    refine e_L 2 (f' := (63, [(0, .ref r0), (1, .int v1), (2, .int v2), (3, .int v3), (4, .int v4), (5, .int v5), (6, .int v6)], [.int (-2 : Int32), .int v5, .ref (r0 + 9)])) rfl ?_
    refine e_ias (n := 100) (k := v5.toNatClampNeg) rfl (pe_c_2 h_r0) (pe_l_2 h_r0) h2 rfl ?_
    refine e_nS fun s4 => ?_
    refine e_L 1 (f' := (65, [(0, .ref r0), (1, .int v1), (2, .int v2), (3, .int v3), (4, .int v4), (5, .int v5), (6, .int v6)], [.ref r0])) rfl ?_
    refine e_gR (q := (r0 + 6)) 5 6 rfl rfl h_r0 (fo_5_6 h_r0) ?_
    refine e_L 1 (f' := (69, [(0, .ref r0), (1, .int v1), (2, .int v2), (3, .int v3), (4, .int v4), (5, .int v5), (6, .int v6)], [.int (3 : Int32), .ref (r0 + 6)])) rfl ?_
    refine e_aal (n := 18) (q := (r0 + 10)) rfl (fc_5_6 h_r0) (fl_5_6 h_r0) (by decide +kernel) (pe_3 h_r0) ?_
    refine e_L 2 (f' := (74, [(0, .ref r0), (1, .int v1), (2, .int v2), (3, .int v3), (4, .int v4), (5, .int v5), (6, .int v6)], [.int (-2 : Int32), .int v5, .ref (r0 + 10)])) rfl ?_
    refine e_ias (n := 100) (k := v5.toNatClampNeg) rfl (pe_c_3 h_r0) (pe_l_3 h_r0) h2 rfl ?_
    refine e_nS fun s5 => ?_
    refine e_L 1 (f' := (76, [(0, .ref r0), (1, .int v1), (2, .int v2), (3, .int v3), (4, .int v4), (5, .int v5), (6, .int v6)], [.ref r0])) rfl ?_
    refine e_gR (q := (r0 + 6)) 5 6 rfl rfl h_r0 (fo_5_6 h_r0) ?_
    refine e_L 1 (f' := (80, [(0, .ref r0), (1, .int v1), (2, .int v2), (3, .int v3), (4, .int v4), (5, .int v5), (6, .int v6)], [.int (4 : Int32), .ref (r0 + 6)])) rfl ?_
    refine e_aal (n := 18) (q := (r0 + 11)) rfl (fc_5_6 h_r0) (fl_5_6 h_r0) (by decide +kernel) (pe_4 h_r0) ?_
    refine e_L 2 (f' := (85, [(0, .ref r0), (1, .int v1), (2, .int v2), (3, .int v3), (4, .int v4), (5, .int v5), (6, .int v6)], [.int v4, .int v5, .ref (r0 + 11)])) rfl ?_
    refine e_ias (n := 100) (k := v5.toNatClampNeg) rfl (pe_c_4 h_r0) (pe_l_4 h_r0) h2 rfl ?_
    refine e_nS fun s6 => ?_
    refine e_L 1 (f' := (87, [(0, .ref r0), (1, .int v1), (2, .int v2), (3, .int v3), (4, .int v4), (5, .int v5), (6, .int v6)], [.ref r0])) rfl ?_
    refine e_gR (q := (r0 + 6)) 5 6 rfl rfl h_r0 (fo_5_6 h_r0) ?_
    refine e_L 1 (f' := (92, [(0, .ref r0), (1, .int v1), (2, .int v2), (3, .int v3), (4, .int v4), (5, .int v5), (6, .int v6)], [.int (10 : Int32), .ref (r0 + 6)])) rfl ?_
    refine e_aal (n := 18) (q := (r0 + 17)) rfl (fc_5_6 h_r0) (fl_5_6 h_r0) (by decide +kernel) (pe_10 h_r0) ?_
    refine e_L 2 (f' := (96, [(0, .ref r0), (1, .int v1), (2, .int v2), (3, .int v3), (4, .int v4), (5, .int v5), (6, .int v6)], [.int (-1 : Int32), .int v5, .ref (r0 + 17)])) rfl ?_
    refine e_ias (n := 100) (k := v5.toNatClampNeg) rfl (pe_c_10 h_r0) (pe_l_10 h_r0) h2 rfl ?_
    refine e_nS fun s7 => ?_
    refine e_L 1 (f' := (98, [(0, .ref r0), (1, .int v1), (2, .int v2), (3, .int v3), (4, .int v4), (5, .int v5), (6, .int v6)], [.ref r0])) rfl ?_
    refine e_gR (q := (r0 + 6)) 5 6 rfl rfl h_r0 (fo_5_6 h_r0) ?_
    refine e_L 1 (f' := (103, [(0, .ref r0), (1, .int v1), (2, .int v2), (3, .int v3), (4, .int v4), (5, .int v5), (6, .int v6)], [.int (11 : Int32), .ref (r0 + 6)])) rfl ?_
    refine e_aal (n := 18) (q := (r0 + 18)) rfl (fc_5_6 h_r0) (fl_5_6 h_r0) (by decide +kernel) (pe_11 h_r0) ?_
    refine e_L 2 (f' := (107, [(0, .ref r0), (1, .int v1), (2, .int v2), (3, .int v3), (4, .int v4), (5, .int v5), (6, .int v6)], [.int v2, .int v5, .ref (r0 + 18)])) rfl ?_
    refine e_ias (n := 100) (k := v5.toNatClampNeg) rfl (pe_c_11 h_r0) (pe_l_11 h_r0) h2 rfl ?_
    refine e_nS fun s8 => ?_
    refine e_L 1 (f' := (109, [(0, .ref r0), (1, .int v1), (2, .int v2), (3, .int v3), (4, .int v4), (5, .int v5), (6, .int v6)], [.ref r0])) rfl ?_
    refine e_gR (q := (r0 + 6)) 5 6 rfl rfl h_r0 (fo_5_6 h_r0) ?_
    refine e_L 1 (f' := (114, [(0, .ref r0), (1, .int v1), (2, .int v2), (3, .int v3), (4, .int v4), (5, .int v5), (6, .int v6)], [.int (12 : Int32), .ref (r0 + 6)])) rfl ?_
    refine e_aal (n := 18) (q := (r0 + 19)) rfl (fc_5_6 h_r0) (fl_5_6 h_r0) (by decide +kernel) (pe_12 h_r0) ?_
    refine e_L 2 (f' := (118, [(0, .ref r0), (1, .int v1), (2, .int v2), (3, .int v3), (4, .int v4), (5, .int v5), (6, .int v6)], [.int v3, .int v5, .ref (r0 + 19)])) rfl ?_
    refine e_ias (n := 100) (k := v5.toNatClampNeg) rfl (pe_c_12 h_r0) (pe_l_12 h_r0) h2 rfl ?_
    refine e_nS fun s9 => ?_
    refine e_L 1 (f' := (120, [(0, .ref r0), (1, .int v1), (2, .int v2), (3, .int v3), (4, .int v4), (5, .int v5), (6, .int v6)], [.ref r0])) rfl ?_
    refine e_gR (q := (r0 + 6)) 5 6 rfl rfl h_r0 (fo_5_6 h_r0) ?_
    refine e_L 1 (f' := (125, [(0, .ref r0), (1, .int v1), (2, .int v2), (3, .int v3), (4, .int v4), (5, .int v5), (6, .int v6)], [.int (13 : Int32), .ref (r0 + 6)])) rfl ?_
    refine e_aal (n := 18) (q := (r0 + 20)) rfl (fc_5_6 h_r0) (fl_5_6 h_r0) (by decide +kernel) (pe_13 h_r0) ?_
    refine e_L 2 (f' := (129, [(0, .ref r0), (1, .int v1), (2, .int v2), (3, .int v3), (4, .int v4), (5, .int v5), (6, .int v6)], [.int (-1 : Int32), .int v5, .ref (r0 + 20)])) rfl ?_
    refine e_ias (n := 100) (k := v5.toNatClampNeg) rfl (pe_c_13 h_r0) (pe_l_13 h_r0) h2 rfl ?_
    refine e_nS fun s10 => ?_
    refine e_L 1 (f' := (131, [(0, .ref r0), (1, .int v1), (2, .int v2), (3, .int v3), (4, .int v4), (5, .int v5), (6, .int v6)], [.ref r0])) rfl ?_
    refine e_gR (q := (r0 + 6)) 5 6 rfl rfl h_r0 (fo_5_6 h_r0) ?_
    refine e_L 1 (f' := (136, [(0, .ref r0), (1, .int v1), (2, .int v2), (3, .int v3), (4, .int v4), (5, .int v5), (6, .int v6)], [.int (14 : Int32), .ref (r0 + 6)])) rfl ?_
    refine e_aal (n := 18) (q := (r0 + 21)) rfl (fc_5_6 h_r0) (fl_5_6 h_r0) (by decide +kernel) (pe_14 h_r0) ?_
    refine e_L 2 (f' := (140, [(0, .ref r0), (1, .int v1), (2, .int v2), (3, .int v3), (4, .int v4), (5, .int v5), (6, .int v6)], [.int (-1 : Int32), .int v5, .ref (r0 + 21)])) rfl ?_
    refine e_ias (n := 100) (k := v5.toNatClampNeg) rfl (pe_c_14 h_r0) (pe_l_14 h_r0) h2 rfl ?_
    refine e_nS fun s11 => ?_
    refine e_L 1 (f' := (143, [(0, .ref r0), (1, .int v1), (2, .int v2), (3, .int v3), (4, .int v4), (5, .int v5), (6, .int v6)], [.int v5])) rfl ?_
    exact e_rI rfl rfl
  · refine e_L 1 (f' := (27, [(0, .ref r0), (1, .int v1), (2, .int v2), (3, .int v3), (4, .int v4), (5, .int v5), (6, .int v6)], [.ref r0])) rfl ?_
    refine e_gR (q := (r0 + 6)) 5 6 rfl rfl h_r0 (fo_5_6 h_r0) ?_
    refine e_L 1 (f' := (32, [(0, .ref r0), (1, .int v1), (2, .int v2), (3, .int v3), (4, .int v4), (5, .int v5), (6, .int v6)], [.int v6, .ref (r0 + 6)])) rfl ?_
    refine qle_gd fun h12 => ?_
    refine e_aal (n := 18) (q := (r0 + 7 + v6.toNatClampNeg)) rfl (fc_5_6 h_r0) (fl_5_6 h_r0) h12 (pes h_r0 _) ?_
    refine e_L 2 (f' := (36, [(0, .ref r0), (1, .int v1), (2, .int v2), (3, .int v3), (4, .int v4), (5, .int v5), (6, .int v6)], [.int (0 : Int32), .int v5, .ref (r0 + 7 + v6.toNatClampNeg)])) rfl ?_
    refine qle_gd fun h13 => ?_
    refine e_ias (n := 100) (k := v5.toNatClampNeg) rfl (pes_c h_r0 h12) (pes_l h_r0 h12) h13 rfl ?_
    refine e_nS fun s14 => ?_
    refine e_L 2 (f' := (19, [(6, .int (v6 + (1 : Int32))), (0, .ref r0), (1, .int v1), (2, .int v2), (3, .int v3), (4, .int v4), (5, .int v5)], [])) rfl ?_
    exact qE_sub (qsubL [1, 2, 3, 4, 5, 6, 0] rfl (ks := [6, 0, 1, 2, 3, 4, 5]) rfl (by decide))
set_option maxRecDepth 100000 in
set_option maxHeartbeats 4000000 in
theorem le_X5_addLine (en : pN) (d : Nat) (t : Nat) (a1 : Int32) (a2 : Int32) (a3 : Int32) (a4 : Int32) (s : qS) : qle (gd (lc t = 5) (nm (uI s t 12 ((s.1 t 12) + (1 : Int32))) (fun s1 => L_X5_addLine_19 en d t a1 a2 a3 a4 (s.1 t 12) (0 : Int32) s1))) (qev en (d + 1) 99 [.ref t, .int a1, .int a2, .int a3, .int a4] s) := by
  refine e_enter ix_X5_addLine (Nat.le_of_ble_eq_true rfl) ?_
  show qle _ (qE (qev en d) en (some .int) tb_X5_addLine (0, [(0, .ref t), (1, .int a1), (2, .int a2), (3, .int a3), (4, .int a4)], []) s)
  refine qle_gd fun ht => ?_
  refine e_L 1 (f' := (1, [(0, .ref t), (1, .int a1), (2, .int a2), (3, .int a3), (4, .int a4)], [.ref t])) rfl ?_
  refine e_gI 5 12 rfl rfl ht ?_
  refine e_L 3 (f' := (8, [(5, .int (s.1 t 12)), (0, .ref t), (1, .int a1), (2, .int a2), (3, .int a3), (4, .int a4)], [.ref t, .ref t])) rfl ?_
  refine e_gI 5 12 rfl rfl ht ?_
  refine e_L 2 (f' := (13, [(5, .int (s.1 t 12)), (0, .ref t), (1, .int a1), (2, .int a2), (3, .int a3), (4, .int a4)], [.int ((s.1 t 12) + (1 : Int32)), .ref t])) rfl ?_
  refine e_pI 5 12 rfl rfl ht rfl ?_
  refine e_nS fun s1 => ?_
  refine e_L 2 (f' := (19, [(6, .int (0 : Int32)), (5, .int (s.1 t 12)), (0, .ref t), (1, .int a1), (2, .int a2), (3, .int a3), (4, .int a4)], [])) rfl ?_
  exact qE_sub (qsubL [2, 3, 4, 5, 6, 1, 0] rfl (ks := [6, 5, 0, 1, 2, 3, 4]) rfl (by decide))
noncomputable def L_X5_link_69 (en : pN) (d : Nat) (v2 : Int32) (v3 : Int32) (rs0 : Nat) (vs1 : Int32) (s : qS) : Option qR := qE (qev en d) en none tb_X5_link (69, [(2, .int v2), (3, .int v3)], [.int vs1, .ref (rs0 + 6)]) s
set_option maxRecDepth 100000 in
set_option maxHeartbeats 4000000 in
theorem le_X5_link_69 (en : pN) (d : Nat) (v2 : Int32) (v3 : Int32) (rs0 : Nat) (vs1 : Int32) (s : qS) : qle (gd (lc rs0 = 5) (gd (p_inB vs1 18 = true) (gd (p_inB v3 100 = true) (nm (uI s (rs0 + 7 + vs1.toNatClampNeg) (v3.toNatClampNeg) v2) (fun s3 => some (none, s3)))))) (L_X5_link_69 en d v2 v3 rs0 vs1 s) := by
  show qle _ (qE (qev en d) en none tb_X5_link (69, [(2, .int v2), (3, .int v3)], [.int vs1, .ref (rs0 + 6)]) s)
  refine qle_gd fun h_rs0 => ?_
  refine qle_gd fun h1 => ?_
  refine e_aal (n := 18) (q := (rs0 + 7 + vs1.toNatClampNeg)) rfl (fc_5_6 h_rs0) (fl_5_6 h_rs0) h1 (pes h_rs0 _) ?_
  refine e_L 2 (f' := (72, [(2, .int v2), (3, .int v3)], [.int v2, .int v3, .ref (rs0 + 7 + vs1.toNatClampNeg)])) rfl ?_
  refine qle_gd fun h2 => ?_
  refine e_ias (n := 100) (k := v3.toNatClampNeg) rfl (pes_c h_rs0 h1) (pes_l h_rs0 h1) h2 rfl ?_
  refine e_nS fun s3 => ?_
  exact e_rV rfl rfl
set_option maxRecDepth 100000 in
set_option maxHeartbeats 4000000 in
theorem le_X5_link (en : pN) (d : Nat) (t : Nat) (a1 : Int32) (a2 : Int32) (s : qS) : qle (gd (lc t = 5) (if a1 < (0 : Int32) then gd (p_inB a2 100 = true) (nm (s.1 (t + 18) a2.toNatClampNeg) (fun z3 => if (0 : Int32) ≤ z3 then if ¬ (s.1 (t + 19) a2.toNatClampNeg) = (0 : Int32) then L_X5_link_69 en d a2 z3 t (14 : Int32) s else L_X5_link_69 en d a2 z3 t (13 : Int32) s else gd (p_inB (s.1 (t + 8) a2.toNatClampNeg) 4 = true) (nm (uI s (t + 5) ((s.1 (t + 8) a2.toNatClampNeg).toNatClampNeg) a2) (fun s7 => some (none, s7))))) else gd (p_inB a1 100 = true) (nm (uI s (t + 17) (a1.toNatClampNeg) a2) (fun s9 => some (none, s9))))) (qev en (d + 1) 100 [.ref t, .int a1, .int a2] s) := by
  refine e_enter ix_X5_link (Nat.le_of_ble_eq_true rfl) ?_
  show qle _ (qE (qev en d) en none tb_X5_link (0, [(0, .ref t), (1, .int a1), (2, .int a2)], []) s)
  refine qle_gd fun ht => ?_
  refine e_L 1 (f' := (1, [(0, .ref t), (1, .int a1), (2, .int a2)], [.int a1])) rfl ?_
  refine e_ifz 15 rfl rfl rfl (fun c1 => ?_) (fun c1 => ?_)
  · refine e_L 1 (f' := (16, [(0, .ref t), (1, .int a1), (2, .int a2)], [.ref t])) rfl ?_
    refine e_gR (q := (t + 6)) 5 6 rfl rfl ht (fo_5_6 ht) ?_
    refine e_L 1 (f' := (21, [(0, .ref t), (1, .int a1), (2, .int a2)], [.int (11 : Int32), .ref (t + 6)])) rfl ?_
    refine e_aal (n := 18) (q := (t + 18)) rfl (fc_5_6 ht) (fl_5_6 ht) (by decide +kernel) (pe_11 ht) ?_
    refine e_L 1 (f' := (23, [(0, .ref t), (1, .int a1), (2, .int a2)], [.int a2, .ref (t + 18)])) rfl ?_
    refine qle_gd fun h2 => ?_
    refine e_ial (n := 100) (k := a2.toNatClampNeg) rfl (pe_c_11 ht) (pe_l_11 ht) h2 rfl ?_
    refine e_nI fun z3 => ?_
    refine e_L 2 (f' := (26, [(3, .int z3), (0, .ref t), (1, .int a1), (2, .int a2)], [.int z3])) rfl ?_
    refine e_ifz 46 rfl rfl rfl (fun c4 => ?_) (fun c4 => ?_)
    · refine e_L 1 (f' := (47, [(3, .int z3), (0, .ref t), (1, .int a1), (2, .int a2)], [.ref t])) rfl ?_
      refine e_gR (q := (t + 6)) 5 6 rfl rfl ht (fo_5_6 ht) ?_
      refine e_L 1 (f' := (51, [(3, .int z3), (0, .ref t), (1, .int a1), (2, .int a2)], [.ref t, .ref (t + 6)])) rfl ?_
      refine e_gR (q := (t + 6)) 5 6 rfl rfl ht (fo_5_6 ht) ?_
      refine e_L 1 (f' := (56, [(3, .int z3), (0, .ref t), (1, .int a1), (2, .int a2)], [.int (12 : Int32), .ref (t + 6), .ref (t + 6)])) rfl ?_
      refine e_aal (n := 18) (q := (t + 19)) rfl (fc_5_6 ht) (fl_5_6 ht) (by decide +kernel) (pe_12 ht) ?_
      refine e_L 1 (f' := (58, [(3, .int z3), (0, .ref t), (1, .int a1), (2, .int a2)], [.int a2, .ref (t + 19), .ref (t + 6)])) rfl ?_
      refine e_ial (n := 100) (k := a2.toNatClampNeg) rfl (pe_c_12 ht) (pe_l_12 ht) h2 rfl ?_
      refine e_ifz 67 rfl rfl rfl (fun c5 => ?_) (fun c5 => ?_)
      · refine e_L 1 (f' := (69, [(3, .int z3), (0, .ref t), (1, .int a1), (2, .int a2)], [.int (14 : Int32), .ref (t + 6)])) rfl ?_
        exact qE_sub (qsubL [3, 0] rfl (ks := [3, 0, 1, 2]) rfl (by decide))
      · refine e_L 2 (f' := (69, [(3, .int z3), (0, .ref t), (1, .int a1), (2, .int a2)], [.int (13 : Int32), .ref (t + 6)])) rfl ?_
        exact qE_sub (qsubL [3, 0] rfl (ks := [3, 0, 1, 2]) rfl (by decide))
    · refine e_L 1 (f' := (30, [(3, .int z3), (0, .ref t), (1, .int a1), (2, .int a2)], [.ref t])) rfl ?_
      refine e_gR (q := (t + 5)) 5 5 rfl rfl ht (fo_5_5 ht) ?_
      refine e_L 1 (f' := (34, [(3, .int z3), (0, .ref t), (1, .int a1), (2, .int a2)], [.ref t, .ref (t + 5)])) rfl ?_
      refine e_gR (q := (t + 6)) 5 6 rfl rfl ht (fo_5_6 ht) ?_
      refine e_L 1 (f' := (38, [(3, .int z3), (0, .ref t), (1, .int a1), (2, .int a2)], [.int (1 : Int32), .ref (t + 6), .ref (t + 5)])) rfl ?_
      refine e_aal (n := 18) (q := (t + 8)) rfl (fc_5_6 ht) (fl_5_6 ht) (by decide +kernel) (pe_1 ht) ?_
      refine e_L 1 (f' := (40, [(3, .int z3), (0, .ref t), (1, .int a1), (2, .int a2)], [.int a2, .ref (t + 8), .ref (t + 5)])) rfl ?_
      refine e_ial (n := 100) (k := a2.toNatClampNeg) rfl (pe_c_1 ht) (pe_l_1 ht) h2 rfl ?_
      refine e_L 1 (f' := (42, [(3, .int z3), (0, .ref t), (1, .int a1), (2, .int a2)], [.int a2, .int (s.1 (t + 8) a2.toNatClampNeg), .ref (t + 5)])) rfl ?_
      refine qle_gd fun h6 => ?_
      refine e_ias (n := 4) (k := (s.1 (t + 8) a2.toNatClampNeg).toNatClampNeg) rfl (fc_5_5 ht) (fl_5_5 ht) h6 rfl ?_
      refine e_nS fun s7 => ?_
      refine e_L 1 (f' := (73, [(3, .int z3), (0, .ref t), (1, .int a1), (2, .int a2)], [])) rfl ?_
      exact e_rV rfl rfl
  · refine e_L 1 (f' := (5, [(0, .ref t), (1, .int a1), (2, .int a2)], [.ref t])) rfl ?_
    refine e_gR (q := (t + 6)) 5 6 rfl rfl ht (fo_5_6 ht) ?_
    refine e_L 1 (f' := (10, [(0, .ref t), (1, .int a1), (2, .int a2)], [.int (10 : Int32), .ref (t + 6)])) rfl ?_
    refine e_aal (n := 18) (q := (t + 17)) rfl (fc_5_6 ht) (fl_5_6 ht) (by decide +kernel) (pe_10 ht) ?_
    refine e_L 2 (f' := (13, [(0, .ref t), (1, .int a1), (2, .int a2)], [.int a2, .int a1, .ref (t + 17)])) rfl ?_
    refine qle_gd fun h8 => ?_
    refine e_ias (n := 100) (k := a1.toNatClampNeg) rfl (pe_c_10 ht) (pe_l_10 ht) h8 rfl ?_
    refine e_nS fun s9 => ?_
    exact e_rV rfl rfl
noncomputable def L_X5_layWays_2 (en : pN) (d : Nat) (r0 : Nat) (v1 : Int32) (s : qS) : Option qR := qE (qev en d) en none tb_X5_layWays (2, [(0, .ref r0), (1, .int v1)], []) s
noncomputable def L_X5_layWays_34 (en : pN) (d : Nat) (r0 : Nat) (v1 : Int32) (v2 : Int32) (vs0 : Int32) (s : qS) : Option qR := qE (qev en d) en none tb_X5_layWays (34, [(0, .ref r0), (1, .int v1), (2, .int v2)], [.int vs0]) s
noncomputable def L_X5_layWays_76 (en : pN) (d : Nat) (r0 : Nat) (v1 : Int32) (v2 : Int32) (rs0 : Nat) (vs1 : Int32) (vs2 : Int32) (s : qS) : Option qR := qE (qev en d) en none tb_X5_layWays (76, [(0, .ref r0), (1, .int v1), (2, .int v2)], [.int vs2, .int vs1, .ref rs0]) s
noncomputable def L_X5_layWays_110 (en : pN) (d : Nat) (r0 : Nat) (v1 : Int32) (rs0 : Nat) (vs1 : Int32) (vs2 : Int32) (s : qS) : Option qR := qE (qev en d) en none tb_X5_layWays (110, [(0, .ref r0), (1, .int v1)], [.int vs2, .int vs1, .ref rs0]) s
set_option maxRecDepth 100000 in
set_option maxHeartbeats 4000000 in
theorem le_X5_layWays_2 (en : pN) (d : Nat) (r0 : Nat) (v1 : Int32) (s : qS) : qle (gd (lc r0 = 5) (if (s.1 r0 12) ≤ v1 then some (none, s) else bI (qev en d 102 [.ref r0, .int v1] s) (fun w2 s3 => gd (p_inB v1 100 = true) (if ¬ (s3.1 (r0 + 7) v1.toNatClampNeg) = (18 : Int32) then L_X5_layWays_34 en d r0 v1 w2 (0 : Int32) s3 else L_X5_layWays_34 en d r0 v1 w2 (1 : Int32) s3)))) (L_X5_layWays_2 en d r0 v1 s) := by
  show qle _ (qE (qev en d) en none tb_X5_layWays (2, [(0, .ref r0), (1, .int v1)], []) s)
  refine qle_gd fun h_r0 => ?_
  refine e_L 2 (f' := (4, [(0, .ref r0), (1, .int v1)], [.ref r0, .int v1])) rfl ?_
  refine e_gI 5 12 rfl rfl h_r0 ?_
  refine e_icmp 117 rfl rfl rfl (fun c1 => ?_) (fun c1 => ?_)
  · exact e_rV rfl rfl
  · refine e_L 2 (f' := (12, [(0, .ref r0), (1, .int v1)], [.int v1, .ref r0])) rfl ?_
    refine e_vI 102 rfl rfl ix_X5_behind rfl (q_recvOf h_r0 rfl) (Nat.le_of_ble_eq_true rfl) (fun w2 s3 e4 => ?_)
    refine e_L 2 (f' := (17, [(2, .int w2), (0, .ref r0), (1, .int v1)], [.ref r0])) rfl ?_
    refine e_gR (q := (r0 + 6)) 5 6 rfl rfl h_r0 (fo_5_6 h_r0) ?_
    refine e_L 1 (f' := (21, [(2, .int w2), (0, .ref r0), (1, .int v1)], [.int (0 : Int32), .ref (r0 + 6)])) rfl ?_
    refine e_aal (n := 18) (q := (r0 + 7)) rfl (fc_5_6 h_r0) (fl_5_6 h_r0) (by decide +kernel) (pe_0 h_r0) ?_
    refine e_L 1 (f' := (23, [(2, .int w2), (0, .ref r0), (1, .int v1)], [.int v1, .ref (r0 + 7)])) rfl ?_
    refine qle_gd fun h5 => ?_
    refine e_ial (n := 100) (k := v1.toNatClampNeg) rfl (pe_c_0 h_r0) (pe_l_0 h_r0) h5 rfl ?_
    refine e_L 1 (f' := (26, [(2, .int w2), (0, .ref r0), (1, .int v1)], [.int (18 : Int32), .int (s3.1 (r0 + 7) v1.toNatClampNeg)])) rfl ?_
    refine e_icmp 33 rfl rfl rfl (fun c6 => ?_) (fun c6 => ?_)
    · refine e_L 1 (f' := (34, [(2, .int w2), (0, .ref r0), (1, .int v1)], [.int (0 : Int32)])) rfl ?_
      exact qE_sub (qsubL [1, 2, 0] rfl (ks := [2, 0, 1]) rfl (by decide))
    · refine e_L 2 (f' := (34, [(2, .int w2), (0, .ref r0), (1, .int v1)], [.int (1 : Int32)])) rfl ?_
      exact qE_sub (qsubL [1, 2, 0] rfl (ks := [2, 0, 1]) rfl (by decide))
set_option maxRecDepth 100000 in
set_option maxHeartbeats 4000000 in
theorem le_X5_layWays_34 (en : pN) (d : Nat) (r0 : Nat) (v1 : Int32) (v2 : Int32) (vs0 : Int32) (s : qS) : qle (gd (lc r0 = 5) (gd (p_inB v1 100 = true) (if (s.1 (r0 + 20) v1.toNatClampNeg) < (0 : Int32) then if vs0 = (0 : Int32) then L_X5_layWays_76 en d r0 v1 v2 (r0 + 22) v1 v2 s else L_X5_layWays_76 en d r0 v1 v2 (r0 + 22) v1 v1 s else L_X5_layWays_76 en d r0 v1 v2 (r0 + 22) v1 (s.1 (r0 + 20) v1.toNatClampNeg) s))) (L_X5_layWays_34 en d r0 v1 v2 vs0 s) := by
  show qle _ (qE (qev en d) en none tb_X5_layWays (34, [(0, .ref r0), (1, .int v1), (2, .int v2)], [.int vs0]) s)
  refine qle_gd fun h_r0 => ?_
  refine e_L 2 (f' := (36, [(3, .int vs0), (0, .ref r0), (1, .int v1), (2, .int v2)], [.ref r0])) rfl ?_
  refine e_gR (q := (r0 + 6)) 5 6 rfl rfl h_r0 (fo_5_6 h_r0) ?_
  refine e_L 1 (f' := (41, [(3, .int vs0), (0, .ref r0), (1, .int v1), (2, .int v2)], [.int (15 : Int32), .ref (r0 + 6)])) rfl ?_
  refine e_aal (n := 18) (q := (r0 + 22)) rfl (fc_5_6 h_r0) (fl_5_6 h_r0) (by decide +kernel) (pe_15 h_r0) ?_
  refine e_L 2 (f' := (44, [(3, .int vs0), (0, .ref r0), (1, .int v1), (2, .int v2)], [.ref r0, .int v1, .ref (r0 + 22)])) rfl ?_
  refine e_gR (q := (r0 + 6)) 5 6 rfl rfl h_r0 (fo_5_6 h_r0) ?_
  refine e_L 1 (f' := (49, [(3, .int vs0), (0, .ref r0), (1, .int v1), (2, .int v2)], [.int (13 : Int32), .ref (r0 + 6), .int v1, .ref (r0 + 22)])) rfl ?_
  refine e_aal (n := 18) (q := (r0 + 20)) rfl (fc_5_6 h_r0) (fl_5_6 h_r0) (by decide +kernel) (pe_13 h_r0) ?_
  refine e_L 1 (f' := (51, [(3, .int vs0), (0, .ref r0), (1, .int v1), (2, .int v2)], [.int v1, .ref (r0 + 20), .int v1, .ref (r0 + 22)])) rfl ?_
  refine qle_gd fun h1 => ?_
  refine e_ial (n := 100) (k := v1.toNatClampNeg) rfl (pe_c_13 h_r0) (pe_l_13 h_r0) h1 rfl ?_
  refine e_ifz 67 rfl rfl rfl (fun c2 => ?_) (fun c2 => ?_)
  · refine e_L 1 (f' := (68, [(3, .int vs0), (0, .ref r0), (1, .int v1), (2, .int v2)], [.int vs0, .int v1, .ref (r0 + 22)])) rfl ?_
    refine e_ifz 75 rfl rfl rfl (fun c3 => ?_) (fun c3 => ?_)
    · refine e_L 1 (f' := (76, [(3, .int vs0), (0, .ref r0), (1, .int v1), (2, .int v2)], [.int v2, .int v1, .ref (r0 + 22)])) rfl ?_
      exact qE_sub (qsubL [1, 2, 3] rfl (ks := [3, 0, 1, 2]) rfl (by decide))
    · refine e_L 2 (f' := (76, [(3, .int vs0), (0, .ref r0), (1, .int v1), (2, .int v2)], [.int v1, .int v1, .ref (r0 + 22)])) rfl ?_
      exact qE_sub (qsubL [1, 2, 3] rfl (ks := [3, 0, 1, 2]) rfl (by decide))
  · refine e_L 1 (f' := (56, [(3, .int vs0), (0, .ref r0), (1, .int v1), (2, .int v2)], [.ref r0, .int v1, .ref (r0 + 22)])) rfl ?_
    refine e_gR (q := (r0 + 6)) 5 6 rfl rfl h_r0 (fo_5_6 h_r0) ?_
    refine e_L 1 (f' := (61, [(3, .int vs0), (0, .ref r0), (1, .int v1), (2, .int v2)], [.int (13 : Int32), .ref (r0 + 6), .int v1, .ref (r0 + 22)])) rfl ?_
    refine e_aal (n := 18) (q := (r0 + 20)) rfl (fc_5_6 h_r0) (fl_5_6 h_r0) (by decide +kernel) (pe_13 h_r0) ?_
    refine e_L 1 (f' := (63, [(3, .int vs0), (0, .ref r0), (1, .int v1), (2, .int v2)], [.int v1, .ref (r0 + 20), .int v1, .ref (r0 + 22)])) rfl ?_
    refine e_ial (n := 100) (k := v1.toNatClampNeg) rfl (pe_c_13 h_r0) (pe_l_13 h_r0) h1 rfl ?_
    refine e_L 1 (f' := (76, [(3, .int vs0), (0, .ref r0), (1, .int v1), (2, .int v2)], [.int (s.1 (r0 + 20) v1.toNatClampNeg), .int v1, .ref (r0 + 22)])) rfl ?_
    exact qE_sub (qsubL [1, 2, 3] rfl (ks := [3, 0, 1, 2]) rfl (by decide))
set_option maxRecDepth 100000 in
set_option maxHeartbeats 4000000 in
theorem le_X5_layWays_76 (en : pN) (d : Nat) (r0 : Nat) (v1 : Int32) (v2 : Int32) (rs0 : Nat) (vs1 : Int32) (vs2 : Int32) (s : qS) : qle (gd (lc r0 = 5) (gd (lc rs0 = 20) (gd (p_inB vs1 (ln rs0) = true) (nm (uI s rs0 (vs1.toNatClampNeg) vs2) (fun s2 => gd (p_inB v1 100 = true) (if (s2.1 (r0 + 21) v1.toNatClampNeg) < (0 : Int32) then L_X5_layWays_110 en d r0 v1 (r0 + 23) v1 v2 s2 else L_X5_layWays_110 en d r0 v1 (r0 + 23) v1 (s2.1 (r0 + 21) v1.toNatClampNeg) s2)))))) (L_X5_layWays_76 en d r0 v1 v2 rs0 vs1 vs2 s) := by
  show qle _ (qE (qev en d) en none tb_X5_layWays (76, [(0, .ref r0), (1, .int v1), (2, .int v2)], [.int vs2, .int vs1, .ref rs0]) s)
  refine qle_gd fun h_r0 => ?_
  refine qle_gd fun h_rs0 => ?_
  refine qle_gd fun h1 => ?_
  refine e_ias (n := (ln rs0)) (k := vs1.toNatClampNeg) rfl h_rs0 rfl h1 rfl ?_
  refine e_nS fun s2 => ?_
  refine e_L 1 (f' := (78, [(0, .ref r0), (1, .int v1), (2, .int v2)], [.ref r0])) rfl ?_
  refine e_gR (q := (r0 + 6)) 5 6 rfl rfl h_r0 (fo_5_6 h_r0) ?_
  refine e_L 1 (f' := (83, [(0, .ref r0), (1, .int v1), (2, .int v2)], [.int (16 : Int32), .ref (r0 + 6)])) rfl ?_
  refine e_aal (n := 18) (q := (r0 + 23)) rfl (fc_5_6 h_r0) (fl_5_6 h_r0) (by decide +kernel) (pe_16 h_r0) ?_
  refine e_L 2 (f' := (86, [(0, .ref r0), (1, .int v1), (2, .int v2)], [.ref r0, .int v1, .ref (r0 + 23)])) rfl ?_
  refine e_gR (q := (r0 + 6)) 5 6 rfl rfl h_r0 (fo_5_6 h_r0) ?_
  refine e_L 1 (f' := (91, [(0, .ref r0), (1, .int v1), (2, .int v2)], [.int (14 : Int32), .ref (r0 + 6), .int v1, .ref (r0 + 23)])) rfl ?_
  refine e_aal (n := 18) (q := (r0 + 21)) rfl (fc_5_6 h_r0) (fl_5_6 h_r0) (by decide +kernel) (pe_14 h_r0) ?_
  refine e_L 1 (f' := (93, [(0, .ref r0), (1, .int v1), (2, .int v2)], [.int v1, .ref (r0 + 21), .int v1, .ref (r0 + 23)])) rfl ?_
  refine qle_gd fun h3 => ?_
  refine e_ial (n := 100) (k := v1.toNatClampNeg) rfl (pe_c_14 h_r0) (pe_l_14 h_r0) h3 rfl ?_
  refine e_ifz 109 rfl rfl rfl (fun c4 => ?_) (fun c4 => ?_)
  · refine e_L 1 (f' := (110, [(0, .ref r0), (1, .int v1), (2, .int v2)], [.int v2, .int v1, .ref (r0 + 23)])) rfl ?_
    exact qE_sub (qsubL [0, 1] rfl (ks := [0, 1, 2]) rfl (by decide))
  · refine e_L 1 (f' := (98, [(0, .ref r0), (1, .int v1), (2, .int v2)], [.ref r0, .int v1, .ref (r0 + 23)])) rfl ?_
    refine e_gR (q := (r0 + 6)) 5 6 rfl rfl h_r0 (fo_5_6 h_r0) ?_
    refine e_L 1 (f' := (103, [(0, .ref r0), (1, .int v1), (2, .int v2)], [.int (14 : Int32), .ref (r0 + 6), .int v1, .ref (r0 + 23)])) rfl ?_
    refine e_aal (n := 18) (q := (r0 + 21)) rfl (fc_5_6 h_r0) (fl_5_6 h_r0) (by decide +kernel) (pe_14 h_r0) ?_
    refine e_L 1 (f' := (105, [(0, .ref r0), (1, .int v1), (2, .int v2)], [.int v1, .ref (r0 + 21), .int v1, .ref (r0 + 23)])) rfl ?_
    refine e_ial (n := 100) (k := v1.toNatClampNeg) rfl (pe_c_14 h_r0) (pe_l_14 h_r0) h3 rfl ?_
    refine e_L 1 (f' := (110, [(0, .ref r0), (1, .int v1), (2, .int v2)], [.int (s2.1 (r0 + 21) v1.toNatClampNeg), .int v1, .ref (r0 + 23)])) rfl ?_
    exact qE_sub (qsubL [0, 1] rfl (ks := [0, 1, 2]) rfl (by decide))
set_option maxRecDepth 100000 in
set_option maxHeartbeats 4000000 in
theorem le_X5_layWays_110 (en : pN) (d : Nat) (r0 : Nat) (v1 : Int32) (rs0 : Nat) (vs1 : Int32) (vs2 : Int32) (s : qS) : qle (gd (lc r0 = 5) (gd (lc rs0 = 20) (gd (p_inB vs1 (ln rs0) = true) (nm (uI s rs0 (vs1.toNatClampNeg) vs2) (fun s2 => L_X5_layWays_2 en d r0 (v1 + (1 : Int32)) s2))))) (L_X5_layWays_110 en d r0 v1 rs0 vs1 vs2 s) := by
  show qle _ (qE (qev en d) en none tb_X5_layWays (110, [(0, .ref r0), (1, .int v1)], [.int vs2, .int vs1, .ref rs0]) s)
  refine qle_gd fun h_r0 => ?_
  refine qle_gd fun h_rs0 => ?_
  refine qle_gd fun h1 => ?_
  refine e_ias (n := (ln rs0)) (k := vs1.toNatClampNeg) rfl h_rs0 rfl h1 rfl ?_
  refine e_nS fun s2 => ?_
  refine e_L 2 (f' := (2, [(1, .int (v1 + (1 : Int32))), (0, .ref r0)], [])) rfl ?_
  exact qE_sub (qsubL [1, 0] rfl (ks := [1, 0]) rfl (by decide))
set_option maxRecDepth 100000 in
set_option maxHeartbeats 4000000 in
theorem le_X5_layWays (en : pN) (d : Nat) (t : Nat) (s : qS) : qle (gd (lc t = 5) (L_X5_layWays_2 en d t (0 : Int32) s)) (qev en (d + 1) 101 [.ref t] s) := by
  refine e_enter ix_X5_layWays (Nat.le_of_ble_eq_true rfl) ?_
  show qle _ (qE (qev en d) en none tb_X5_layWays (0, [(0, .ref t)], []) s)
  refine qle_gd fun ht => ?_
  refine e_L 2 (f' := (2, [(1, .int (0 : Int32)), (0, .ref t)], [])) rfl ?_
  exact qE_sub (qsubL [1, 0] rfl (ks := [1, 0]) rfl (by decide))
noncomputable def L_X5_behind_4 (en : pN) (d : Nat) (r0 : Nat) (v2 : Int32) (v3 : Int32) (s : qS) : Option qR := qE (qev en d) en (some .int) tb_X5_behind (4, [(0, .ref r0), (2, .int v2), (3, .int v3)], []) s
set_option maxRecDepth 100000 in
set_option maxHeartbeats 4000000 in
theorem le_X5_behind_4 (en : pN) (d : Nat) (r0 : Nat) (v2 : Int32) (v3 : Int32) (s : qS) : qle (gd (lc r0 = 5) (if (100 : Int32) ≤ v3 then some (some (.int (-1 : Int32)), s) else gd (p_inB v2 100 = true) (if (s.1 (r0 + 17) v2.toNatClampNeg) < (0 : Int32) then nm (s.1 (r0 + 18) v2.toNatClampNeg) (fun z4 => if z4 < (0 : Int32) then some (some (.int z4), s) else gd (p_inB z4 100 = true) (if ¬ (s.1 (r0 + 7) z4.toNatClampNeg) = (18 : Int32) then L_X5_behind_4 en d r0 z4 (v3 + (1 : Int32)) s else some (some (.int z4), s))) else some (some (.int (s.1 (r0 + 17) v2.toNatClampNeg)), s)))) (L_X5_behind_4 en d r0 v2 v3 s) := by
  show qle _ (qE (qev en d) en (some .int) tb_X5_behind (4, [(0, .ref r0), (2, .int v2), (3, .int v3)], []) s)
  refine qle_gd fun h_r0 => ?_
  refine e_L 2 (f' := (7, [(0, .ref r0), (2, .int v2), (3, .int v3)], [.int (100 : Int32), .int v3])) rfl ?_
  refine e_icmp 67 rfl rfl rfl (fun c1 => ?_) (fun c1 => ?_)
  · refine e_L 1 (f' := (68, [(0, .ref r0), (2, .int v2), (3, .int v3)], [.int (-1 : Int32)])) rfl ?_
    exact e_rI rfl rfl
  · refine e_L 1 (f' := (11, [(0, .ref r0), (2, .int v2), (3, .int v3)], [.ref r0])) rfl ?_
    refine e_gR (q := (r0 + 6)) 5 6 rfl rfl h_r0 (fo_5_6 h_r0) ?_
    refine e_L 1 (f' := (16, [(0, .ref r0), (2, .int v2), (3, .int v3)], [.int (10 : Int32), .ref (r0 + 6)])) rfl ?_
    refine e_aal (n := 18) (q := (r0 + 17)) rfl (fc_5_6 h_r0) (fl_5_6 h_r0) (by decide +kernel) (pe_10 h_r0) ?_
    refine e_L 1 (f' := (18, [(0, .ref r0), (2, .int v2), (3, .int v3)], [.int v2, .ref (r0 + 17)])) rfl ?_
    refine qle_gd fun h2 => ?_
    refine e_ial (n := 100) (k := v2.toNatClampNeg) rfl (pe_c_10 h_r0) (pe_l_10 h_r0) h2 rfl ?_
    refine e_ifz 32 rfl rfl rfl (fun c3 => ?_) (fun c3 => ?_)
    · refine e_L 1 (f' := (33, [(0, .ref r0), (2, .int v2), (3, .int v3)], [.ref r0])) rfl ?_
      refine e_gR (q := (r0 + 6)) 5 6 rfl rfl h_r0 (fo_5_6 h_r0) ?_
      refine e_L 1 (f' := (38, [(0, .ref r0), (2, .int v2), (3, .int v3)], [.int (11 : Int32), .ref (r0 + 6)])) rfl ?_
      refine e_aal (n := 18) (q := (r0 + 18)) rfl (fc_5_6 h_r0) (fl_5_6 h_r0) (by decide +kernel) (pe_11 h_r0) ?_
      refine e_L 1 (f' := (40, [(0, .ref r0), (2, .int v2), (3, .int v3)], [.int v2, .ref (r0 + 18)])) rfl ?_
      refine e_ial (n := 100) (k := v2.toNatClampNeg) rfl (pe_c_11 h_r0) (pe_l_11 h_r0) h2 rfl ?_
      refine e_nI fun z4 => ?_
      refine e_L 2 (f' := (43, [(2, .int z4), (0, .ref r0), (3, .int v3)], [.int z4])) rfl ?_
      refine e_ifz 59 rfl rfl rfl (fun c5 => ?_) (fun c5 => ?_)
      · refine e_L 1 (f' := (60, [(2, .int z4), (0, .ref r0), (3, .int v3)], [.int z4])) rfl ?_
        exact e_rI rfl rfl
      · refine e_L 1 (f' := (47, [(2, .int z4), (0, .ref r0), (3, .int v3)], [.ref r0])) rfl ?_
        refine e_gR (q := (r0 + 6)) 5 6 rfl rfl h_r0 (fo_5_6 h_r0) ?_
        refine e_L 1 (f' := (51, [(2, .int z4), (0, .ref r0), (3, .int v3)], [.int (0 : Int32), .ref (r0 + 6)])) rfl ?_
        refine e_aal (n := 18) (q := (r0 + 7)) rfl (fc_5_6 h_r0) (fl_5_6 h_r0) (by decide +kernel) (pe_0 h_r0) ?_
        refine e_L 1 (f' := (53, [(2, .int z4), (0, .ref r0), (3, .int v3)], [.int z4, .ref (r0 + 7)])) rfl ?_
        refine qle_gd fun h6 => ?_
        refine e_ial (n := 100) (k := z4.toNatClampNeg) rfl (pe_c_0 h_r0) (pe_l_0 h_r0) h6 rfl ?_
        refine e_L 1 (f' := (56, [(2, .int z4), (0, .ref r0), (3, .int v3)], [.int (18 : Int32), .int (s.1 (r0 + 7) z4.toNatClampNeg)])) rfl ?_
        refine e_icmp 61 rfl rfl rfl (fun c7 => ?_) (fun c7 => ?_)
        · refine e_L 2 (f' := (4, [(3, .int (v3 + (1 : Int32))), (2, .int z4), (0, .ref r0)], [])) rfl ?_
          exact qE_sub (qsubL [2, 1, 0] rfl (ks := [3, 2, 0]) rfl (by decide))
        · refine e_L 1 (f' := (60, [(2, .int z4), (0, .ref r0), (3, .int v3)], [.int z4])) rfl ?_
          exact e_rI rfl rfl
    · refine e_L 1 (f' := (23, [(0, .ref r0), (2, .int v2), (3, .int v3)], [.ref r0])) rfl ?_
      refine e_gR (q := (r0 + 6)) 5 6 rfl rfl h_r0 (fo_5_6 h_r0) ?_
      refine e_L 1 (f' := (28, [(0, .ref r0), (2, .int v2), (3, .int v3)], [.int (10 : Int32), .ref (r0 + 6)])) rfl ?_
      refine e_aal (n := 18) (q := (r0 + 17)) rfl (fc_5_6 h_r0) (fl_5_6 h_r0) (by decide +kernel) (pe_10 h_r0) ?_
      refine e_L 1 (f' := (30, [(0, .ref r0), (2, .int v2), (3, .int v3)], [.int v2, .ref (r0 + 17)])) rfl ?_
      refine e_ial (n := 100) (k := v2.toNatClampNeg) rfl (pe_c_10 h_r0) (pe_l_10 h_r0) h2 rfl ?_
      exact e_rI rfl rfl
set_option maxRecDepth 100000 in
set_option maxHeartbeats 4000000 in
theorem le_X5_behind (en : pN) (d : Nat) (t : Nat) (a1 : Int32) (s : qS) : qle (gd (lc t = 5) (L_X5_behind_4 en d t a1 (0 : Int32) s)) (qev en (d + 1) 102 [.ref t, .int a1] s) := by
  refine e_enter ix_X5_behind (Nat.le_of_ble_eq_true rfl) ?_
  show qle _ (qE (qev en d) en (some .int) tb_X5_behind (0, [(0, .ref t), (1, .int a1)], []) s)
  refine qle_gd fun ht => ?_
  refine e_L 4 (f' := (4, [(3, .int (0 : Int32)), (2, .int a1), (0, .ref t), (1, .int a1)], [])) rfl ?_
  exact qE_sub (qsubL [2, 1, 0] rfl (ks := [3, 2, 0, 1]) rfl (by decide))
set_option maxRecDepth 100000 in
set_option maxHeartbeats 4000000 in
theorem le_X5_touches (en : pN) (d : Nat) (t : Nat) (a1 : Int32) (s : qS) : qle (gd (lc t = 5) (gd (p_inB a1 100 = true) (if (s.1 (t + 7) a1.toNatClampNeg) < (1 : Int32) then some (some (.int (0 : Int32)), s) else if (4 : Int32) < (s.1 (t + 7) a1.toNatClampNeg) then some (some (.int (0 : Int32)), s) else some (some (.int (1 : Int32)), s)))) (qev en (d + 1) 103 [.ref t, .int a1] s) := by
  refine e_enter ix_X5_touches (Nat.le_of_ble_eq_true rfl) ?_
  show qle _ (qE (qev en d) en (some .boolean) tb_X5_touches (0, [(0, .ref t), (1, .int a1)], []) s)
  refine qle_gd fun ht => ?_
  refine e_L 1 (f' := (1, [(0, .ref t), (1, .int a1)], [.ref t])) rfl ?_
  refine e_gR (q := (t + 6)) 5 6 rfl rfl ht (fo_5_6 ht) ?_
  refine e_L 1 (f' := (5, [(0, .ref t), (1, .int a1)], [.int (0 : Int32), .ref (t + 6)])) rfl ?_
  refine e_aal (n := 18) (q := (t + 7)) rfl (fc_5_6 ht) (fl_5_6 ht) (by decide +kernel) (pe_0 ht) ?_
  refine e_L 1 (f' := (7, [(0, .ref t), (1, .int a1)], [.int a1, .ref (t + 7)])) rfl ?_
  refine qle_gd fun h1 => ?_
  refine e_ial (n := 100) (k := a1.toNatClampNeg) rfl (pe_c_0 ht) (pe_l_0 ht) h1 rfl ?_
  refine e_L 1 (f' := (9, [(0, .ref t), (1, .int a1)], [.int (1 : Int32), .int (s.1 (t + 7) a1.toNatClampNeg)])) rfl ?_
  refine e_icmp 28 rfl rfl rfl (fun c2 => ?_) (fun c2 => ?_)
  · refine e_L 1 (f' := (29, [(0, .ref t), (1, .int a1)], [.int (0 : Int32)])) rfl ?_
    exact e_rZ rfl rfl (by decide)
  · refine e_L 1 (f' := (13, [(0, .ref t), (1, .int a1)], [.ref t])) rfl ?_
    refine e_gR (q := (t + 6)) 5 6 rfl rfl ht (fo_5_6 ht) ?_
    refine e_L 1 (f' := (17, [(0, .ref t), (1, .int a1)], [.int (0 : Int32), .ref (t + 6)])) rfl ?_
    refine e_aal (n := 18) (q := (t + 7)) rfl (fc_5_6 ht) (fl_5_6 ht) (by decide +kernel) (pe_0 ht) ?_
    refine e_L 1 (f' := (19, [(0, .ref t), (1, .int a1)], [.int a1, .ref (t + 7)])) rfl ?_
    refine e_ial (n := 100) (k := a1.toNatClampNeg) rfl (pe_c_0 ht) (pe_l_0 ht) h1 rfl ?_
    refine e_L 1 (f' := (21, [(0, .ref t), (1, .int a1)], [.int (4 : Int32), .int (s.1 (t + 7) a1.toNatClampNeg)])) rfl ?_
    refine e_icmp 28 rfl rfl rfl (fun c3 => ?_) (fun c3 => ?_)
    · refine e_L 1 (f' := (29, [(0, .ref t), (1, .int a1)], [.int (0 : Int32)])) rfl ?_
      exact e_rZ rfl rfl (by decide)
    · refine e_L 2 (f' := (29, [(0, .ref t), (1, .int a1)], [.int (1 : Int32)])) rfl ?_
      exact e_rZ rfl rfl (by decide)
noncomputable def L_X5_clash_76 (en : pN) (d : Nat) (v4 : Int32) (vs0 : Int32) (s : qS) : Option qR := qE (qev en d) en (some .boolean) tb_X5_clash (76, [(4, .int v4)], [.int vs0]) s
noncomputable def L_X5_clash_87 (en : pN) (d : Nat) (vs0 : Int32) (vs1 : Int32) (s : qS) : Option qR := qE (qev en d) en (some .boolean) tb_X5_clash (87, [], [.int vs1, .int vs0]) s
set_option maxRecDepth 100000 in
set_option maxHeartbeats 4000000 in
theorem le_X5_clash_76 (en : pN) (d : Nat) (v4 : Int32) (vs0 : Int32) (s : qS) : qle (if ¬ v4 = (1 : Int32) then L_X5_clash_87 en d vs0 (0 : Int32) s else L_X5_clash_87 en d vs0 (1 : Int32) s) (L_X5_clash_76 en d v4 vs0 s) := by
  show qle _ (qE (qev en d) en (some .boolean) tb_X5_clash (76, [(4, .int v4)], [.int vs0]) s)
  refine e_L 2 (f' := (79, [(4, .int v4)], [.int (1 : Int32), .int v4, .int vs0])) rfl ?_
  refine e_icmp 86 rfl rfl rfl (fun c1 => ?_) (fun c1 => ?_)
  · refine e_L 1 (f' := (87, [(4, .int v4)], [.int (0 : Int32), .int vs0])) rfl ?_
    exact qE_sub (qsubL [] rfl (ks := [4]) rfl (by decide))
  · refine e_L 2 (f' := (87, [(4, .int v4)], [.int (1 : Int32), .int vs0])) rfl ?_
    exact qE_sub (qsubL [] rfl (ks := [4]) rfl (by decide))
set_option maxRecDepth 100000 in
set_option maxHeartbeats 4000000 in
theorem le_X5_clash_87 (en : pN) (d : Nat) (vs0 : Int32) (vs1 : Int32) (s : qS) : qle (if vs0 = vs1 then some (some (.int (0 : Int32)), s) else some (some (.int (1 : Int32)), s)) (L_X5_clash_87 en d vs0 vs1 s) := by
  show qle _ (qE (qev en d) en (some .boolean) tb_X5_clash (87, [], [.int vs1, .int vs0]) s)
  refine e_icmp 94 rfl rfl rfl (fun c1 => ?_) (fun c1 => ?_)
  · refine e_L 1 (f' := (95, [], [.int (0 : Int32)])) rfl ?_
    exact e_rZ rfl rfl (by decide)
  · refine e_L 2 (f' := (95, [], [.int (1 : Int32)])) rfl ?_
    exact e_rZ rfl rfl (by decide)
set_option maxRecDepth 100000 in
set_option maxHeartbeats 4000000 in
theorem le_X5_clash (en : pN) (d : Nat) (t : Nat) (a1 : Int32) (a2 : Int32) (s : qS) : qle (gd (lc t = 5) (gd (p_inB a1 100 = true) (nm (s.1 (t + 7) a1.toNatClampNeg) (fun z2 => gd (p_inB a2 100 = true) (nm (s.1 (t + 7) a2.toNatClampNeg) (fun z4 => if ¬ (s.1 (t + 9) a1.toNatClampNeg) = (s.1 (t + 9) a2.toNatClampNeg) then some (some (.int (0 : Int32)), s) else bI (qev en d 94 [.ref t, .int (s.1 (t + 9) a1.toNatClampNeg)] s) (fun w6 s7 => if w6 = (0 : Int32) then if z2 = (2 : Int32) then some (some (.int (1 : Int32)), s7) else if z4 = (2 : Int32) then some (some (.int (1 : Int32)), s7) else if ¬ z2 = (1 : Int32) then L_X5_clash_76 en d z4 (0 : Int32) s7 else L_X5_clash_76 en d z4 (1 : Int32) s7 else some (some (.int (0 : Int32)), s7)))))))) (qev en (d + 1) 104 [.ref t, .int a1, .int a2] s) := by
  refine e_enter ix_X5_clash (Nat.le_of_ble_eq_true rfl) ?_
  show qle _ (qE (qev en d) en (some .boolean) tb_X5_clash (0, [(0, .ref t), (1, .int a1), (2, .int a2)], []) s)
  refine qle_gd fun ht => ?_
  refine e_L 1 (f' := (1, [(0, .ref t), (1, .int a1), (2, .int a2)], [.ref t])) rfl ?_
  refine e_gR (q := (t + 6)) 5 6 rfl rfl ht (fo_5_6 ht) ?_
  refine e_L 1 (f' := (5, [(0, .ref t), (1, .int a1), (2, .int a2)], [.int (0 : Int32), .ref (t + 6)])) rfl ?_
  refine e_aal (n := 18) (q := (t + 7)) rfl (fc_5_6 ht) (fl_5_6 ht) (by decide +kernel) (pe_0 ht) ?_
  refine e_L 1 (f' := (7, [(0, .ref t), (1, .int a1), (2, .int a2)], [.int a1, .ref (t + 7)])) rfl ?_
  refine qle_gd fun h1 => ?_
  refine e_ial (n := 100) (k := a1.toNatClampNeg) rfl (pe_c_0 ht) (pe_l_0 ht) h1 rfl ?_
  refine e_nI fun z2 => ?_
  refine e_L 2 (f' := (10, [(3, .int z2), (0, .ref t), (1, .int a1), (2, .int a2)], [.ref t])) rfl ?_
  refine e_gR (q := (t + 6)) 5 6 rfl rfl ht (fo_5_6 ht) ?_
  refine e_L 1 (f' := (14, [(3, .int z2), (0, .ref t), (1, .int a1), (2, .int a2)], [.int (0 : Int32), .ref (t + 6)])) rfl ?_
  refine e_aal (n := 18) (q := (t + 7)) rfl (fc_5_6 ht) (fl_5_6 ht) (by decide +kernel) (pe_0 ht) ?_
  refine e_L 1 (f' := (16, [(3, .int z2), (0, .ref t), (1, .int a1), (2, .int a2)], [.int a2, .ref (t + 7)])) rfl ?_
  refine qle_gd fun h3 => ?_
  refine e_ial (n := 100) (k := a2.toNatClampNeg) rfl (pe_c_0 ht) (pe_l_0 ht) h3 rfl ?_
  refine e_nI fun z4 => ?_
  refine e_L 2 (f' := (20, [(4, .int z4), (3, .int z2), (0, .ref t), (1, .int a1), (2, .int a2)], [.ref t])) rfl ?_
  refine e_gR (q := (t + 6)) 5 6 rfl rfl ht (fo_5_6 ht) ?_
  refine e_L 1 (f' := (24, [(4, .int z4), (3, .int z2), (0, .ref t), (1, .int a1), (2, .int a2)], [.int (2 : Int32), .ref (t + 6)])) rfl ?_
  refine e_aal (n := 18) (q := (t + 9)) rfl (fc_5_6 ht) (fl_5_6 ht) (by decide +kernel) (pe_2 ht) ?_
  refine e_L 1 (f' := (26, [(4, .int z4), (3, .int z2), (0, .ref t), (1, .int a1), (2, .int a2)], [.int a1, .ref (t + 9)])) rfl ?_
  refine e_ial (n := 100) (k := a1.toNatClampNeg) rfl (pe_c_2 ht) (pe_l_2 ht) h1 rfl ?_
  refine e_L 1 (f' := (28, [(4, .int z4), (3, .int z2), (0, .ref t), (1, .int a1), (2, .int a2)], [.ref t, .int (s.1 (t + 9) a1.toNatClampNeg)])) rfl ?_
  refine e_gR (q := (t + 6)) 5 6 rfl rfl ht (fo_5_6 ht) ?_
  refine e_L 1 (f' := (32, [(4, .int z4), (3, .int z2), (0, .ref t), (1, .int a1), (2, .int a2)], [.int (2 : Int32), .ref (t + 6), .int (s.1 (t + 9) a1.toNatClampNeg)])) rfl ?_
  refine e_aal (n := 18) (q := (t + 9)) rfl (fc_5_6 ht) (fl_5_6 ht) (by decide +kernel) (pe_2 ht) ?_
  refine e_L 1 (f' := (34, [(4, .int z4), (3, .int z2), (0, .ref t), (1, .int a1), (2, .int a2)], [.int a2, .ref (t + 9), .int (s.1 (t + 9) a1.toNatClampNeg)])) rfl ?_
  refine e_ial (n := 100) (k := a2.toNatClampNeg) rfl (pe_c_2 ht) (pe_l_2 ht) h3 rfl ?_
  refine e_icmp 53 rfl rfl rfl (fun c5 => ?_) (fun c5 => ?_)
  · refine e_L 1 (f' := (54, [(4, .int z4), (3, .int z2), (0, .ref t), (1, .int a1), (2, .int a2)], [.int (0 : Int32)])) rfl ?_
    exact e_rZ rfl rfl (by decide)
  · refine e_L 2 (f' := (40, [(4, .int z4), (3, .int z2), (0, .ref t), (1, .int a1), (2, .int a2)], [.ref t, .ref t])) rfl ?_
    refine e_gR (q := (t + 6)) 5 6 rfl rfl ht (fo_5_6 ht) ?_
    refine e_L 1 (f' := (44, [(4, .int z4), (3, .int z2), (0, .ref t), (1, .int a1), (2, .int a2)], [.int (2 : Int32), .ref (t + 6), .ref t])) rfl ?_
    refine e_aal (n := 18) (q := (t + 9)) rfl (fc_5_6 ht) (fl_5_6 ht) (by decide +kernel) (pe_2 ht) ?_
    refine e_L 1 (f' := (46, [(4, .int z4), (3, .int z2), (0, .ref t), (1, .int a1), (2, .int a2)], [.int a1, .ref (t + 9), .ref t])) rfl ?_
    refine e_ial (n := 100) (k := a1.toNatClampNeg) rfl (pe_c_2 ht) (pe_l_2 ht) h1 rfl ?_
    refine e_vI 94 rfl rfl ix_X5_isVolatile rfl (q_recvOf ht rfl) (Nat.le_of_ble_eq_true rfl) (fun w6 s7 e8 => ?_)
    refine e_ifz 55 rfl rfl rfl (fun c9 => ?_) (fun c9 => ?_)
    · refine e_L 2 (f' := (57, [(4, .int z4), (3, .int z2), (0, .ref t), (1, .int a1), (2, .int a2)], [.int (2 : Int32), .int z2])) rfl ?_
      refine e_icmp 90 rfl rfl rfl (fun c10 => ?_) (fun c10 => ?_)
      · refine e_L 2 (f' := (95, [(4, .int z4), (3, .int z2), (0, .ref t), (1, .int a1), (2, .int a2)], [.int (1 : Int32)])) rfl ?_
        exact e_rZ rfl rfl (by decide)
      · refine e_L 2 (f' := (63, [(4, .int z4), (3, .int z2), (0, .ref t), (1, .int a1), (2, .int a2)], [.int (2 : Int32), .int z4])) rfl ?_
        refine e_icmp 90 rfl rfl rfl (fun c11 => ?_) (fun c11 => ?_)
        · refine e_L 2 (f' := (95, [(4, .int z4), (3, .int z2), (0, .ref t), (1, .int a1), (2, .int a2)], [.int (1 : Int32)])) rfl ?_
          exact e_rZ rfl rfl (by decide)
        · refine e_L 2 (f' := (68, [(4, .int z4), (3, .int z2), (0, .ref t), (1, .int a1), (2, .int a2)], [.int (1 : Int32), .int z2])) rfl ?_
          refine e_icmp 75 rfl rfl rfl (fun c12 => ?_) (fun c12 => ?_)
          · refine e_L 1 (f' := (76, [(4, .int z4), (3, .int z2), (0, .ref t), (1, .int a1), (2, .int a2)], [.int (0 : Int32)])) rfl ?_
            exact qE_sub (qsubL [0] rfl (ks := [4, 3, 0, 1, 2]) rfl (by decide))
          · refine e_L 2 (f' := (76, [(4, .int z4), (3, .int z2), (0, .ref t), (1, .int a1), (2, .int a2)], [.int (1 : Int32)])) rfl ?_
            exact qE_sub (qsubL [0] rfl (ks := [4, 3, 0, 1, 2]) rfl (by decide))
    · refine e_L 1 (f' := (54, [(4, .int z4), (3, .int z2), (0, .ref t), (1, .int a1), (2, .int a2)], [.int (0 : Int32)])) rfl ?_
      exact e_rZ rfl rfl (by decide)
noncomputable def L_X5_change_30 (en : pN) (d : Nat) (r0 : Nat) (vs0 : Int32) (s : qS) : Option qR := qE (qev en d) en (some .boolean) tb_X5_change (30, [(0, .ref r0)], [.int vs0]) s
set_option maxRecDepth 100000 in
set_option maxHeartbeats 4000000 in
theorem le_X5_change_30 (en : pN) (d : Nat) (r0 : Nat) (vs0 : Int32) (s : qS) : qle (gd (lc r0 = 5) (if vs0 = (0 : Int32) then gd (vs0 = 0 ∨ vs0 = 1) (some (some (.int vs0), s)) else bV (qev en d 101 [.ref r0] s) (fun s4 => gd (vs0 = 0 ∨ vs0 = 1) (some (some (.int vs0), s4))))) (L_X5_change_30 en d r0 vs0 s) := by
  show qle _ (qE (qev en d) en (some .boolean) tb_X5_change (30, [(0, .ref r0)], [.int vs0]) s)
  refine qle_gd fun h_r0 => ?_
  refine e_L 2 (f' := (32, [(3, .int vs0), (0, .ref r0)], [.int vs0])) rfl ?_
  refine e_ifz 39 rfl rfl rfl (fun c1 => ?_) (fun c1 => ?_)
  · refine e_L 1 (f' := (40, [(3, .int vs0), (0, .ref r0)], [.int vs0])) rfl ?_
    exact qle_gd fun h2 => e_rZ rfl rfl h2
  · refine e_L 1 (f' := (36, [(3, .int vs0), (0, .ref r0)], [.ref r0])) rfl ?_
    refine e_vV 101 rfl rfl ix_X5_layWays rfl (q_recvOf h_r0 rfl) (Nat.le_of_ble_eq_true rfl) (fun s4 e5 => ?_)
    refine e_L 1 (f' := (40, [(3, .int vs0), (0, .ref r0)], [.int vs0])) rfl ?_
    exact qle_gd fun h6 => e_rZ rfl rfl h6
set_option maxRecDepth 100000 in
set_option maxHeartbeats 4000000 in
theorem le_X5_change (en : pN) (d : Nat) (t : Nat) (a1 : Int32) (a2 : Int32) (s : qS) : qle (gd (lc t = 5) (if ¬ a1 = (0 : Int32) then if ¬ a1 = (1 : Int32) then bI (qev en d 111 [.ref t, .int a2] s) (fun w3 s4 => L_X5_change_30 en d t w3 s4) else bI (qev en d 108 [.ref t, .int a2] s) (fun w6 s7 => L_X5_change_30 en d t w6 s7) else bI (qev en d 107 [.ref t, .int a2] s) (fun w9 s10 => L_X5_change_30 en d t w9 s10))) (qev en (d + 1) 105 [.ref t, .int a1, .int a2] s) := by
  refine e_enter ix_X5_change (Nat.le_of_ble_eq_true rfl) ?_
  show qle _ (qE (qev en d) en (some .boolean) tb_X5_change (0, [(0, .ref t), (1, .int a1), (2, .int a2)], []) s)
  refine qle_gd fun ht => ?_
  refine e_L 1 (f' := (1, [(0, .ref t), (1, .int a1), (2, .int a2)], [.int a1])) rfl ?_
  refine e_ifz 12 rfl rfl rfl (fun c1 => ?_) (fun c1 => ?_)
  · refine e_L 2 (f' := (14, [(0, .ref t), (1, .int a1), (2, .int a2)], [.int (1 : Int32), .int a1])) rfl ?_
    refine e_icmp 25 rfl rfl rfl (fun c2 => ?_) (fun c2 => ?_)
    · refine e_L 2 (f' := (27, [(0, .ref t), (1, .int a1), (2, .int a2)], [.int a2, .ref t])) rfl ?_
      refine e_vI 111 rfl rfl ix_X5_reuse rfl (q_recvOf ht rfl) (Nat.le_of_ble_eq_true rfl) (fun w3 s4 e5 => ?_)
      exact qE_sub (qsubL [0] rfl (ks := [0, 1, 2]) rfl (by decide))
    · refine e_L 2 (f' := (19, [(0, .ref t), (1, .int a1), (2, .int a2)], [.int a2, .ref t])) rfl ?_
      refine e_vI 108 rfl rfl ix_X5_leaveOut rfl (q_recvOf ht rfl) (Nat.le_of_ble_eq_true rfl) (fun w6 s7 e8 => ?_)
      refine e_L 1 (f' := (30, [(0, .ref t), (1, .int a1), (2, .int a2)], [.int w6])) rfl ?_
      exact qE_sub (qsubL [0] rfl (ks := [0, 1, 2]) rfl (by decide))
  · refine e_L 2 (f' := (6, [(0, .ref t), (1, .int a1), (2, .int a2)], [.int a2, .ref t])) rfl ?_
    refine e_vI 107 rfl rfl ix_X5_swap rfl (q_recvOf ht rfl) (Nat.le_of_ble_eq_true rfl) (fun w9 s10 e11 => ?_)
    refine e_L 1 (f' := (30, [(0, .ref t), (1, .int a1), (2, .int a2)], [.int w9])) rfl ?_
    exact qE_sub (qsubL [0] rfl (ks := [0, 1, 2]) rfl (by decide))
noncomputable def L_X5_ahead_53 (en : pN) (d : Nat) (r0 : Nat) (v1 : Int32) (v2 : Int32) (rs0 : Nat) (vs1 : Int32) (s : qS) : Option qR := qE (qev en d) en (some .int) tb_X5_ahead (53, [(0, .ref r0), (1, .int v1), (2, .int v2)], [.int vs1, .ref (rs0 + 6)]) s
noncomputable def L_X5_ahead_63 (en : pN) (d : Nat) (r0 : Nat) (v1 : Int32) (v3 : Int32) (v4 : Int32) (v5 : Int32) (s : qS) : Option qR := qE (qev en d) en (some .int) tb_X5_ahead (63, [(0, .ref r0), (1, .int v1), (3, .int v3), (4, .int v4), (5, .int v5)], []) s
set_option maxRecDepth 100000 in
set_option maxHeartbeats 4000000 in
theorem le_X5_ahead_53 (en : pN) (d : Nat) (r0 : Nat) (v1 : Int32) (v2 : Int32) (rs0 : Nat) (vs1 : Int32) (s : qS) : qle (gd (lc r0 = 5) (gd (lc rs0 = 5) (gd (p_inB vs1 18 = true) (gd (p_inB v2 100 = true) (nm (s.1 (rs0 + 7 + vs1.toNatClampNeg) v2.toNatClampNeg) (fun z3 => L_X5_ahead_63 en d r0 v1 z3 (-1 : Int32) (0 : Int32) s)))))) (L_X5_ahead_53 en d r0 v1 v2 rs0 vs1 s) := by
  show qle _ (qE (qev en d) en (some .int) tb_X5_ahead (53, [(0, .ref r0), (1, .int v1), (2, .int v2)], [.int vs1, .ref (rs0 + 6)]) s)
  refine qle_gd fun h_r0 => ?_
  refine qle_gd fun h_rs0 => ?_
  refine qle_gd fun h1 => ?_
  refine e_aal (n := 18) (q := (rs0 + 7 + vs1.toNatClampNeg)) rfl (fc_5_6 h_rs0) (fl_5_6 h_rs0) h1 (pes h_rs0 _) ?_
  refine e_L 1 (f' := (55, [(0, .ref r0), (1, .int v1), (2, .int v2)], [.int v2, .ref (rs0 + 7 + vs1.toNatClampNeg)])) rfl ?_
  refine qle_gd fun h2 => ?_
  refine e_ial (n := 100) (k := v2.toNatClampNeg) rfl (pes_c h_rs0 h1) (pes_l h_rs0 h1) h2 rfl ?_
  refine e_nI fun z3 => ?_
  refine e_L 5 (f' := (63, [(5, .int (0 : Int32)), (4, .int (-1 : Int32)), (3, .int z3), (0, .ref r0), (1, .int v1), (2, .int v2)], [])) rfl ?_
  exact qE_sub (qsubL [3, 4, 2, 1, 0] rfl (ks := [5, 4, 3, 0, 1, 2]) rfl (by decide))
set_option maxRecDepth 100000 in
set_option maxHeartbeats 4000000 in
theorem le_X5_ahead_63 (en : pN) (d : Nat) (r0 : Nat) (v1 : Int32) (v3 : Int32) (v4 : Int32) (v5 : Int32) (s : qS) : qle (gd (lc r0 = 5) (if (100 : Int32) ≤ v5 then some (some (.int v4), s) else if v3 < (0 : Int32) then some (some (.int v4), s) else if v3 = v1 then some (some (.int v4), s) else gd (p_inB v3 100 = true) (nm (s.1 (r0 + 17) v3.toNatClampNeg) (fun z5 => L_X5_ahead_63 en d r0 v1 z5 v3 (v5 + (1 : Int32)) s)))) (L_X5_ahead_63 en d r0 v1 v3 v4 v5 s) := by
  show qle _ (qE (qev en d) en (some .int) tb_X5_ahead (63, [(0, .ref r0), (1, .int v1), (3, .int v3), (4, .int v4), (5, .int v5)], []) s)
  refine qle_gd fun h_r0 => ?_
  refine e_L 2 (f' := (67, [(0, .ref r0), (1, .int v1), (3, .int v3), (4, .int v4), (5, .int v5)], [.int (100 : Int32), .int v5])) rfl ?_
  refine e_icmp 98 rfl rfl rfl (fun c1 => ?_) (fun c1 => ?_)
  · refine e_L 1 (f' := (100, [(0, .ref r0), (1, .int v1), (3, .int v3), (4, .int v4), (5, .int v5)], [.int v4])) rfl ?_
    exact e_rI rfl rfl
  · refine e_L 1 (f' := (71, [(0, .ref r0), (1, .int v1), (3, .int v3), (4, .int v4), (5, .int v5)], [.int v3])) rfl ?_
    refine e_ifz 98 rfl rfl rfl (fun c2 => ?_) (fun c2 => ?_)
    · refine e_L 1 (f' := (100, [(0, .ref r0), (1, .int v1), (3, .int v3), (4, .int v4), (5, .int v5)], [.int v4])) rfl ?_
      exact e_rI rfl rfl
    · refine e_L 2 (f' := (76, [(0, .ref r0), (1, .int v1), (3, .int v3), (4, .int v4), (5, .int v5)], [.int v1, .int v3])) rfl ?_
      refine e_icmp 98 rfl rfl rfl (fun c3 => ?_) (fun c3 => ?_)
      · refine e_L 1 (f' := (100, [(0, .ref r0), (1, .int v1), (3, .int v3), (4, .int v4), (5, .int v5)], [.int v4])) rfl ?_
        exact e_rI rfl rfl
      · refine e_L 3 (f' := (83, [(4, .int v3), (0, .ref r0), (1, .int v1), (3, .int v3), (5, .int v5)], [.ref r0])) rfl ?_
        refine e_gR (q := (r0 + 6)) 5 6 rfl rfl h_r0 (fo_5_6 h_r0) ?_
        refine e_L 1 (f' := (88, [(4, .int v3), (0, .ref r0), (1, .int v1), (3, .int v3), (5, .int v5)], [.int (10 : Int32), .ref (r0 + 6)])) rfl ?_
        refine e_aal (n := 18) (q := (r0 + 17)) rfl (fc_5_6 h_r0) (fl_5_6 h_r0) (by decide +kernel) (pe_10 h_r0) ?_
        refine e_L 1 (f' := (90, [(4, .int v3), (0, .ref r0), (1, .int v1), (3, .int v3), (5, .int v5)], [.int v3, .ref (r0 + 17)])) rfl ?_
        refine qle_gd fun h4 => ?_
        refine e_ial (n := 100) (k := v3.toNatClampNeg) rfl (pe_c_10 h_r0) (pe_l_10 h_r0) h4 rfl ?_
        refine e_nI fun z5 => ?_
        refine e_L 3 (f' := (63, [(5, .int (v5 + (1 : Int32))), (3, .int z5), (4, .int v3), (0, .ref r0), (1, .int v1)], [])) rfl ?_
        exact qE_sub (qsubL [3, 4, 1, 2, 0] rfl (ks := [5, 3, 4, 0, 1]) rfl (by decide))
set_option maxRecDepth 100000 in
set_option maxHeartbeats 4000000 in
theorem le_X5_ahead (en : pN) (d : Nat) (t : Nat) (a1 : Int32) (s : qS) : qle (gd (lc t = 5) (gd (p_inB a1 100 = true) (nm (s.1 (t + 18) a1.toNatClampNeg) (fun z2 => if (0 : Int32) ≤ z2 then if ¬ (s.1 (t + 19) a1.toNatClampNeg) = (0 : Int32) then L_X5_ahead_53 en d t a1 z2 t (14 : Int32) s else L_X5_ahead_53 en d t a1 z2 t (13 : Int32) s else gd (p_inB (s.1 (t + 8) a1.toNatClampNeg) 4 = true) (nm (s.1 (t + 5) (s.1 (t + 8) a1.toNatClampNeg).toNatClampNeg) (fun z6 => L_X5_ahead_63 en d t a1 z6 (-1 : Int32) (0 : Int32) s)))))) (qev en (d + 1) 106 [.ref t, .int a1] s) := by
  refine e_enter ix_X5_ahead (Nat.le_of_ble_eq_true rfl) ?_
  show qle _ (qE (qev en d) en (some .int) tb_X5_ahead (0, [(0, .ref t), (1, .int a1)], []) s)
  refine qle_gd fun ht => ?_
  refine e_L 1 (f' := (1, [(0, .ref t), (1, .int a1)], [.ref t])) rfl ?_
  refine e_gR (q := (t + 6)) 5 6 rfl rfl ht (fo_5_6 ht) ?_
  refine e_L 1 (f' := (6, [(0, .ref t), (1, .int a1)], [.int (11 : Int32), .ref (t + 6)])) rfl ?_
  refine e_aal (n := 18) (q := (t + 18)) rfl (fc_5_6 ht) (fl_5_6 ht) (by decide +kernel) (pe_11 ht) ?_
  refine e_L 1 (f' := (8, [(0, .ref t), (1, .int a1)], [.int a1, .ref (t + 18)])) rfl ?_
  refine qle_gd fun h1 => ?_
  refine e_ial (n := 100) (k := a1.toNatClampNeg) rfl (pe_c_11 ht) (pe_l_11 ht) h1 rfl ?_
  refine e_nI fun z2 => ?_
  refine e_L 2 (f' := (11, [(2, .int z2), (0, .ref t), (1, .int a1)], [.int z2])) rfl ?_
  refine e_ifz 30 rfl rfl rfl (fun c3 => ?_) (fun c3 => ?_)
  · refine e_L 1 (f' := (31, [(2, .int z2), (0, .ref t), (1, .int a1)], [.ref t])) rfl ?_
    refine e_gR (q := (t + 6)) 5 6 rfl rfl ht (fo_5_6 ht) ?_
    refine e_L 1 (f' := (35, [(2, .int z2), (0, .ref t), (1, .int a1)], [.ref t, .ref (t + 6)])) rfl ?_
    refine e_gR (q := (t + 6)) 5 6 rfl rfl ht (fo_5_6 ht) ?_
    refine e_L 1 (f' := (40, [(2, .int z2), (0, .ref t), (1, .int a1)], [.int (12 : Int32), .ref (t + 6), .ref (t + 6)])) rfl ?_
    refine e_aal (n := 18) (q := (t + 19)) rfl (fc_5_6 ht) (fl_5_6 ht) (by decide +kernel) (pe_12 ht) ?_
    refine e_L 1 (f' := (42, [(2, .int z2), (0, .ref t), (1, .int a1)], [.int a1, .ref (t + 19), .ref (t + 6)])) rfl ?_
    refine e_ial (n := 100) (k := a1.toNatClampNeg) rfl (pe_c_12 ht) (pe_l_12 ht) h1 rfl ?_
    refine e_ifz 51 rfl rfl rfl (fun c4 => ?_) (fun c4 => ?_)
    · refine e_L 1 (f' := (53, [(2, .int z2), (0, .ref t), (1, .int a1)], [.int (14 : Int32), .ref (t + 6)])) rfl ?_
      exact qE_sub (qsubL [1, 2, 0] rfl (ks := [2, 0, 1]) rfl (by decide))
    · refine e_L 2 (f' := (53, [(2, .int z2), (0, .ref t), (1, .int a1)], [.int (13 : Int32), .ref (t + 6)])) rfl ?_
      exact qE_sub (qsubL [1, 2, 0] rfl (ks := [2, 0, 1]) rfl (by decide))
  · refine e_L 1 (f' := (15, [(2, .int z2), (0, .ref t), (1, .int a1)], [.ref t])) rfl ?_
    refine e_gR (q := (t + 5)) 5 5 rfl rfl ht (fo_5_5 ht) ?_
    refine e_L 1 (f' := (19, [(2, .int z2), (0, .ref t), (1, .int a1)], [.ref t, .ref (t + 5)])) rfl ?_
    refine e_gR (q := (t + 6)) 5 6 rfl rfl ht (fo_5_6 ht) ?_
    refine e_L 1 (f' := (23, [(2, .int z2), (0, .ref t), (1, .int a1)], [.int (1 : Int32), .ref (t + 6), .ref (t + 5)])) rfl ?_
    refine e_aal (n := 18) (q := (t + 8)) rfl (fc_5_6 ht) (fl_5_6 ht) (by decide +kernel) (pe_1 ht) ?_
    refine e_L 1 (f' := (25, [(2, .int z2), (0, .ref t), (1, .int a1)], [.int a1, .ref (t + 8), .ref (t + 5)])) rfl ?_
    refine e_ial (n := 100) (k := a1.toNatClampNeg) rfl (pe_c_1 ht) (pe_l_1 ht) h1 rfl ?_
    refine qle_gd fun h5 => ?_
    refine e_ial (n := 4) (k := (s.1 (t + 8) a1.toNatClampNeg).toNatClampNeg) rfl (fc_5_5 ht) (fl_5_5 ht) h5 rfl ?_
    refine e_L 1 (f' := (56, [(2, .int z2), (0, .ref t), (1, .int a1)], [.int (s.1 (t + 5) (s.1 (t + 8) a1.toNatClampNeg).toNatClampNeg)])) rfl ?_
    refine e_nI fun z6 => ?_
    refine e_L 5 (f' := (63, [(5, .int (0 : Int32)), (4, .int (-1 : Int32)), (3, .int z6), (2, .int z2), (0, .ref t), (1, .int a1)], [])) rfl ?_
    exact qE_sub (qsubL [4, 5, 2, 1, 0] rfl (ks := [5, 4, 3, 2, 0, 1]) rfl (by decide))
set_option maxRecDepth 100000 in
set_option maxHeartbeats 4000000 in
theorem le_X5_swap (en : pN) (d : Nat) (t : Nat) (a1 : Int32) (s : qS) : qle (gd (lc t = 5) (gd (p_inB a1 100 = true) (nm (s.1 (t + 17) a1.toNatClampNeg) (fun z2 => if (0 : Int32) ≤ z2 then bI (qev en d 106 [.ref t, .int a1] s) (fun w4 s5 => bV (qev en d 100 [.ref t, .int w4, .int z2] s5) (fun s8 => gd (p_inB z2 100 = true) (nm (uI s8 (t + 17) (a1.toNatClampNeg) (s8.1 (t + 17) z2.toNatClampNeg)) (fun s11 => nm (uI s11 (t + 17) (z2.toNatClampNeg) a1) (fun s12 => some (some (.int (1 : Int32)), s12)))))) else some (some (.int (0 : Int32)), s))))) (qev en (d + 1) 107 [.ref t, .int a1] s) := by
  refine e_enter ix_X5_swap (Nat.le_of_ble_eq_true rfl) ?_
  show qle _ (qE (qev en d) en (some .boolean) tb_X5_swap (0, [(0, .ref t), (1, .int a1)], []) s)
  refine qle_gd fun ht => ?_
  refine e_L 1 (f' := (1, [(0, .ref t), (1, .int a1)], [.ref t])) rfl ?_
  refine e_gR (q := (t + 6)) 5 6 rfl rfl ht (fo_5_6 ht) ?_
  refine e_L 1 (f' := (6, [(0, .ref t), (1, .int a1)], [.int (10 : Int32), .ref (t + 6)])) rfl ?_
  refine e_aal (n := 18) (q := (t + 17)) rfl (fc_5_6 ht) (fl_5_6 ht) (by decide +kernel) (pe_10 ht) ?_
  refine e_L 1 (f' := (8, [(0, .ref t), (1, .int a1)], [.int a1, .ref (t + 17)])) rfl ?_
  refine qle_gd fun h1 => ?_
  refine e_ial (n := 100) (k := a1.toNatClampNeg) rfl (pe_c_10 ht) (pe_l_10 ht) h1 rfl ?_
  refine e_nI fun z2 => ?_
  refine e_L 2 (f' := (11, [(2, .int z2), (0, .ref t), (1, .int a1)], [.int z2])) rfl ?_
  refine e_ifz 16 rfl rfl rfl (fun c3 => ?_) (fun c3 => ?_)
  · refine e_L 3 (f' := (19, [(2, .int z2), (0, .ref t), (1, .int a1)], [.int a1, .ref t, .ref t])) rfl ?_
    refine e_vI 106 rfl rfl ix_X5_ahead rfl (q_recvOf ht rfl) (Nat.le_of_ble_eq_true rfl) (fun w4 s5 e6 => ?_)
    refine e_L 1 (f' := (23, [(2, .int z2), (0, .ref t), (1, .int a1)], [.int z2, .int w4, .ref t])) rfl ?_
    refine e_vV 100 rfl rfl ix_X5_link rfl (q_recvOf ht rfl) (Nat.le_of_ble_eq_true rfl) (fun s8 e9 => ?_)
    refine e_L 1 (f' := (27, [(2, .int z2), (0, .ref t), (1, .int a1)], [.ref t])) rfl ?_
    refine e_gR (q := (t + 6)) 5 6 rfl rfl ht (fo_5_6 ht) ?_
    refine e_L 1 (f' := (32, [(2, .int z2), (0, .ref t), (1, .int a1)], [.int (10 : Int32), .ref (t + 6)])) rfl ?_
    refine e_aal (n := 18) (q := (t + 17)) rfl (fc_5_6 ht) (fl_5_6 ht) (by decide +kernel) (pe_10 ht) ?_
    refine e_L 2 (f' := (35, [(2, .int z2), (0, .ref t), (1, .int a1)], [.ref t, .int a1, .ref (t + 17)])) rfl ?_
    refine e_gR (q := (t + 6)) 5 6 rfl rfl ht (fo_5_6 ht) ?_
    refine e_L 1 (f' := (40, [(2, .int z2), (0, .ref t), (1, .int a1)], [.int (10 : Int32), .ref (t + 6), .int a1, .ref (t + 17)])) rfl ?_
    refine e_aal (n := 18) (q := (t + 17)) rfl (fc_5_6 ht) (fl_5_6 ht) (by decide +kernel) (pe_10 ht) ?_
    refine e_L 1 (f' := (42, [(2, .int z2), (0, .ref t), (1, .int a1)], [.int z2, .ref (t + 17), .int a1, .ref (t + 17)])) rfl ?_
    refine qle_gd fun h10 => ?_
    refine e_ial (n := 100) (k := z2.toNatClampNeg) rfl (pe_c_10 ht) (pe_l_10 ht) h10 rfl ?_
    refine e_ias (n := 100) (k := a1.toNatClampNeg) rfl (pe_c_10 ht) (pe_l_10 ht) h1 rfl ?_
    refine e_nS fun s11 => ?_
    refine e_L 1 (f' := (45, [(2, .int z2), (0, .ref t), (1, .int a1)], [.ref t])) rfl ?_
    refine e_gR (q := (t + 6)) 5 6 rfl rfl ht (fo_5_6 ht) ?_
    refine e_L 1 (f' := (50, [(2, .int z2), (0, .ref t), (1, .int a1)], [.int (10 : Int32), .ref (t + 6)])) rfl ?_
    refine e_aal (n := 18) (q := (t + 17)) rfl (fc_5_6 ht) (fl_5_6 ht) (by decide +kernel) (pe_10 ht) ?_
    refine e_L 2 (f' := (53, [(2, .int z2), (0, .ref t), (1, .int a1)], [.int a1, .int z2, .ref (t + 17)])) rfl ?_
    refine e_ias (n := 100) (k := z2.toNatClampNeg) rfl (pe_c_10 ht) (pe_l_10 ht) h10 rfl ?_
    refine e_nS fun s12 => ?_
    refine e_L 1 (f' := (55, [(2, .int z2), (0, .ref t), (1, .int a1)], [.int (1 : Int32)])) rfl ?_
    exact e_rZ rfl rfl (by decide)
  · refine e_L 1 (f' := (15, [(2, .int z2), (0, .ref t), (1, .int a1)], [.int (0 : Int32)])) rfl ?_
    exact e_rZ rfl rfl (by decide)
noncomputable def L_X5_leaveOut_52 (en : pN) (d : Nat) (r0 : Nat) (v1 : Int32) (v2 : Int32) (v3 : Int32) (s : qS) : Option qR := qE (qev en d) en (some .boolean) tb_X5_leaveOut (52, [(0, .ref r0), (1, .int v1), (2, .int v2), (3, .int v3)], []) s
noncomputable def L_X5_leaveOut_67 (en : pN) (d : Nat) (r0 : Nat) (v1 : Int32) (s : qS) : Option qR := qE (qev en d) en (some .boolean) tb_X5_leaveOut (67, [(0, .ref r0), (1, .int v1)], []) s
set_option maxRecDepth 100000 in
set_option maxHeartbeats 4000000 in
theorem le_X5_leaveOut_52 (en : pN) (d : Nat) (r0 : Nat) (v1 : Int32) (v2 : Int32) (v3 : Int32) (s : qS) : qle (gd (lc r0 = 5) (bV (qev en d 109 [.ref r0, .int v1, .int v3, .int v2] s) (fun s2 => L_X5_leaveOut_67 en d r0 v1 s2))) (L_X5_leaveOut_52 en d r0 v1 v2 v3 s) := by
  show qle _ (qE (qev en d) en (some .boolean) tb_X5_leaveOut (52, [(0, .ref r0), (1, .int v1), (2, .int v2), (3, .int v3)], []) s)
  refine qle_gd fun h_r0 => ?_
  refine e_L 4 (f' := (56, [(0, .ref r0), (1, .int v1), (2, .int v2), (3, .int v3)], [.int v2, .int v3, .int v1, .ref r0])) rfl ?_
  refine e_vV 109 rfl rfl ix_X5_unlink rfl (q_recvOf h_r0 rfl) (Nat.le_of_ble_eq_true rfl) (fun s2 e3 => ?_)
  refine e_L 1 (f' := (67, [(0, .ref r0), (1, .int v1), (2, .int v2), (3, .int v3)], [])) rfl ?_
  exact qE_sub (qsubL [0, 1] rfl (ks := [0, 1, 2, 3]) rfl (by decide))
set_option maxRecDepth 100000 in
set_option maxHeartbeats 4000000 in
theorem le_X5_leaveOut_67 (en : pN) (d : Nat) (r0 : Nat) (v1 : Int32) (s : qS) : qle (gd (lc r0 = 5) (gd (p_inB v1 100 = true) (nm (uI s (r0 + 24) (v1.toNatClampNeg) (1 : Int32)) (fun s2 => some (some (.int (1 : Int32)), s2))))) (L_X5_leaveOut_67 en d r0 v1 s) := by
  show qle _ (qE (qev en d) en (some .boolean) tb_X5_leaveOut (67, [(0, .ref r0), (1, .int v1)], []) s)
  refine qle_gd fun h_r0 => ?_
  refine e_L 1 (f' := (68, [(0, .ref r0), (1, .int v1)], [.ref r0])) rfl ?_
  refine e_gR (q := (r0 + 6)) 5 6 rfl rfl h_r0 (fo_5_6 h_r0) ?_
  refine e_L 1 (f' := (73, [(0, .ref r0), (1, .int v1)], [.int (17 : Int32), .ref (r0 + 6)])) rfl ?_
  refine e_aal (n := 18) (q := (r0 + 24)) rfl (fc_5_6 h_r0) (fl_5_6 h_r0) (by decide +kernel) (pe_17 h_r0) ?_
  refine e_L 2 (f' := (76, [(0, .ref r0), (1, .int v1)], [.int (1 : Int32), .int v1, .ref (r0 + 24)])) rfl ?_
  refine qle_gd fun h1 => ?_
  refine e_ias (n := 100) (k := v1.toNatClampNeg) rfl (pe_c_17 h_r0) (pe_l_17 h_r0) h1 rfl ?_
  refine e_nS fun s2 => ?_
  refine e_L 1 (f' := (78, [(0, .ref r0), (1, .int v1)], [.int (1 : Int32)])) rfl ?_
  exact e_rZ rfl rfl (by decide)
set_option maxRecDepth 100000 in
set_option maxHeartbeats 4000000 in
theorem le_X5_leaveOut (en : pN) (d : Nat) (t : Nat) (a1 : Int32) (s : qS) : qle (gd (lc t = 5) (gd (p_inB a1 100 = true) (if (s.1 (t + 7) a1.toNatClampNeg) = (17 : Int32) then some (some (.int (0 : Int32)), s) else if ¬ (s.1 (t + 7) a1.toNatClampNeg) = (18 : Int32) then nm (s.1 (t + 17) a1.toNatClampNeg) (fun z4 => bI (qev en d 106 [.ref t, .int a1] s) (fun w5 s6 => if (0 : Int32) ≤ z4 then L_X5_leaveOut_52 en d t a1 z4 w5 s6 else if w5 < (0 : Int32) then bV (qev en d 110 [.ref t, .int a1] s6) (fun s11 => L_X5_leaveOut_67 en d t a1 s11) else L_X5_leaveOut_52 en d t a1 z4 w5 s6)) else some (some (.int (0 : Int32)), s)))) (qev en (d + 1) 108 [.ref t, .int a1] s) := by
  refine e_enter ix_X5_leaveOut (Nat.le_of_ble_eq_true rfl) ?_
  show qle _ (qE (qev en d) en (some .boolean) tb_X5_leaveOut (0, [(0, .ref t), (1, .int a1)], []) s)
  refine qle_gd fun ht => ?_
  refine e_L 1 (f' := (1, [(0, .ref t), (1, .int a1)], [.ref t])) rfl ?_
  refine e_gR (q := (t + 6)) 5 6 rfl rfl ht (fo_5_6 ht) ?_
  refine e_L 1 (f' := (5, [(0, .ref t), (1, .int a1)], [.int (0 : Int32), .ref (t + 6)])) rfl ?_
  refine e_aal (n := 18) (q := (t + 7)) rfl (fc_5_6 ht) (fl_5_6 ht) (by decide +kernel) (pe_0 ht) ?_
  refine e_L 1 (f' := (7, [(0, .ref t), (1, .int a1)], [.int a1, .ref (t + 7)])) rfl ?_
  refine qle_gd fun h1 => ?_
  refine e_ial (n := 100) (k := a1.toNatClampNeg) rfl (pe_c_0 ht) (pe_l_0 ht) h1 rfl ?_
  refine e_L 1 (f' := (10, [(0, .ref t), (1, .int a1)], [.int (17 : Int32), .int (s.1 (t + 7) a1.toNatClampNeg)])) rfl ?_
  refine e_icmp 26 rfl rfl rfl (fun c2 => ?_) (fun c2 => ?_)
  · refine e_L 1 (f' := (27, [(0, .ref t), (1, .int a1)], [.int (0 : Int32)])) rfl ?_
    exact e_rZ rfl rfl (by decide)
  · refine e_L 1 (f' := (14, [(0, .ref t), (1, .int a1)], [.ref t])) rfl ?_
    refine e_gR (q := (t + 6)) 5 6 rfl rfl ht (fo_5_6 ht) ?_
    refine e_L 1 (f' := (18, [(0, .ref t), (1, .int a1)], [.int (0 : Int32), .ref (t + 6)])) rfl ?_
    refine e_aal (n := 18) (q := (t + 7)) rfl (fc_5_6 ht) (fl_5_6 ht) (by decide +kernel) (pe_0 ht) ?_
    refine e_L 1 (f' := (20, [(0, .ref t), (1, .int a1)], [.int a1, .ref (t + 7)])) rfl ?_
    refine e_ial (n := 100) (k := a1.toNatClampNeg) rfl (pe_c_0 ht) (pe_l_0 ht) h1 rfl ?_
    refine e_L 1 (f' := (23, [(0, .ref t), (1, .int a1)], [.int (18 : Int32), .int (s.1 (t + 7) a1.toNatClampNeg)])) rfl ?_
    refine e_icmp 28 rfl rfl rfl (fun c3 => ?_) (fun c3 => ?_)
    · refine e_L 1 (f' := (29, [(0, .ref t), (1, .int a1)], [.ref t])) rfl ?_
      refine e_gR (q := (t + 6)) 5 6 rfl rfl ht (fo_5_6 ht) ?_
      refine e_L 1 (f' := (34, [(0, .ref t), (1, .int a1)], [.int (10 : Int32), .ref (t + 6)])) rfl ?_
      refine e_aal (n := 18) (q := (t + 17)) rfl (fc_5_6 ht) (fl_5_6 ht) (by decide +kernel) (pe_10 ht) ?_
      refine e_L 1 (f' := (36, [(0, .ref t), (1, .int a1)], [.int a1, .ref (t + 17)])) rfl ?_
      refine e_ial (n := 100) (k := a1.toNatClampNeg) rfl (pe_c_10 ht) (pe_l_10 ht) h1 rfl ?_
      refine e_nI fun z4 => ?_
      refine e_L 3 (f' := (40, [(2, .int z4), (0, .ref t), (1, .int a1)], [.int a1, .ref t])) rfl ?_
      refine e_vI 106 rfl rfl ix_X5_ahead rfl (q_recvOf ht rfl) (Nat.le_of_ble_eq_true rfl) (fun w5 s6 e7 => ?_)
      refine e_L 2 (f' := (45, [(3, .int w5), (2, .int z4), (0, .ref t), (1, .int a1)], [.int z4])) rfl ?_
      refine e_ifz 52 rfl rfl rfl (fun c8 => ?_) (fun c8 => ?_)
      · exact qE_sub (qsubL [2, 3, 1, 0] rfl (ks := [3, 2, 0, 1]) rfl (by decide))
      · refine e_L 1 (f' := (49, [(3, .int w5), (2, .int z4), (0, .ref t), (1, .int a1)], [.int w5])) rfl ?_
        refine e_ifz 62 rfl rfl rfl (fun c9 => ?_) (fun c9 => ?_)
        · refine e_L 2 (f' := (64, [(3, .int w5), (2, .int z4), (0, .ref t), (1, .int a1)], [.int a1, .ref t])) rfl ?_
          refine e_vV 110 rfl rfl ix_X5_empty rfl (q_recvOf ht rfl) (Nat.le_of_ble_eq_true rfl) (fun s11 e12 => ?_)
          exact qE_sub (qsubL [2, 3] rfl (ks := [3, 2, 0, 1]) rfl (by decide))
        · exact qE_sub (qsubL [2, 3, 1, 0] rfl (ks := [3, 2, 0, 1]) rfl (by decide))
    · refine e_L 1 (f' := (27, [(0, .ref t), (1, .int a1)], [.int (0 : Int32)])) rfl ?_
      exact e_rZ rfl rfl (by decide)
noncomputable def L_X5_unlink_23 (en : pN) (d : Nat) (r0 : Nat) (v1 : Int32) (s : qS) : Option qR := qE (qev en d) en none tb_X5_unlink (23, [(0, .ref r0), (1, .int v1)], []) s
set_option maxRecDepth 100000 in
set_option maxHeartbeats 4000000 in
theorem le_X5_unlink_23 (en : pN) (d : Nat) (r0 : Nat) (v1 : Int32) (s : qS) : qle (gd (lc r0 = 5) (gd (p_inB v1 100 = true) (nm (uI s (r0 + 17) (v1.toNatClampNeg) (-1 : Int32)) (fun s2 => some (none, s2))))) (L_X5_unlink_23 en d r0 v1 s) := by
  show qle _ (qE (qev en d) en none tb_X5_unlink (23, [(0, .ref r0), (1, .int v1)], []) s)
  refine qle_gd fun h_r0 => ?_
  refine e_L 1 (f' := (24, [(0, .ref r0), (1, .int v1)], [.ref r0])) rfl ?_
  refine e_gR (q := (r0 + 6)) 5 6 rfl rfl h_r0 (fo_5_6 h_r0) ?_
  refine e_L 1 (f' := (29, [(0, .ref r0), (1, .int v1)], [.int (10 : Int32), .ref (r0 + 6)])) rfl ?_
  refine e_aal (n := 18) (q := (r0 + 17)) rfl (fc_5_6 h_r0) (fl_5_6 h_r0) (by decide +kernel) (pe_10 h_r0) ?_
  refine e_L 2 (f' := (32, [(0, .ref r0), (1, .int v1)], [.int (-1 : Int32), .int v1, .ref (r0 + 17)])) rfl ?_
  refine qle_gd fun h1 => ?_
  refine e_ias (n := 100) (k := v1.toNatClampNeg) rfl (pe_c_10 h_r0) (pe_l_10 h_r0) h1 rfl ?_
  refine e_nS fun s2 => ?_
  exact e_rV rfl rfl
set_option maxRecDepth 100000 in
set_option maxHeartbeats 4000000 in
theorem le_X5_unlink (en : pN) (d : Nat) (t : Nat) (a1 : Int32) (a2 : Int32) (a3 : Int32) (s : qS) : qle (gd (lc t = 5) (if a3 < (0 : Int32) then gd (p_inB a2 100 = true) (nm (uI s (t + 17) (a2.toNatClampNeg) (-1 : Int32)) (fun s3 => L_X5_unlink_23 en d t a1 s3)) else bV (qev en d 100 [.ref t, .int a2, .int a3] s) (fun s5 => L_X5_unlink_23 en d t a1 s5))) (qev en (d + 1) 109 [.ref t, .int a1, .int a2, .int a3] s) := by
  refine e_enter ix_X5_unlink (Nat.le_of_ble_eq_true rfl) ?_
  show qle _ (qE (qev en d) en none tb_X5_unlink (0, [(0, .ref t), (1, .int a1), (2, .int a2), (3, .int a3)], []) s)
  refine qle_gd fun ht => ?_
  refine e_L 1 (f' := (1, [(0, .ref t), (1, .int a1), (2, .int a2), (3, .int a3)], [.int a3])) rfl ?_
  refine e_ifz 13 rfl rfl rfl (fun c1 => ?_) (fun c1 => ?_)
  · refine e_L 1 (f' := (14, [(0, .ref t), (1, .int a1), (2, .int a2), (3, .int a3)], [.ref t])) rfl ?_
    refine e_gR (q := (t + 6)) 5 6 rfl rfl ht (fo_5_6 ht) ?_
    refine e_L 1 (f' := (19, [(0, .ref t), (1, .int a1), (2, .int a2), (3, .int a3)], [.int (10 : Int32), .ref (t + 6)])) rfl ?_
    refine e_aal (n := 18) (q := (t + 17)) rfl (fc_5_6 ht) (fl_5_6 ht) (by decide +kernel) (pe_10 ht) ?_
    refine e_L 2 (f' := (22, [(0, .ref t), (1, .int a1), (2, .int a2), (3, .int a3)], [.int (-1 : Int32), .int a2, .ref (t + 17)])) rfl ?_
    refine qle_gd fun h2 => ?_
    refine e_ias (n := 100) (k := a2.toNatClampNeg) rfl (pe_c_10 ht) (pe_l_10 ht) h2 rfl ?_
    refine e_nS fun s3 => ?_
    exact qE_sub (qsubL [0, 1] rfl (ks := [0, 1, 2, 3]) rfl (by decide))
  · refine e_L 3 (f' := (7, [(0, .ref t), (1, .int a1), (2, .int a2), (3, .int a3)], [.int a3, .int a2, .ref t])) rfl ?_
    refine e_vV 100 rfl rfl ix_X5_link rfl (q_recvOf ht rfl) (Nat.le_of_ble_eq_true rfl) (fun s5 e6 => ?_)
    refine e_L 1 (f' := (23, [(0, .ref t), (1, .int a1), (2, .int a2), (3, .int a3)], [])) rfl ?_
    exact qE_sub (qsubL [0, 1] rfl (ks := [0, 1, 2, 3]) rfl (by decide))
noncomputable def L_X5_empty_54 (en : pN) (d : Nat) (v2 : Int32) (rs0 : Nat) (vs1 : Int32) (s : qS) : Option qR := qE (qev en d) en none tb_X5_empty (54, [(2, .int v2)], [.int vs1, .ref (rs0 + 6)]) s
set_option maxRecDepth 100000 in
set_option maxHeartbeats 4000000 in
theorem le_X5_empty_54 (en : pN) (d : Nat) (v2 : Int32) (rs0 : Nat) (vs1 : Int32) (s : qS) : qle (gd (lc rs0 = 5) (gd (p_inB vs1 18 = true) (gd (p_inB v2 100 = true) (nm (uI s (rs0 + 7 + vs1.toNatClampNeg) (v2.toNatClampNeg) (-1 : Int32)) (fun s3 => some (none, s3)))))) (L_X5_empty_54 en d v2 rs0 vs1 s) := by
  show qle _ (qE (qev en d) en none tb_X5_empty (54, [(2, .int v2)], [.int vs1, .ref (rs0 + 6)]) s)
  refine qle_gd fun h_rs0 => ?_
  refine qle_gd fun h1 => ?_
  refine e_aal (n := 18) (q := (rs0 + 7 + vs1.toNatClampNeg)) rfl (fc_5_6 h_rs0) (fl_5_6 h_rs0) h1 (pes h_rs0 _) ?_
  refine e_L 2 (f' := (57, [(2, .int v2)], [.int (-1 : Int32), .int v2, .ref (rs0 + 7 + vs1.toNatClampNeg)])) rfl ?_
  refine qle_gd fun h2 => ?_
  refine e_ias (n := 100) (k := v2.toNatClampNeg) rfl (pes_c h_rs0 h1) (pes_l h_rs0 h1) h2 rfl ?_
  refine e_nS fun s3 => ?_
  exact e_rV rfl rfl
set_option maxRecDepth 100000 in
set_option maxHeartbeats 4000000 in
theorem le_X5_empty (en : pN) (d : Nat) (t : Nat) (a1 : Int32) (s : qS) : qle (gd (lc t = 5) (gd (p_inB a1 100 = true) (nm (s.1 (t + 18) a1.toNatClampNeg) (fun z2 => if (0 : Int32) ≤ z2 then if ¬ (s.1 (t + 19) a1.toNatClampNeg) = (0 : Int32) then L_X5_empty_54 en d z2 t (14 : Int32) s else L_X5_empty_54 en d z2 t (13 : Int32) s else gd (p_inB (s.1 (t + 8) a1.toNatClampNeg) 4 = true) (nm (uI s (t + 5) ((s.1 (t + 8) a1.toNatClampNeg).toNatClampNeg) (-1 : Int32)) (fun s6 => some (none, s6))))))) (qev en (d + 1) 110 [.ref t, .int a1] s) := by
  refine e_enter ix_X5_empty (Nat.le_of_ble_eq_true rfl) ?_
  show qle _ (qE (qev en d) en none tb_X5_empty (0, [(0, .ref t), (1, .int a1)], []) s)
  refine qle_gd fun ht => ?_
  refine e_L 1 (f' := (1, [(0, .ref t), (1, .int a1)], [.ref t])) rfl ?_
  refine e_gR (q := (t + 6)) 5 6 rfl rfl ht (fo_5_6 ht) ?_
  refine e_L 1 (f' := (6, [(0, .ref t), (1, .int a1)], [.int (11 : Int32), .ref (t + 6)])) rfl ?_
  refine e_aal (n := 18) (q := (t + 18)) rfl (fc_5_6 ht) (fl_5_6 ht) (by decide +kernel) (pe_11 ht) ?_
  refine e_L 1 (f' := (8, [(0, .ref t), (1, .int a1)], [.int a1, .ref (t + 18)])) rfl ?_
  refine qle_gd fun h1 => ?_
  refine e_ial (n := 100) (k := a1.toNatClampNeg) rfl (pe_c_11 ht) (pe_l_11 ht) h1 rfl ?_
  refine e_nI fun z2 => ?_
  refine e_L 2 (f' := (11, [(2, .int z2), (0, .ref t), (1, .int a1)], [.int z2])) rfl ?_
  refine e_ifz 31 rfl rfl rfl (fun c3 => ?_) (fun c3 => ?_)
  · refine e_L 1 (f' := (32, [(2, .int z2), (0, .ref t), (1, .int a1)], [.ref t])) rfl ?_
    refine e_gR (q := (t + 6)) 5 6 rfl rfl ht (fo_5_6 ht) ?_
    refine e_L 1 (f' := (36, [(2, .int z2), (0, .ref t), (1, .int a1)], [.ref t, .ref (t + 6)])) rfl ?_
    refine e_gR (q := (t + 6)) 5 6 rfl rfl ht (fo_5_6 ht) ?_
    refine e_L 1 (f' := (41, [(2, .int z2), (0, .ref t), (1, .int a1)], [.int (12 : Int32), .ref (t + 6), .ref (t + 6)])) rfl ?_
    refine e_aal (n := 18) (q := (t + 19)) rfl (fc_5_6 ht) (fl_5_6 ht) (by decide +kernel) (pe_12 ht) ?_
    refine e_L 1 (f' := (43, [(2, .int z2), (0, .ref t), (1, .int a1)], [.int a1, .ref (t + 19), .ref (t + 6)])) rfl ?_
    refine e_ial (n := 100) (k := a1.toNatClampNeg) rfl (pe_c_12 ht) (pe_l_12 ht) h1 rfl ?_
    refine e_ifz 52 rfl rfl rfl (fun c4 => ?_) (fun c4 => ?_)
    · refine e_L 1 (f' := (54, [(2, .int z2), (0, .ref t), (1, .int a1)], [.int (14 : Int32), .ref (t + 6)])) rfl ?_
      exact qE_sub (qsubL [0] rfl (ks := [2, 0, 1]) rfl (by decide))
    · refine e_L 2 (f' := (54, [(2, .int z2), (0, .ref t), (1, .int a1)], [.int (13 : Int32), .ref (t + 6)])) rfl ?_
      exact qE_sub (qsubL [0] rfl (ks := [2, 0, 1]) rfl (by decide))
  · refine e_L 1 (f' := (15, [(2, .int z2), (0, .ref t), (1, .int a1)], [.ref t])) rfl ?_
    refine e_gR (q := (t + 5)) 5 5 rfl rfl ht (fo_5_5 ht) ?_
    refine e_L 1 (f' := (19, [(2, .int z2), (0, .ref t), (1, .int a1)], [.ref t, .ref (t + 5)])) rfl ?_
    refine e_gR (q := (t + 6)) 5 6 rfl rfl ht (fo_5_6 ht) ?_
    refine e_L 1 (f' := (23, [(2, .int z2), (0, .ref t), (1, .int a1)], [.int (1 : Int32), .ref (t + 6), .ref (t + 5)])) rfl ?_
    refine e_aal (n := 18) (q := (t + 8)) rfl (fc_5_6 ht) (fl_5_6 ht) (by decide +kernel) (pe_1 ht) ?_
    refine e_L 1 (f' := (25, [(2, .int z2), (0, .ref t), (1, .int a1)], [.int a1, .ref (t + 8), .ref (t + 5)])) rfl ?_
    refine e_ial (n := 100) (k := a1.toNatClampNeg) rfl (pe_c_1 ht) (pe_l_1 ht) h1 rfl ?_
    refine e_L 1 (f' := (27, [(2, .int z2), (0, .ref t), (1, .int a1)], [.int (-1 : Int32), .int (s.1 (t + 8) a1.toNatClampNeg), .ref (t + 5)])) rfl ?_
    refine qle_gd fun h5 => ?_
    refine e_ias (n := 4) (k := (s.1 (t + 8) a1.toNatClampNeg).toNatClampNeg) rfl (fc_5_5 ht) (fl_5_5 ht) h5 rfl ?_
    refine e_nS fun s6 => ?_
    refine e_L 1 (f' := (58, [(2, .int z2), (0, .ref t), (1, .int a1)], [])) rfl ?_
    exact e_rV rfl rfl
set_option maxRecDepth 100000 in
set_option maxHeartbeats 4000000 in
theorem le_X5_reuse (en : pN) (d : Nat) (t : Nat) (a1 : Int32) (s : qS) : qle (gd (lc t = 5) (bI (qev en d 106 [.ref t, .int a1] s) (fun w1 s2 => if w1 < (0 : Int32) then some (some (.int (0 : Int32)), s2) else gd (p_inB a1 100 = true) (if ¬ (s2.1 (t + 7) a1.toNatClampNeg) = (1 : Int32) then some (some (.int (0 : Int32)), s2) else gd (p_inB w1 100 = true) (if ¬ (s2.1 (t + 7) w1.toNatClampNeg) = (1 : Int32) then some (some (.int (0 : Int32)), s2) else if (s2.1 (t + 9) a1.toNatClampNeg) = (s2.1 (t + 9) w1.toNatClampNeg) then bI (qev en d 32 [.int (s2.1 (t + 8) a1.toNatClampNeg), .int (s2.1 (t + 10) w1.toNatClampNeg)] s2) (fun w10 s11 => bV (qev en d 77 [.ref 7, .int ((400 : Int32) + a1), .int (2 : Int32), .int w10] s11) (fun s14 => nm (uI s14 (t + 7) (a1.toNatClampNeg) (0 : Int32)) (fun s16 => nm (uI s16 (t + 9) (a1.toNatClampNeg) (-2 : Int32)) (fun s17 => nm (uI s17 (t + 12) (a1.toNatClampNeg) ((400 : Int32) + a1)) (fun s18 => nm (uI s18 (t + 13) (a1.toNatClampNeg) (((400 : Int32) + a1) + (1 : Int32))) (fun s19 => some (some (.int (1 : Int32)), s19))))))) else some (some (.int (0 : Int32)), s2)))))) (qev en (d + 1) 111 [.ref t, .int a1] s) := by
  refine e_enter ix_X5_reuse (Nat.le_of_ble_eq_true rfl) ?_
  show qle _ (qE (qev en d) en (some .boolean) tb_X5_reuse (0, [(0, .ref t), (1, .int a1)], []) s)
  refine qle_gd fun ht => ?_
  refine e_L 2 (f' := (2, [(0, .ref t), (1, .int a1)], [.int a1, .ref t])) rfl ?_
  refine e_vI 106 rfl rfl ix_X5_ahead rfl (q_recvOf ht rfl) (Nat.le_of_ble_eq_true rfl) (fun w1 s2 e3 => ?_)
  refine e_L 2 (f' := (7, [(2, .int w1), (0, .ref t), (1, .int a1)], [.int w1])) rfl ?_
  refine e_ifz 53 rfl rfl rfl (fun c4 => ?_) (fun c4 => ?_)
  · refine e_L 1 (f' := (54, [(2, .int w1), (0, .ref t), (1, .int a1)], [.int (0 : Int32)])) rfl ?_
    exact e_rZ rfl rfl (by decide)
  · refine e_L 1 (f' := (11, [(2, .int w1), (0, .ref t), (1, .int a1)], [.ref t])) rfl ?_
    refine e_gR (q := (t + 6)) 5 6 rfl rfl ht (fo_5_6 ht) ?_
    refine e_L 1 (f' := (15, [(2, .int w1), (0, .ref t), (1, .int a1)], [.int (0 : Int32), .ref (t + 6)])) rfl ?_
    refine e_aal (n := 18) (q := (t + 7)) rfl (fc_5_6 ht) (fl_5_6 ht) (by decide +kernel) (pe_0 ht) ?_
    refine e_L 1 (f' := (17, [(2, .int w1), (0, .ref t), (1, .int a1)], [.int a1, .ref (t + 7)])) rfl ?_
    refine qle_gd fun h5 => ?_
    refine e_ial (n := 100) (k := a1.toNatClampNeg) rfl (pe_c_0 ht) (pe_l_0 ht) h5 rfl ?_
    refine e_L 1 (f' := (19, [(2, .int w1), (0, .ref t), (1, .int a1)], [.int (1 : Int32), .int (s2.1 (t + 7) a1.toNatClampNeg)])) rfl ?_
    refine e_icmp 53 rfl rfl rfl (fun c6 => ?_) (fun c6 => ?_)
    · refine e_L 1 (f' := (54, [(2, .int w1), (0, .ref t), (1, .int a1)], [.int (0 : Int32)])) rfl ?_
      exact e_rZ rfl rfl (by decide)
    · refine e_L 1 (f' := (23, [(2, .int w1), (0, .ref t), (1, .int a1)], [.ref t])) rfl ?_
      refine e_gR (q := (t + 6)) 5 6 rfl rfl ht (fo_5_6 ht) ?_
      refine e_L 1 (f' := (27, [(2, .int w1), (0, .ref t), (1, .int a1)], [.int (0 : Int32), .ref (t + 6)])) rfl ?_
      refine e_aal (n := 18) (q := (t + 7)) rfl (fc_5_6 ht) (fl_5_6 ht) (by decide +kernel) (pe_0 ht) ?_
      refine e_L 1 (f' := (29, [(2, .int w1), (0, .ref t), (1, .int a1)], [.int w1, .ref (t + 7)])) rfl ?_
      refine qle_gd fun h7 => ?_
      refine e_ial (n := 100) (k := w1.toNatClampNeg) rfl (pe_c_0 ht) (pe_l_0 ht) h7 rfl ?_
      refine e_L 1 (f' := (31, [(2, .int w1), (0, .ref t), (1, .int a1)], [.int (1 : Int32), .int (s2.1 (t + 7) w1.toNatClampNeg)])) rfl ?_
      refine e_icmp 53 rfl rfl rfl (fun c8 => ?_) (fun c8 => ?_)
      · refine e_L 1 (f' := (54, [(2, .int w1), (0, .ref t), (1, .int a1)], [.int (0 : Int32)])) rfl ?_
        exact e_rZ rfl rfl (by decide)
      · refine e_L 1 (f' := (35, [(2, .int w1), (0, .ref t), (1, .int a1)], [.ref t])) rfl ?_
        refine e_gR (q := (t + 6)) 5 6 rfl rfl ht (fo_5_6 ht) ?_
        refine e_L 1 (f' := (39, [(2, .int w1), (0, .ref t), (1, .int a1)], [.int (2 : Int32), .ref (t + 6)])) rfl ?_
        refine e_aal (n := 18) (q := (t + 9)) rfl (fc_5_6 ht) (fl_5_6 ht) (by decide +kernel) (pe_2 ht) ?_
        refine e_L 1 (f' := (41, [(2, .int w1), (0, .ref t), (1, .int a1)], [.int a1, .ref (t + 9)])) rfl ?_
        refine e_ial (n := 100) (k := a1.toNatClampNeg) rfl (pe_c_2 ht) (pe_l_2 ht) h5 rfl ?_
        refine e_L 1 (f' := (43, [(2, .int w1), (0, .ref t), (1, .int a1)], [.ref t, .int (s2.1 (t + 9) a1.toNatClampNeg)])) rfl ?_
        refine e_gR (q := (t + 6)) 5 6 rfl rfl ht (fo_5_6 ht) ?_
        refine e_L 1 (f' := (47, [(2, .int w1), (0, .ref t), (1, .int a1)], [.int (2 : Int32), .ref (t + 6), .int (s2.1 (t + 9) a1.toNatClampNeg)])) rfl ?_
        refine e_aal (n := 18) (q := (t + 9)) rfl (fc_5_6 ht) (fl_5_6 ht) (by decide +kernel) (pe_2 ht) ?_
        refine e_L 1 (f' := (49, [(2, .int w1), (0, .ref t), (1, .int a1)], [.int w1, .ref (t + 9), .int (s2.1 (t + 9) a1.toNatClampNeg)])) rfl ?_
        refine e_ial (n := 100) (k := w1.toNatClampNeg) rfl (pe_c_2 ht) (pe_l_2 ht) h7 rfl ?_
        refine e_icmp 55 rfl rfl rfl (fun c9 => ?_) (fun c9 => ?_)
        · refine e_L 5 (f' := (62, [(3, .int ((400 : Int32) + a1)), (2, .int w1), (0, .ref t), (1, .int a1)], [.ref t])) rfl ?_
          refine e_gR (q := 7) 5 0 rfl rfl ht (fo_5_0 ht) ?_
          refine e_L 3 (f' := (68, [(3, .int ((400 : Int32) + a1)), (2, .int w1), (0, .ref t), (1, .int a1)], [.ref t, .int (2 : Int32), .int ((400 : Int32) + a1), .ref 7])) rfl ?_
          refine e_gR (q := (t + 6)) 5 6 rfl rfl ht (fo_5_6 ht) ?_
          refine e_L 1 (f' := (72, [(3, .int ((400 : Int32) + a1)), (2, .int w1), (0, .ref t), (1, .int a1)], [.int (1 : Int32), .ref (t + 6), .int (2 : Int32), .int ((400 : Int32) + a1), .ref 7])) rfl ?_
          refine e_aal (n := 18) (q := (t + 8)) rfl (fc_5_6 ht) (fl_5_6 ht) (by decide +kernel) (pe_1 ht) ?_
          refine e_L 1 (f' := (74, [(3, .int ((400 : Int32) + a1)), (2, .int w1), (0, .ref t), (1, .int a1)], [.int a1, .ref (t + 8), .int (2 : Int32), .int ((400 : Int32) + a1), .ref 7])) rfl ?_
          refine e_ial (n := 100) (k := a1.toNatClampNeg) rfl (pe_c_1 ht) (pe_l_1 ht) h5 rfl ?_
          refine e_L 1 (f' := (76, [(3, .int ((400 : Int32) + a1)), (2, .int w1), (0, .ref t), (1, .int a1)], [.ref t, .int (s2.1 (t + 8) a1.toNatClampNeg), .int (2 : Int32), .int ((400 : Int32) + a1), .ref 7])) rfl ?_
          refine e_gR (q := (t + 6)) 5 6 rfl rfl ht (fo_5_6 ht) ?_
          refine e_L 1 (f' := (80, [(3, .int ((400 : Int32) + a1)), (2, .int w1), (0, .ref t), (1, .int a1)], [.int (3 : Int32), .ref (t + 6), .int (s2.1 (t + 8) a1.toNatClampNeg), .int (2 : Int32), .int ((400 : Int32) + a1), .ref 7])) rfl ?_
          refine e_aal (n := 18) (q := (t + 10)) rfl (fc_5_6 ht) (fl_5_6 ht) (by decide +kernel) (pe_3 ht) ?_
          refine e_L 1 (f' := (82, [(3, .int ((400 : Int32) + a1)), (2, .int w1), (0, .ref t), (1, .int a1)], [.int w1, .ref (t + 10), .int (s2.1 (t + 8) a1.toNatClampNeg), .int (2 : Int32), .int ((400 : Int32) + a1), .ref 7])) rfl ?_
          refine e_ial (n := 100) (k := w1.toNatClampNeg) rfl (pe_c_3 ht) (pe_l_3 ht) h7 rfl ?_
          refine e_sI 32 rfl rfl rfl ix_X3_localSlot rfl (Nat.le_of_ble_eq_true rfl) (fun w10 s11 e12 => ?_)
          refine e_vV 77 rfl rfl ix_X4_set rfl (q_recvOf lc_7 rfl) (Nat.le_of_ble_eq_true rfl) (fun s14 e15 => ?_)
          refine e_L 1 (f' := (90, [(3, .int ((400 : Int32) + a1)), (2, .int w1), (0, .ref t), (1, .int a1)], [.ref t])) rfl ?_
          refine e_gR (q := (t + 6)) 5 6 rfl rfl ht (fo_5_6 ht) ?_
          refine e_L 1 (f' := (94, [(3, .int ((400 : Int32) + a1)), (2, .int w1), (0, .ref t), (1, .int a1)], [.int (0 : Int32), .ref (t + 6)])) rfl ?_
          refine e_aal (n := 18) (q := (t + 7)) rfl (fc_5_6 ht) (fl_5_6 ht) (by decide +kernel) (pe_0 ht) ?_
          refine e_L 2 (f' := (97, [(3, .int ((400 : Int32) + a1)), (2, .int w1), (0, .ref t), (1, .int a1)], [.int (0 : Int32), .int a1, .ref (t + 7)])) rfl ?_
          refine e_ias (n := 100) (k := a1.toNatClampNeg) rfl (pe_c_0 ht) (pe_l_0 ht) h5 rfl ?_
          refine e_nS fun s16 => ?_
          refine e_L 1 (f' := (99, [(3, .int ((400 : Int32) + a1)), (2, .int w1), (0, .ref t), (1, .int a1)], [.ref t])) rfl ?_
          refine e_gR (q := (t + 6)) 5 6 rfl rfl ht (fo_5_6 ht) ?_
          refine e_L 1 (f' := (103, [(3, .int ((400 : Int32) + a1)), (2, .int w1), (0, .ref t), (1, .int a1)], [.int (2 : Int32), .ref (t + 6)])) rfl ?_
          refine e_aal (n := 18) (q := (t + 9)) rfl (fc_5_6 ht) (fl_5_6 ht) (by decide +kernel) (pe_2 ht) ?_
          refine e_L 2 (f' := (107, [(3, .int ((400 : Int32) + a1)), (2, .int w1), (0, .ref t), (1, .int a1)], [.int (-2 : Int32), .int a1, .ref (t + 9)])) rfl ?_
          refine e_ias (n := 100) (k := a1.toNatClampNeg) rfl (pe_c_2 ht) (pe_l_2 ht) h5 rfl ?_
          refine e_nS fun s17 => ?_
          refine e_L 1 (f' := (109, [(3, .int ((400 : Int32) + a1)), (2, .int w1), (0, .ref t), (1, .int a1)], [.ref t])) rfl ?_
          refine e_gR (q := (t + 6)) 5 6 rfl rfl ht (fo_5_6 ht) ?_
          refine e_L 1 (f' := (113, [(3, .int ((400 : Int32) + a1)), (2, .int w1), (0, .ref t), (1, .int a1)], [.int (5 : Int32), .ref (t + 6)])) rfl ?_
          refine e_aal (n := 18) (q := (t + 12)) rfl (fc_5_6 ht) (fl_5_6 ht) (by decide +kernel) (pe_5 ht) ?_
          refine e_L 2 (f' := (116, [(3, .int ((400 : Int32) + a1)), (2, .int w1), (0, .ref t), (1, .int a1)], [.int ((400 : Int32) + a1), .int a1, .ref (t + 12)])) rfl ?_
          refine e_ias (n := 100) (k := a1.toNatClampNeg) rfl (pe_c_5 ht) (pe_l_5 ht) h5 rfl ?_
          refine e_nS fun s18 => ?_
          refine e_L 1 (f' := (118, [(3, .int ((400 : Int32) + a1)), (2, .int w1), (0, .ref t), (1, .int a1)], [.ref t])) rfl ?_
          refine e_gR (q := (t + 6)) 5 6 rfl rfl ht (fo_5_6 ht) ?_
          refine e_L 1 (f' := (123, [(3, .int ((400 : Int32) + a1)), (2, .int w1), (0, .ref t), (1, .int a1)], [.int (6 : Int32), .ref (t + 6)])) rfl ?_
          refine e_aal (n := 18) (q := (t + 13)) rfl (fc_5_6 ht) (fl_5_6 ht) (by decide +kernel) (pe_6 ht) ?_
          refine e_L 4 (f' := (128, [(3, .int ((400 : Int32) + a1)), (2, .int w1), (0, .ref t), (1, .int a1)], [.int (((400 : Int32) + a1) + (1 : Int32)), .int a1, .ref (t + 13)])) rfl ?_
          refine e_ias (n := 100) (k := a1.toNatClampNeg) rfl (pe_c_6 ht) (pe_l_6 ht) h5 rfl ?_
          refine e_nS fun s19 => ?_
          refine e_L 1 (f' := (130, [(3, .int ((400 : Int32) + a1)), (2, .int w1), (0, .ref t), (1, .int a1)], [.int (1 : Int32)])) rfl ?_
          exact e_rZ rfl rfl (by decide)
        · refine e_L 1 (f' := (54, [(2, .int w1), (0, .ref t), (1, .int a1)], [.int (0 : Int32)])) rfl ?_
          exact e_rZ rfl rfl (by decide)
