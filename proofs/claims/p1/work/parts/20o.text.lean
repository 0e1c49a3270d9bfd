/-! what methods do, printed by program out of their tables: X12_layParts .. -/
noncomputable def L_X12_layParts_11 (en : pN) (d : Nat) (v1 : Int32) (v2 : Int32) (v3 : Int32) (s : qS) : Option qR := qE (qev en d) en none tb_X12_layParts (11, [(0, .ref 151), (1, .int v1), (2, .int v2), (3, .int v3)], []) s
noncomputable def L_X12_layParts_43 (en : pN) (d : Nat) (v1 : Int32) (v2 : Int32) (v3 : Int32) (s : qS) : Option qR := qE (qev en d) en none tb_X12_layParts (43, [(0, .ref 151), (1, .int v1), (2, .int v2), (3, .int v3)], []) s
noncomputable def L_X12_layParts_123 (en : pN) (d : Nat) (v1 : Int32) (v2 : Int32) (v3 : Int32) (v4 : Int32) (s : qS) : Option qR := qE (qev en d) en none tb_X12_layParts (123, [(0, .ref 151), (1, .int v1), (2, .int v2), (3, .int v3), (4, .int v4)], []) s
noncomputable def L_X12_layParts_264 (en : pN) (d : Nat) (v1 : Int32) (v2 : Int32) (v3 : Int32) (v4 : Int32) (v5 : Int32) (v6 : Int32) (s : qS) : Option qR := qE (qev en d) en none tb_X12_layParts (264, [(0, .ref 151), (1, .int v1), (2, .int v2), (3, .int v3), (4, .int v4), (5, .int v5), (6, .int v6)], []) s
noncomputable def L_X12_layParts_326 (en : pN) (d : Nat) (v1 : Int32) (v2 : Int32) (v3 : Int32) (v4 : Int32) (vs1 : Int32) (vs2 : Int32) (s : qS) : Option qR := qE (qev en d) en none tb_X12_layParts (326, [(0, .ref 151), (1, .int v1), (2, .int v2), (3, .int v3), (4, .int v4)], [.int vs2, .int vs1, .ref 240]) s
noncomputable def L_X12_layParts_389 (en : pN) (d : Nat) (v1 : Int32) (v2 : Int32) (v3 : Int32) (v4 : Int32) (v5 : Int32) (vs1 : Int32) (vs2 : Int32) (s : qS) : Option qR := qE (qev en d) en none tb_X12_layParts (389, [(0, .ref 151), (1, .int v1), (2, .int v2), (3, .int v3), (4, .int v4), (5, .int v5)], [.int vs2, .int vs1, .ref 240]) s
noncomputable def L_X12_layParts_390 (en : pN) (d : Nat) (v1 : Int32) (v2 : Int32) (v3 : Int32) (v4 : Int32) (v5 : Int32) (s : qS) : Option qR := qE (qev en d) en none tb_X12_layParts (390, [(0, .ref 151), (1, .int v1), (2, .int v2), (3, .int v3), (4, .int v4), (5, .int v5)], []) s
noncomputable def L_X12_layParts_411 (en : pN) (d : Nat) (v1 : Int32) (v2 : Int32) (v3 : Int32) (v4 : Int32) (v5 : Int32) (v6 : Int32) (s : qS) : Option qR := qE (qev en d) en none tb_X12_layParts (411, [(0, .ref 151), (1, .int v1), (2, .int v2), (3, .int v3), (4, .int v4), (5, .int v5), (6, .int v6)], []) s
noncomputable def L_X12_layParts_494 (en : pN) (d : Nat) (v3 : Int32) (s : qS) : Option qR := qE (qev en d) en none tb_X12_layParts (494, [(0, .ref 151), (3, .int v3)], []) s
noncomputable def L_X12_layParts_548 (en : pN) (d : Nat) (v3 : Int32) (v4 : Int32) (v5 : Int32) (s : qS) : Option qR := qE (qev en d) en none tb_X12_layParts (548, [(0, .ref 151), (3, .int v3), (4, .int v4), (5, .int v5)], []) s
set_option maxRecDepth 100000 in
set_option maxHeartbeats 4000000 in
theorem le_X12_layParts_11 (en : pN) (d : Nat) (v1 : Int32) (v2 : Int32) (v3 : Int32) (s : qS) : qle (if (s.1 151 101) ≤ v3 then L_X12_layParts_43 en d v1 v2 (0 : Int32) s else gd (p_inB v3 20001 = true) (nm (uI s 238 (v3.toNatClampNeg) (-2 : Int32)) (fun s3 => nm (uI s3 239 (v3.toNatClampNeg) (-2 : Int32)) (fun s4 => L_X12_layParts_11 en d v1 v2 (v3 + (1 : Int32)) s4)))) (L_X12_layParts_11 en d v1 v2 v3 s) := by
  show qle _ (qE (qev en d) en none tb_X12_layParts (11, [(0, .ref 151), (1, .int v1), (2, .int v2), (3, .int v3)], []) s)
  refine e_L 2 (f' := (13, [(0, .ref 151), (1, .int v1), (2, .int v2), (3, .int v3)], [.ref 151, .int v3])) rfl ?_
  refine e_gI 12 101 rfl rfl lc_151 ?_
  refine e_icmp 41 rfl rfl rfl (fun c1 => ?_) (fun c1 => ?_)
  · refine e_L 2 (f' := (43, [(3, .int (0 : Int32)), (0, .ref 151), (1, .int v1), (2, .int v2)], [])) rfl ?_
    exact qE_sub (qsubL [1, 2, 3, 0] rfl (ks := [3, 0, 1, 2]) rfl (by decide))
  · refine e_L 1 (f' := (20, [(0, .ref 151), (1, .int v1), (2, .int v2), (3, .int v3)], [.ref 151])) rfl ?_
    refine e_gR (q := 238) 12 137 rfl rfl lc_151 lr_151_137 ?_
    refine e_L 2 (f' := (26, [(0, .ref 151), (1, .int v1), (2, .int v2), (3, .int v3)], [.int (-2 : Int32), .int v3, .ref 238])) rfl ?_
    refine qle_gd fun h2 => ?_
    refine e_ias (n := 20001) (k := v3.toNatClampNeg) rfl lc_238 ln_238 h2 rfl ?_
    refine e_nS fun s3 => ?_
    refine e_L 1 (f' := (28, [(0, .ref 151), (1, .int v1), (2, .int v2), (3, .int v3)], [.ref 151])) rfl ?_
    refine e_gR (q := 239) 12 138 rfl rfl lc_151 lr_151_138 ?_
    refine e_L 2 (f' := (34, [(0, .ref 151), (1, .int v1), (2, .int v2), (3, .int v3)], [.int (-2 : Int32), .int v3, .ref 239])) rfl ?_
    refine e_ias (n := 20001) (k := v3.toNatClampNeg) rfl lc_239 ln_239 h2 rfl ?_
    refine e_nS fun s4 => ?_
    refine e_L 2 (f' := (11, [(3, .int (v3 + (1 : Int32))), (0, .ref 151), (1, .int v1), (2, .int v2)], [])) rfl ?_
    exact qE_sub (qsubL [1, 2, 3, 0] rfl (ks := [3, 0, 1, 2]) rfl (by decide))
set_option maxRecDepth 100000 in
set_option maxHeartbeats 4000000 in
theorem le_X12_layParts_43 (en : pN) (d : Nat) (v1 : Int32) (v2 : Int32) (v3 : Int32) (s : qS) : qle (if (s.1 151 101) ≤ v3 then L_X12_layParts_494 en d (0 : Int32) s else gd (p_inB v3 20001 = true) (if ¬ (s.1 233 v3.toNatClampNeg) = (0 : Int32) then L_X12_layParts_43 en d v1 v2 (v3 + (1 : Int32)) s else if (s.1 239 v3.toNatClampNeg) = (-2 : Int32) then nm (uI s 242 0 v3) (fun s5 => nm (uI s5 239 (v3.toNatClampNeg) v1) (fun s6 => nm (uI s6 240 (v3.toNatClampNeg) v1) (fun s7 => gd (p_inB v3 20002 = true) (nm (uI s7 241 (v3.toNatClampNeg) (s7.1 218 v3.toNatClampNeg)) (fun s9 => gd (p_inB v2 20001 = true) (nm (uI s9 243 (v2.toNatClampNeg) v3) (fun s11 => L_X12_layParts_123 en d (v1 + (1 : Int32)) (v2 + (1 : Int32)) v3 (1 : Int32) s11))))))) else L_X12_layParts_43 en d v1 v2 (v3 + (1 : Int32)) s)) (L_X12_layParts_43 en d v1 v2 v3 s) := by
  show qle _ (qE (qev en d) en none tb_X12_layParts (43, [(0, .ref 151), (1, .int v1), (2, .int v2), (3, .int v3)], []) s)
  refine e_L 2 (f' := (45, [(0, .ref 151), (1, .int v1), (2, .int v2), (3, .int v3)], [.ref 151, .int v3])) rfl ?_
  refine e_gI 12 101 rfl rfl lc_151 ?_
  refine e_icmp 492 rfl rfl rfl (fun c1 => ?_) (fun c1 => ?_)
  · refine e_L 2 (f' := (494, [(3, .int (0 : Int32)), (0, .ref 151), (1, .int v1), (2, .int v2)], [])) rfl ?_
    exact qE_sub (qsubL [1, 0] rfl (ks := [3, 0, 1, 2]) rfl (by decide))
  · refine e_L 1 (f' := (52, [(0, .ref 151), (1, .int v1), (2, .int v2), (3, .int v3)], [.ref 151])) rfl ?_
    refine e_gR (q := 233) 12 132 rfl rfl lc_151 lr_151_132 ?_
    refine e_L 1 (f' := (56, [(0, .ref 151), (1, .int v1), (2, .int v2), (3, .int v3)], [.int v3, .ref 233])) rfl ?_
    refine qle_gd fun h2 => ?_
    refine e_bal (n := 20001) (k := v3.toNatClampNeg) rfl (Or.inl lc_233) ln_233 h2 rfl ?_
    refine e_ifz 486 rfl rfl rfl (fun c3 => ?_) (fun c3 => ?_)
    · refine e_L 2 (f' := (43, [(3, .int (v3 + (1 : Int32))), (0, .ref 151), (1, .int v1), (2, .int v2)], [])) rfl ?_
      exact qE_sub (qsubL [1, 2, 3, 0] rfl (ks := [3, 0, 1, 2]) rfl (by decide))
    · refine e_L 1 (f' := (61, [(0, .ref 151), (1, .int v1), (2, .int v2), (3, .int v3)], [.ref 151])) rfl ?_
      refine e_gR (q := 239) 12 138 rfl rfl lc_151 lr_151_138 ?_
      refine e_L 1 (f' := (65, [(0, .ref 151), (1, .int v1), (2, .int v2), (3, .int v3)], [.int v3, .ref 239])) rfl ?_
      refine e_ial (n := 20001) (k := v3.toNatClampNeg) rfl lc_239 ln_239 h2 rfl ?_
      refine e_L 1 (f' := (68, [(0, .ref 151), (1, .int v1), (2, .int v2), (3, .int v3)], [.int (-2 : Int32), .int (s.1 239 v3.toNatClampNeg)])) rfl ?_
      refine e_icmp 74 rfl rfl rfl (fun c4 => ?_) (fun c4 => ?_)
      · refine e_L 3 (f' := (78, [(4, .int (1 : Int32)), (0, .ref 151), (1, .int v1), (2, .int v2), (3, .int v3)], [.ref 151])) rfl ?_
        refine e_gR (q := 242) 12 141 rfl rfl lc_151 lr_151_141 ?_
        refine e_L 2 (f' := (83, [(4, .int (1 : Int32)), (0, .ref 151), (1, .int v1), (2, .int v2), (3, .int v3)], [.int v3, .int (0 : Int32), .ref 242])) rfl ?_
        refine e_ias (n := 20001) (k := 0) rfl lc_242 ln_242 (by decide +kernel) (by decide +kernel) ?_
        refine e_nS fun s5 => ?_
        refine e_L 1 (f' := (85, [(4, .int (1 : Int32)), (0, .ref 151), (1, .int v1), (2, .int v2), (3, .int v3)], [.ref 151])) rfl ?_
        refine e_gR (q := 239) 12 138 rfl rfl lc_151 lr_151_138 ?_
        refine e_L 2 (f' := (90, [(4, .int (1 : Int32)), (0, .ref 151), (1, .int v1), (2, .int v2), (3, .int v3)], [.int v1, .int v3, .ref 239])) rfl ?_
        refine e_ias (n := 20001) (k := v3.toNatClampNeg) rfl lc_239 ln_239 h2 rfl ?_
        refine e_nS fun s6 => ?_
        refine e_L 1 (f' := (92, [(4, .int (1 : Int32)), (0, .ref 151), (1, .int v1), (2, .int v2), (3, .int v3)], [.ref 151])) rfl ?_
        refine e_gR (q := 240) 12 139 rfl rfl lc_151 lr_151_139 ?_
        refine e_L 2 (f' := (97, [(4, .int (1 : Int32)), (0, .ref 151), (1, .int v1), (2, .int v2), (3, .int v3)], [.int v1, .int v3, .ref 240])) rfl ?_
        refine e_ias (n := 20001) (k := v3.toNatClampNeg) rfl lc_240 ln_240 h2 rfl ?_
        refine e_nS fun s7 => ?_
        refine e_L 2 (f' := (102, [(1, .int (v1 + (1 : Int32))), (4, .int (1 : Int32)), (0, .ref 151), (2, .int v2), (3, .int v3)], [.ref 151])) rfl ?_
        refine e_gR (q := 241) 12 140 rfl rfl lc_151 lr_151_140 ?_
        refine e_L 2 (f' := (107, [(1, .int (v1 + (1 : Int32))), (4, .int (1 : Int32)), (0, .ref 151), (2, .int v2), (3, .int v3)], [.ref 151, .int v3, .ref 241])) rfl ?_
        refine e_gR (q := 218) 12 112 rfl rfl lc_151 lr_151_112 ?_
        refine e_L 1 (f' := (111, [(1, .int (v1 + (1 : Int32))), (4, .int (1 : Int32)), (0, .ref 151), (2, .int v2), (3, .int v3)], [.int v3, .ref 218, .int v3, .ref 241])) rfl ?_
        refine qle_gd fun h8 => ?_
        refine e_ial (n := 20002) (k := v3.toNatClampNeg) rfl lc_218 ln_218 h8 rfl ?_
        refine e_ias (n := 20001) (k := v3.toNatClampNeg) rfl lc_241 ln_241 h2 rfl ?_
        refine e_nS fun s9 => ?_
        refine e_L 1 (f' := (114, [(1, .int (v1 + (1 : Int32))), (4, .int (1 : Int32)), (0, .ref 151), (2, .int v2), (3, .int v3)], [.ref 151])) rfl ?_
        refine e_gR (q := 243) 12 142 rfl rfl lc_151 lr_151_142 ?_
        refine e_L 2 (f' := (119, [(1, .int (v1 + (1 : Int32))), (4, .int (1 : Int32)), (0, .ref 151), (2, .int v2), (3, .int v3)], [.int v3, .int v2, .ref 243])) rfl ?_
        refine qle_gd fun h10 => ?_
        refine e_ias (n := 20001) (k := v2.toNatClampNeg) rfl lc_243 ln_243 h10 rfl ?_
        refine e_nS fun s11 => ?_
        refine e_L 1 (f' := (123, [(2, .int (v2 + (1 : Int32))), (1, .int (v1 + (1 : Int32))), (4, .int (1 : Int32)), (0, .ref 151), (3, .int v3)], [])) rfl ?_
        exact qE_sub (qsubL [3, 1, 0, 4, 2] rfl (ks := [2, 1, 4, 0, 3]) rfl (by decide))
      · refine e_L 3 (f' := (43, [(3, .int (v3 + (1 : Int32))), (0, .ref 151), (1, .int v1), (2, .int v2)], [])) rfl ?_
        exact qE_sub (qsubL [1, 2, 3, 0] rfl (ks := [3, 0, 1, 2]) rfl (by decide))
set_option maxRecDepth 100000 in
set_option maxHeartbeats 4000000 in
theorem le_X12_layParts_123 (en : pN) (d : Nat) (v1 : Int32) (v2 : Int32) (v3 : Int32) (v4 : Int32) (s : qS) : qle (if v4 ≤ (0 : Int32) then L_X12_layParts_43 en d v1 v2 (v3 + (1 : Int32)) s else gd (p_inB (v4 - (1 : Int32)) 20001 = true) (nm (s.1 242 (v4 - (1 : Int32)).toNatClampNeg) (fun z3 => gd (p_inB z3 20001 = true) (gd (p_inB (z3 + (1 : Int32)) 20002 = true) (if (s.1 218 (z3 + (1 : Int32)).toNatClampNeg) ≤ (s.1 241 z3.toNatClampNeg) then if (v4 + (-1 : Int32)) ≤ (0 : Int32) then L_X12_layParts_390 en d v1 v2 v3 (v4 + (-1 : Int32)) z3 s else gd (p_inB ((v4 + (-1 : Int32)) - (1 : Int32)) 20001 = true) (nm (s.1 242 ((v4 + (-1 : Int32)) - (1 : Int32)).toNatClampNeg) (fun z9 => gd (p_inB z9 20001 = true) (if (s.1 240 z9.toNatClampNeg) ≤ (s.1 240 z3.toNatClampNeg) then L_X12_layParts_389 en d v1 v2 v3 (v4 + (-1 : Int32)) z3 z9 (s.1 240 z9.toNatClampNeg) s else L_X12_layParts_389 en d v1 v2 v3 (v4 + (-1 : Int32)) z3 z9 (s.1 240 z3.toNatClampNeg) s))) else gd (p_inB (s.1 241 z3.toNatClampNeg) 200001 = true) (nm (s.1 219 (s.1 241 z3.toNatClampNeg).toNatClampNeg) (fun z13 => nm (uI s 241 (z3.toNatClampNeg) ((s.1 241 z3.toNatClampNeg) + (1 : Int32))) (fun s14 => gd (p_inB z13 20001 = true) (if ¬ (s14.1 233 z13.toNatClampNeg) = (0 : Int32) then L_X12_layParts_264 en d v1 v2 v3 v4 z3 z13 s14 else if ¬ (s14.1 239 z13.toNatClampNeg) = (-2 : Int32) then L_X12_layParts_264 en d v1 v2 v3 v4 z3 z13 s14 else nm (uI s14 239 (z13.toNatClampNeg) v1) (fun s18 => nm (uI s18 240 (z13.toNatClampNeg) v1) (fun s19 => gd (p_inB z13 20002 = true) (nm (uI s19 241 (z13.toNatClampNeg) (s19.1 218 z13.toNatClampNeg)) (fun s21 => gd (p_inB v2 20001 = true) (nm (uI s21 243 (v2.toNatClampNeg) z13) (fun s23 => gd (p_inB v4 20001 = true) (nm (uI s23 242 (v4.toNatClampNeg) z13) (fun s25 => L_X12_layParts_123 en d (v1 + (1 : Int32)) (v2 + (1 : Int32)) v3 (v4 + (1 : Int32)) s25))))))))))))))))) (L_X12_layParts_123 en d v1 v2 v3 v4 s) := by
  show qle _ (qE (qev en d) en none tb_X12_layParts (123, [(0, .ref 151), (1, .int v1), (2, .int v2), (3, .int v3), (4, .int v4)], []) s)
  refine e_L 1 (f' := (125, [(0, .ref 151), (1, .int v1), (2, .int v2), (3, .int v3), (4, .int v4)], [.int v4])) rfl ?_
  refine e_ifz 486 rfl rfl rfl (fun c1 => ?_) (fun c1 => ?_)
  · refine e_L 2 (f' := (43, [(3, .int (v3 + (1 : Int32))), (0, .ref 151), (1, .int v1), (2, .int v2), (4, .int v4)], [])) rfl ?_
    exact qE_sub (qsubL [1, 2, 3, 0] rfl (ks := [3, 0, 1, 2, 4]) rfl (by decide))
  · refine e_L 1 (f' := (129, [(0, .ref 151), (1, .int v1), (2, .int v2), (3, .int v3), (4, .int v4)], [.ref 151])) rfl ?_
    refine e_gR (q := 242) 12 141 rfl rfl lc_151 lr_151_141 ?_
    refine e_L 3 (f' := (136, [(0, .ref 151), (1, .int v1), (2, .int v2), (3, .int v3), (4, .int v4)], [.int (v4 - (1 : Int32)), .ref 242])) rfl ?_
    refine qle_gd fun h2 => ?_
    refine e_ial (n := 20001) (k := (v4 - (1 : Int32)).toNatClampNeg) rfl lc_242 ln_242 h2 rfl ?_
    refine e_nI fun z3 => ?_
    refine e_L 2 (f' := (140, [(5, .int z3), (0, .ref 151), (1, .int v1), (2, .int v2), (3, .int v3), (4, .int v4)], [.ref 151])) rfl ?_
    refine e_gR (q := 241) 12 140 rfl rfl lc_151 lr_151_140 ?_
    refine e_L 1 (f' := (145, [(5, .int z3), (0, .ref 151), (1, .int v1), (2, .int v2), (3, .int v3), (4, .int v4)], [.int z3, .ref 241])) rfl ?_
    refine qle_gd fun h4 => ?_
    refine e_ial (n := 20001) (k := z3.toNatClampNeg) rfl lc_241 ln_241 h4 rfl ?_
    refine e_L 1 (f' := (147, [(5, .int z3), (0, .ref 151), (1, .int v1), (2, .int v2), (3, .int v3), (4, .int v4)], [.ref 151, .int (s.1 241 z3.toNatClampNeg)])) rfl ?_
    refine e_gR (q := 218) 12 112 rfl rfl lc_151 lr_151_112 ?_
    refine e_L 3 (f' := (154, [(5, .int z3), (0, .ref 151), (1, .int v1), (2, .int v2), (3, .int v3), (4, .int v4)], [.int (z3 + (1 : Int32)), .ref 218, .int (s.1 241 z3.toNatClampNeg)])) rfl ?_
    refine qle_gd fun h5 => ?_
    refine e_ial (n := 20002) (k := (z3 + (1 : Int32)).toNatClampNeg) rfl lc_218 ln_218 h5 rfl ?_
    refine e_icmp 330 rfl rfl rfl (fun c6 => ?_) (fun c6 => ?_)
    · refine e_L 2 (f' := (335, [(4, .int (v4 + (-1 : Int32))), (5, .int z3), (0, .ref 151), (1, .int v1), (2, .int v2), (3, .int v3)], [.int (v4 + (-1 : Int32))])) rfl ?_
      refine e_ifz 390 rfl rfl rfl (fun c7 => ?_) (fun c7 => ?_)
      · exact qE_sub (qsubL [2, 3, 4, 5, 0, 1] rfl (ks := [4, 5, 0, 1, 2, 3]) rfl (by decide))
      · refine e_L 1 (f' := (339, [(4, .int (v4 + (-1 : Int32))), (5, .int z3), (0, .ref 151), (1, .int v1), (2, .int v2), (3, .int v3)], [.ref 151])) rfl ?_
        refine e_gR (q := 242) 12 141 rfl rfl lc_151 lr_151_141 ?_
        refine e_L 3 (f' := (346, [(4, .int (v4 + (-1 : Int32))), (5, .int z3), (0, .ref 151), (1, .int v1), (2, .int v2), (3, .int v3)], [.int ((v4 + (-1 : Int32)) - (1 : Int32)), .ref 242])) rfl ?_
        refine qle_gd fun h8 => ?_
        refine e_ial (n := 20001) (k := ((v4 + (-1 : Int32)) - (1 : Int32)).toNatClampNeg) rfl lc_242 ln_242 h8 rfl ?_
        refine e_nI fun z9 => ?_
        refine e_L 2 (f' := (350, [(6, .int z9), (4, .int (v4 + (-1 : Int32))), (5, .int z3), (0, .ref 151), (1, .int v1), (2, .int v2), (3, .int v3)], [.ref 151])) rfl ?_
        refine e_gR (q := 240) 12 139 rfl rfl lc_151 lr_151_139 ?_
        refine e_L 2 (f' := (356, [(6, .int z9), (4, .int (v4 + (-1 : Int32))), (5, .int z3), (0, .ref 151), (1, .int v1), (2, .int v2), (3, .int v3)], [.ref 151, .int z9, .ref 240])) rfl ?_
        refine e_gR (q := 240) 12 139 rfl rfl lc_151 lr_151_139 ?_
        refine e_L 1 (f' := (361, [(6, .int z9), (4, .int (v4 + (-1 : Int32))), (5, .int z3), (0, .ref 151), (1, .int v1), (2, .int v2), (3, .int v3)], [.int z3, .ref 240, .int z9, .ref 240])) rfl ?_
        refine e_ial (n := 20001) (k := z3.toNatClampNeg) rfl lc_240 ln_240 h4 rfl ?_
        refine e_L 1 (f' := (363, [(6, .int z9), (4, .int (v4 + (-1 : Int32))), (5, .int z3), (0, .ref 151), (1, .int v1), (2, .int v2), (3, .int v3)], [.ref 151, .int (s.1 240 z3.toNatClampNeg), .int z9, .ref 240])) rfl ?_
        refine e_gR (q := 240) 12 139 rfl rfl lc_151 lr_151_139 ?_
        refine e_L 1 (f' := (368, [(6, .int z9), (4, .int (v4 + (-1 : Int32))), (5, .int z3), (0, .ref 151), (1, .int v1), (2, .int v2), (3, .int v3)], [.int z9, .ref 240, .int (s.1 240 z3.toNatClampNeg), .int z9, .ref 240])) rfl ?_
        refine qle_gd fun h10 => ?_
        refine e_ial (n := 20001) (k := z9.toNatClampNeg) rfl lc_240 ln_240 h10 rfl ?_
        refine e_icmp 382 rfl rfl rfl (fun c11 => ?_) (fun c11 => ?_)
        · refine e_L 1 (f' := (383, [(6, .int z9), (4, .int (v4 + (-1 : Int32))), (5, .int z3), (0, .ref 151), (1, .int v1), (2, .int v2), (3, .int v3)], [.ref 151, .int z9, .ref 240])) rfl ?_
          refine e_gR (q := 240) 12 139 rfl rfl lc_151 lr_151_139 ?_
          refine e_L 1 (f' := (388, [(6, .int z9), (4, .int (v4 + (-1 : Int32))), (5, .int z3), (0, .ref 151), (1, .int v1), (2, .int v2), (3, .int v3)], [.int z9, .ref 240, .int z9, .ref 240])) rfl ?_
          refine e_ial (n := 20001) (k := z9.toNatClampNeg) rfl lc_240 ln_240 h10 rfl ?_
          exact qE_sub (qsubL [3, 4, 5, 6, 1, 2] rfl (ks := [6, 4, 5, 0, 1, 2, 3]) rfl (by decide))
        · refine e_L 1 (f' := (373, [(6, .int z9), (4, .int (v4 + (-1 : Int32))), (5, .int z3), (0, .ref 151), (1, .int v1), (2, .int v2), (3, .int v3)], [.ref 151, .int z9, .ref 240])) rfl ?_
          refine e_gR (q := 240) 12 139 rfl rfl lc_151 lr_151_139 ?_
          refine e_L 1 (f' := (378, [(6, .int z9), (4, .int (v4 + (-1 : Int32))), (5, .int z3), (0, .ref 151), (1, .int v1), (2, .int v2), (3, .int v3)], [.int z3, .ref 240, .int z9, .ref 240])) rfl ?_
          refine e_ial (n := 20001) (k := z3.toNatClampNeg) rfl lc_240 ln_240 h4 rfl ?_
          refine e_L 1 (f' := (389, [(6, .int z9), (4, .int (v4 + (-1 : Int32))), (5, .int z3), (0, .ref 151), (1, .int v1), (2, .int v2), (3, .int v3)], [.int (s.1 240 z3.toNatClampNeg), .int z9, .ref 240])) rfl ?_
          exact qE_sub (qsubL [3, 4, 5, 6, 1, 2] rfl (ks := [6, 4, 5, 0, 1, 2, 3]) rfl (by decide))
    · refine e_L 1 (f' := (159, [(5, .int z3), (0, .ref 151), (1, .int v1), (2, .int v2), (3, .int v3), (4, .int v4)], [.ref 151])) rfl ?_
      refine e_gR (q := 219) 12 113 rfl rfl lc_151 lr_151_113 ?_
      refine e_L 1 (f' := (163, [(5, .int z3), (0, .ref 151), (1, .int v1), (2, .int v2), (3, .int v3), (4, .int v4)], [.ref 151, .ref 219])) rfl ?_
      refine e_gR (q := 241) 12 140 rfl rfl lc_151 lr_151_140 ?_
      refine e_L 1 (f' := (168, [(5, .int z3), (0, .ref 151), (1, .int v1), (2, .int v2), (3, .int v3), (4, .int v4)], [.int z3, .ref 241, .ref 219])) rfl ?_
      refine e_ial (n := 20001) (k := z3.toNatClampNeg) rfl lc_241 ln_241 h4 rfl ?_
      refine qle_gd fun h12 => ?_
      refine e_ial (n := 200001) (k := (s.1 241 z3.toNatClampNeg).toNatClampNeg) rfl lc_219 ln_219 h12 rfl ?_
      refine e_nI fun z13 => ?_
      refine e_L 2 (f' := (173, [(6, .int z13), (5, .int z3), (0, .ref 151), (1, .int v1), (2, .int v2), (3, .int v3), (4, .int v4)], [.ref 151])) rfl ?_
      refine e_gR (q := 241) 12 140 rfl rfl lc_151 lr_151_140 ?_
      refine e_L 2 (f' := (179, [(6, .int z13), (5, .int z3), (0, .ref 151), (1, .int v1), (2, .int v2), (3, .int v3), (4, .int v4)], [.int z3, .ref 241, .int z3, .ref 241])) rfl ?_
      refine e_ial (n := 20001) (k := z3.toNatClampNeg) rfl lc_241 ln_241 h4 rfl ?_
      refine e_L 2 (f' := (182, [(6, .int z13), (5, .int z3), (0, .ref 151), (1, .int v1), (2, .int v2), (3, .int v3), (4, .int v4)], [.int ((s.1 241 z3.toNatClampNeg) + (1 : Int32)), .int z3, .ref 241])) rfl ?_
      refine e_ias (n := 20001) (k := z3.toNatClampNeg) rfl lc_241 ln_241 h4 rfl ?_
      refine e_nS fun s14 => ?_
      refine e_L 1 (f' := (184, [(6, .int z13), (5, .int z3), (0, .ref 151), (1, .int v1), (2, .int v2), (3, .int v3), (4, .int v4)], [.ref 151])) rfl ?_
      refine e_gR (q := 233) 12 132 rfl rfl lc_151 lr_151_132 ?_
      refine e_L 1 (f' := (189, [(6, .int z13), (5, .int z3), (0, .ref 151), (1, .int v1), (2, .int v2), (3, .int v3), (4, .int v4)], [.int z13, .ref 233])) rfl ?_
      refine qle_gd fun h15 => ?_
      refine e_bal (n := 20001) (k := z13.toNatClampNeg) rfl (Or.inl lc_233) ln_233 h15 rfl ?_
      refine e_ifz 264 rfl rfl rfl (fun c16 => ?_) (fun c16 => ?_)
      · exact qE_sub (qsubL [2, 3, 4, 5, 6, 1, 0] rfl (ks := [6, 5, 0, 1, 2, 3, 4]) rfl (by decide))
      · refine e_L 1 (f' := (194, [(6, .int z13), (5, .int z3), (0, .ref 151), (1, .int v1), (2, .int v2), (3, .int v3), (4, .int v4)], [.ref 151])) rfl ?_
        refine e_gR (q := 239) 12 138 rfl rfl lc_151 lr_151_138 ?_
        refine e_L 1 (f' := (199, [(6, .int z13), (5, .int z3), (0, .ref 151), (1, .int v1), (2, .int v2), (3, .int v3), (4, .int v4)], [.int z13, .ref 239])) rfl ?_
        refine e_ial (n := 20001) (k := z13.toNatClampNeg) rfl lc_239 ln_239 h15 rfl ?_
        refine e_L 1 (f' := (202, [(6, .int z13), (5, .int z3), (0, .ref 151), (1, .int v1), (2, .int v2), (3, .int v3), (4, .int v4)], [.int (-2 : Int32), .int (s14.1 239 z13.toNatClampNeg)])) rfl ?_
        refine e_icmp 264 rfl rfl rfl (fun c17 => ?_) (fun c17 => ?_)
        · exact qE_sub (qsubL [2, 3, 4, 5, 6, 1, 0] rfl (ks := [6, 5, 0, 1, 2, 3, 4]) rfl (by decide))
        · refine e_L 1 (f' := (206, [(6, .int z13), (5, .int z3), (0, .ref 151), (1, .int v1), (2, .int v2), (3, .int v3), (4, .int v4)], [.ref 151])) rfl ?_
          refine e_gR (q := 239) 12 138 rfl rfl lc_151 lr_151_138 ?_
          refine e_L 2 (f' := (212, [(6, .int z13), (5, .int z3), (0, .ref 151), (1, .int v1), (2, .int v2), (3, .int v3), (4, .int v4)], [.int v1, .int z13, .ref 239])) rfl ?_
          refine e_ias (n := 20001) (k := z13.toNatClampNeg) rfl lc_239 ln_239 h15 rfl ?_
          refine e_nS fun s18 => ?_
          refine e_L 1 (f' := (214, [(6, .int z13), (5, .int z3), (0, .ref 151), (1, .int v1), (2, .int v2), (3, .int v3), (4, .int v4)], [.ref 151])) rfl ?_
          refine e_gR (q := 240) 12 139 rfl rfl lc_151 lr_151_139 ?_
          refine e_L 2 (f' := (220, [(6, .int z13), (5, .int z3), (0, .ref 151), (1, .int v1), (2, .int v2), (3, .int v3), (4, .int v4)], [.int v1, .int z13, .ref 240])) rfl ?_
          refine e_ias (n := 20001) (k := z13.toNatClampNeg) rfl lc_240 ln_240 h15 rfl ?_
          refine e_nS fun s19 => ?_
          refine e_L 2 (f' := (225, [(1, .int (v1 + (1 : Int32))), (6, .int z13), (5, .int z3), (0, .ref 151), (2, .int v2), (3, .int v3), (4, .int v4)], [.ref 151])) rfl ?_
          refine e_gR (q := 241) 12 140 rfl rfl lc_151 lr_151_140 ?_
          refine e_L 2 (f' := (231, [(1, .int (v1 + (1 : Int32))), (6, .int z13), (5, .int z3), (0, .ref 151), (2, .int v2), (3, .int v3), (4, .int v4)], [.ref 151, .int z13, .ref 241])) rfl ?_
          refine e_gR (q := 218) 12 112 rfl rfl lc_151 lr_151_112 ?_
          refine e_L 1 (f' := (236, [(1, .int (v1 + (1 : Int32))), (6, .int z13), (5, .int z3), (0, .ref 151), (2, .int v2), (3, .int v3), (4, .int v4)], [.int z13, .ref 218, .int z13, .ref 241])) rfl ?_
          refine qle_gd fun h20 => ?_
          refine e_ial (n := 20002) (k := z13.toNatClampNeg) rfl lc_218 ln_218 h20 rfl ?_
          refine e_ias (n := 20001) (k := z13.toNatClampNeg) rfl lc_241 ln_241 h15 rfl ?_
          refine e_nS fun s21 => ?_
          refine e_L 1 (f' := (239, [(1, .int (v1 + (1 : Int32))), (6, .int z13), (5, .int z3), (0, .ref 151), (2, .int v2), (3, .int v3), (4, .int v4)], [.ref 151])) rfl ?_
          refine e_gR (q := 243) 12 142 rfl rfl lc_151 lr_151_142 ?_
          refine e_L 2 (f' := (245, [(1, .int (v1 + (1 : Int32))), (6, .int z13), (5, .int z3), (0, .ref 151), (2, .int v2), (3, .int v3), (4, .int v4)], [.int z13, .int v2, .ref 243])) rfl ?_
          refine qle_gd fun h22 => ?_
          refine e_ias (n := 20001) (k := v2.toNatClampNeg) rfl lc_243 ln_243 h22 rfl ?_
          refine e_nS fun s23 => ?_
          refine e_L 2 (f' := (250, [(2, .int (v2 + (1 : Int32))), (1, .int (v1 + (1 : Int32))), (6, .int z13), (5, .int z3), (0, .ref 151), (3, .int v3), (4, .int v4)], [.ref 151])) rfl ?_
          refine e_gR (q := 242) 12 141 rfl rfl lc_151 lr_151_141 ?_
          refine e_L 2 (f' := (257, [(2, .int (v2 + (1 : Int32))), (1, .int (v1 + (1 : Int32))), (6, .int z13), (5, .int z3), (0, .ref 151), (3, .int v3), (4, .int v4)], [.int z13, .int v4, .ref 242])) rfl ?_
          refine qle_gd fun h24 => ?_
          refine e_ias (n := 20001) (k := v4.toNatClampNeg) rfl lc_242 ln_242 h24 rfl ?_
          refine e_nS fun s25 => ?_
          refine e_L 4 (f' := (123, [(4, .int (v4 + (1 : Int32))), (2, .int (v2 + (1 : Int32))), (1, .int (v1 + (1 : Int32))), (6, .int z13), (5, .int z3), (0, .ref 151), (3, .int v3)], [])) rfl ?_
          exact qE_sub (qsubL [5, 2, 1, 6, 0] rfl (ks := [4, 2, 1, 6, 5, 0, 3]) rfl (by decide))
set_option maxRecDepth 100000 in
set_option maxHeartbeats 4000000 in
theorem le_X12_layParts_264 (en : pN) (d : Nat) (v1 : Int32) (v2 : Int32) (v3 : Int32) (v4 : Int32) (v5 : Int32) (v6 : Int32) (s : qS) : qle (gd (p_inB v6 20001 = true) (if ¬ (s.1 233 v6.toNatClampNeg) = (0 : Int32) then L_X12_layParts_123 en d v1 v2 v3 v4 s else if ¬ (s.1 238 v6.toNatClampNeg) = (-2 : Int32) then L_X12_layParts_123 en d v1 v2 v3 v4 s else gd (p_inB v5 20001 = true) (if (s.1 240 v5.toNatClampNeg) ≤ (s.1 239 v6.toNatClampNeg) then L_X12_layParts_326 en d v1 v2 v3 v4 v5 (s.1 240 v5.toNatClampNeg) s else L_X12_layParts_326 en d v1 v2 v3 v4 v5 (s.1 239 v6.toNatClampNeg) s))) (L_X12_layParts_264 en d v1 v2 v3 v4 v5 v6 s) := by
  show qle _ (qE (qev en d) en none tb_X12_layParts (264, [(0, .ref 151), (1, .int v1), (2, .int v2), (3, .int v3), (4, .int v4), (5, .int v5), (6, .int v6)], []) s)
  refine e_L 1 (f' := (265, [(0, .ref 151), (1, .int v1), (2, .int v2), (3, .int v3), (4, .int v4), (5, .int v5), (6, .int v6)], [.ref 151])) rfl ?_
  refine e_gR (q := 233) 12 132 rfl rfl lc_151 lr_151_132 ?_
  refine e_L 1 (f' := (270, [(0, .ref 151), (1, .int v1), (2, .int v2), (3, .int v3), (4, .int v4), (5, .int v5), (6, .int v6)], [.int v6, .ref 233])) rfl ?_
  refine qle_gd fun h1 => ?_
  refine e_bal (n := 20001) (k := v6.toNatClampNeg) rfl (Or.inl lc_233) ln_233 h1 rfl ?_
  refine e_ifz 327 rfl rfl rfl (fun c2 => ?_) (fun c2 => ?_)
  · refine e_L 2 (f' := (123, [(0, .ref 151), (1, .int v1), (2, .int v2), (3, .int v3), (4, .int v4), (5, .int v5), (6, .int v6)], [])) rfl ?_
    exact qE_sub (qsubL [0, 1, 2, 3, 4] rfl (ks := [0, 1, 2, 3, 4, 5, 6]) rfl (by decide))
  · refine e_L 1 (f' := (275, [(0, .ref 151), (1, .int v1), (2, .int v2), (3, .int v3), (4, .int v4), (5, .int v5), (6, .int v6)], [.ref 151])) rfl ?_
    refine e_gR (q := 238) 12 137 rfl rfl lc_151 lr_151_137 ?_
    refine e_L 1 (f' := (280, [(0, .ref 151), (1, .int v1), (2, .int v2), (3, .int v3), (4, .int v4), (5, .int v5), (6, .int v6)], [.int v6, .ref 238])) rfl ?_
    refine e_ial (n := 20001) (k := v6.toNatClampNeg) rfl lc_238 ln_238 h1 rfl ?_
    refine e_L 1 (f' := (283, [(0, .ref 151), (1, .int v1), (2, .int v2), (3, .int v3), (4, .int v4), (5, .int v5), (6, .int v6)], [.int (-2 : Int32), .int (s.1 238 v6.toNatClampNeg)])) rfl ?_
    refine e_icmp 327 rfl rfl rfl (fun c3 => ?_) (fun c3 => ?_)
    · refine e_L 2 (f' := (123, [(0, .ref 151), (1, .int v1), (2, .int v2), (3, .int v3), (4, .int v4), (5, .int v5), (6, .int v6)], [])) rfl ?_
      exact qE_sub (qsubL [0, 1, 2, 3, 4] rfl (ks := [0, 1, 2, 3, 4, 5, 6]) rfl (by decide))
    · refine e_L 1 (f' := (287, [(0, .ref 151), (1, .int v1), (2, .int v2), (3, .int v3), (4, .int v4), (5, .int v5), (6, .int v6)], [.ref 151])) rfl ?_
      refine e_gR (q := 240) 12 139 rfl rfl lc_151 lr_151_139 ?_
      refine e_L 2 (f' := (293, [(0, .ref 151), (1, .int v1), (2, .int v2), (3, .int v3), (4, .int v4), (5, .int v5), (6, .int v6)], [.ref 151, .int v5, .ref 240])) rfl ?_
      refine e_gR (q := 239) 12 138 rfl rfl lc_151 lr_151_138 ?_
      refine e_L 1 (f' := (298, [(0, .ref 151), (1, .int v1), (2, .int v2), (3, .int v3), (4, .int v4), (5, .int v5), (6, .int v6)], [.int v6, .ref 239, .int v5, .ref 240])) rfl ?_
      refine e_ial (n := 20001) (k := v6.toNatClampNeg) rfl lc_239 ln_239 h1 rfl ?_
      refine e_L 1 (f' := (300, [(0, .ref 151), (1, .int v1), (2, .int v2), (3, .int v3), (4, .int v4), (5, .int v5), (6, .int v6)], [.ref 151, .int (s.1 239 v6.toNatClampNeg), .int v5, .ref 240])) rfl ?_
      refine e_gR (q := 240) 12 139 rfl rfl lc_151 lr_151_139 ?_
      refine e_L 1 (f' := (305, [(0, .ref 151), (1, .int v1), (2, .int v2), (3, .int v3), (4, .int v4), (5, .int v5), (6, .int v6)], [.int v5, .ref 240, .int (s.1 239 v6.toNatClampNeg), .int v5, .ref 240])) rfl ?_
      refine qle_gd fun h4 => ?_
      refine e_ial (n := 20001) (k := v5.toNatClampNeg) rfl lc_240 ln_240 h4 rfl ?_
      refine e_icmp 319 rfl rfl rfl (fun c5 => ?_) (fun c5 => ?_)
      · refine e_L 1 (f' := (320, [(0, .ref 151), (1, .int v1), (2, .int v2), (3, .int v3), (4, .int v4), (5, .int v5), (6, .int v6)], [.ref 151, .int v5, .ref 240])) rfl ?_
        refine e_gR (q := 240) 12 139 rfl rfl lc_151 lr_151_139 ?_
        refine e_L 1 (f' := (325, [(0, .ref 151), (1, .int v1), (2, .int v2), (3, .int v3), (4, .int v4), (5, .int v5), (6, .int v6)], [.int v5, .ref 240, .int v5, .ref 240])) rfl ?_
        refine e_ial (n := 20001) (k := v5.toNatClampNeg) rfl lc_240 ln_240 h4 rfl ?_
        exact qE_sub (qsubL [0, 1, 2, 3, 4] rfl (ks := [0, 1, 2, 3, 4, 5, 6]) rfl (by decide))
      · refine e_L 1 (f' := (310, [(0, .ref 151), (1, .int v1), (2, .int v2), (3, .int v3), (4, .int v4), (5, .int v5), (6, .int v6)], [.ref 151, .int v5, .ref 240])) rfl ?_
        refine e_gR (q := 239) 12 138 rfl rfl lc_151 lr_151_138 ?_
        refine e_L 1 (f' := (315, [(0, .ref 151), (1, .int v1), (2, .int v2), (3, .int v3), (4, .int v4), (5, .int v5), (6, .int v6)], [.int v6, .ref 239, .int v5, .ref 240])) rfl ?_
        refine e_ial (n := 20001) (k := v6.toNatClampNeg) rfl lc_239 ln_239 h1 rfl ?_
        refine e_L 1 (f' := (326, [(0, .ref 151), (1, .int v1), (2, .int v2), (3, .int v3), (4, .int v4), (5, .int v5), (6, .int v6)], [.int (s.1 239 v6.toNatClampNeg), .int v5, .ref 240])) rfl ?_
        exact qE_sub (qsubL [0, 1, 2, 3, 4] rfl (ks := [0, 1, 2, 3, 4, 5, 6]) rfl (by decide))
set_option maxRecDepth 100000 in
set_option maxHeartbeats 4000000 in
theorem le_X12_layParts_326 (en : pN) (d : Nat) (v1 : Int32) (v2 : Int32) (v3 : Int32) (v4 : Int32) (vs1 : Int32) (vs2 : Int32) (s : qS) : qle (gd (p_inB vs1 20001 = true) (nm (uI s 240 (vs1.toNatClampNeg) vs2) (fun s2 => L_X12_layParts_123 en d v1 v2 v3 v4 s2))) (L_X12_layParts_326 en d v1 v2 v3 v4 vs1 vs2 s) := by
  show qle _ (qE (qev en d) en none tb_X12_layParts (326, [(0, .ref 151), (1, .int v1), (2, .int v2), (3, .int v3), (4, .int v4)], [.int vs2, .int vs1, .ref 240]) s)
  refine qle_gd fun h1 => ?_
  refine e_ias (n := 20001) (k := vs1.toNatClampNeg) rfl lc_240 ln_240 h1 rfl ?_
  refine e_nS fun s2 => ?_
  refine e_L 2 (f' := (123, [(0, .ref 151), (1, .int v1), (2, .int v2), (3, .int v3), (4, .int v4)], [])) rfl ?_
  exact qE_sub (qsubL [0, 1, 2, 3, 4] rfl (ks := [0, 1, 2, 3, 4]) rfl (by decide))
set_option maxRecDepth 100000 in
set_option maxHeartbeats 4000000 in
theorem le_X12_layParts_389 (en : pN) (d : Nat) (v1 : Int32) (v2 : Int32) (v3 : Int32) (v4 : Int32) (v5 : Int32) (vs1 : Int32) (vs2 : Int32) (s : qS) : qle (gd (p_inB vs1 20001 = true) (nm (uI s 240 (vs1.toNatClampNeg) vs2) (fun s2 => L_X12_layParts_390 en d v1 v2 v3 v4 v5 s2))) (L_X12_layParts_389 en d v1 v2 v3 v4 v5 vs1 vs2 s) := by
  show qle _ (qE (qev en d) en none tb_X12_layParts (389, [(0, .ref 151), (1, .int v1), (2, .int v2), (3, .int v3), (4, .int v4), (5, .int v5)], [.int vs2, .int vs1, .ref 240]) s)
  refine qle_gd fun h1 => ?_
  refine e_ias (n := 20001) (k := vs1.toNatClampNeg) rfl lc_240 ln_240 h1 rfl ?_
  refine e_nS fun s2 => ?_
  exact qE_sub (qsubL [0, 1, 2, 3, 4, 5] rfl (ks := [0, 1, 2, 3, 4, 5]) rfl (by decide))
set_option maxRecDepth 100000 in
set_option maxHeartbeats 4000000 in
theorem le_X12_layParts_390 (en : pN) (d : Nat) (v1 : Int32) (v2 : Int32) (v3 : Int32) (v4 : Int32) (v5 : Int32) (s : qS) : qle (gd (p_inB v5 20001 = true) (if ¬ (s.1 240 v5.toNatClampNeg) = (s.1 239 v5.toNatClampNeg) then L_X12_layParts_123 en d v1 v2 v3 v4 s else L_X12_layParts_411 en d v1 v2 v3 v4 v5 (-2 : Int32) s)) (L_X12_layParts_390 en d v1 v2 v3 v4 v5 s) := by
  show qle _ (qE (qev en d) en none tb_X12_layParts (390, [(0, .ref 151), (1, .int v1), (2, .int v2), (3, .int v3), (4, .int v4), (5, .int v5)], []) s)
  refine e_L 1 (f' := (391, [(0, .ref 151), (1, .int v1), (2, .int v2), (3, .int v3), (4, .int v4), (5, .int v5)], [.ref 151])) rfl ?_
  refine e_gR (q := 240) 12 139 rfl rfl lc_151 lr_151_139 ?_
  refine e_L 1 (f' := (396, [(0, .ref 151), (1, .int v1), (2, .int v2), (3, .int v3), (4, .int v4), (5, .int v5)], [.int v5, .ref 240])) rfl ?_
  refine qle_gd fun h1 => ?_
  refine e_ial (n := 20001) (k := v5.toNatClampNeg) rfl lc_240 ln_240 h1 rfl ?_
  refine e_L 1 (f' := (398, [(0, .ref 151), (1, .int v1), (2, .int v2), (3, .int v3), (4, .int v4), (5, .int v5)], [.ref 151, .int (s.1 240 v5.toNatClampNeg)])) rfl ?_
  refine e_gR (q := 239) 12 138 rfl rfl lc_151 lr_151_138 ?_
  refine e_L 1 (f' := (403, [(0, .ref 151), (1, .int v1), (2, .int v2), (3, .int v3), (4, .int v4), (5, .int v5)], [.int v5, .ref 239, .int (s.1 240 v5.toNatClampNeg)])) rfl ?_
  refine e_ial (n := 20001) (k := v5.toNatClampNeg) rfl lc_239 ln_239 h1 rfl ?_
  refine e_icmp 483 rfl rfl rfl (fun c2 => ?_) (fun c2 => ?_)
  · refine e_L 1 (f' := (123, [(0, .ref 151), (1, .int v1), (2, .int v2), (3, .int v3), (4, .int v4), (5, .int v5)], [])) rfl ?_
    exact qE_sub (qsubL [0, 1, 2, 3, 4] rfl (ks := [0, 1, 2, 3, 4, 5]) rfl (by decide))
  · refine e_L 2 (f' := (411, [(6, .int (-2 : Int32)), (0, .ref 151), (1, .int v1), (2, .int v2), (3, .int v3), (4, .int v4), (5, .int v5)], [])) rfl ?_
    exact qE_sub (qsubL [1, 2, 3, 4, 5, 6, 0] rfl (ks := [6, 0, 1, 2, 3, 4, 5]) rfl (by decide))
set_option maxRecDepth 100000 in
set_option maxHeartbeats 4000000 in
theorem le_X12_layParts_411 (en : pN) (d : Nat) (v1 : Int32) (v2 : Int32) (v3 : Int32) (v4 : Int32) (v5 : Int32) (v6 : Int32) (s : qS) : qle (if v6 = v5 then gd (p_inB (s.1 151 143) 20001 = true) (nm (uI s 244 ((s.1 151 143).toNatClampNeg) (vp_nar .boolean (0 : Int32))) (fun s3 => gd (p_inB (s3.1 151 143) 20001 = true) (nm (uI s3 245 ((s3.1 151 143).toNatClampNeg) (0 : Int32)) (fun s5 => gd (p_inB (s5.1 151 143) 20001 = true) (nm (uI s5 246 ((s5.1 151 143).toNatClampNeg) (0 : Int32)) (fun s7 => nm (uI s7 151 143 ((s7.1 151 143) + (1 : Int32))) (fun s8 => L_X12_layParts_123 en d v1 v2 v3 v4 s8))))))) else gd (p_inB (v2 + (-1 : Int32)) 20001 = true) (nm (s.1 243 (v2 + (-1 : Int32)).toNatClampNeg) (fun z10 => gd (p_inB z10 20001 = true) (nm (uI s 238 (z10.toNatClampNeg) (s.1 151 143)) (fun s12 => L_X12_layParts_411 en d v1 (v2 + (-1 : Int32)) v3 v4 v5 z10 s12))))) (L_X12_layParts_411 en d v1 v2 v3 v4 v5 v6 s) := by
  show qle _ (qE (qev en d) en none tb_X12_layParts (411, [(0, .ref 151), (1, .int v1), (2, .int v2), (3, .int v3), (4, .int v4), (5, .int v5), (6, .int v6)], []) s)
  refine e_L 2 (f' := (415, [(0, .ref 151), (1, .int v1), (2, .int v2), (3, .int v3), (4, .int v4), (5, .int v5), (6, .int v6)], [.int v5, .int v6])) rfl ?_
  refine e_icmp 443 rfl rfl rfl (fun c1 => ?_) (fun c1 => ?_)
  · refine e_L 1 (f' := (444, [(0, .ref 151), (1, .int v1), (2, .int v2), (3, .int v3), (4, .int v4), (5, .int v5), (6, .int v6)], [.ref 151])) rfl ?_
    refine e_gR (q := 244) 12 144 rfl rfl lc_151 lr_151_144 ?_
    refine e_L 1 (f' := (448, [(0, .ref 151), (1, .int v1), (2, .int v2), (3, .int v3), (4, .int v4), (5, .int v5), (6, .int v6)], [.ref 151, .ref 244])) rfl ?_
    refine e_gI 12 143 rfl rfl lc_151 ?_
    refine e_L 1 (f' := (452, [(0, .ref 151), (1, .int v1), (2, .int v2), (3, .int v3), (4, .int v4), (5, .int v5), (6, .int v6)], [.int (0 : Int32), .int (s.1 151 143), .ref 244])) rfl ?_
    refine qle_gd fun h2 => ?_
    refine e_bas (n := 20001) (k := (s.1 151 143).toNatClampNeg) rfl lc_244 ln_244 h2 rfl ?_
    refine e_nS fun s3 => ?_
    refine e_L 1 (f' := (454, [(0, .ref 151), (1, .int v1), (2, .int v2), (3, .int v3), (4, .int v4), (5, .int v5), (6, .int v6)], [.ref 151])) rfl ?_
    refine e_gR (q := 245) 12 145 rfl rfl lc_151 lr_151_145 ?_
    refine e_L 1 (f' := (458, [(0, .ref 151), (1, .int v1), (2, .int v2), (3, .int v3), (4, .int v4), (5, .int v5), (6, .int v6)], [.ref 151, .ref 245])) rfl ?_
    refine e_gI 12 143 rfl rfl lc_151 ?_
    refine e_L 1 (f' := (462, [(0, .ref 151), (1, .int v1), (2, .int v2), (3, .int v3), (4, .int v4), (5, .int v5), (6, .int v6)], [.int (0 : Int32), .int (s3.1 151 143), .ref 245])) rfl ?_
    refine qle_gd fun h4 => ?_
    refine e_ias (n := 20001) (k := (s3.1 151 143).toNatClampNeg) rfl lc_245 ln_245 h4 rfl ?_
    refine e_nS fun s5 => ?_
    refine e_L 1 (f' := (464, [(0, .ref 151), (1, .int v1), (2, .int v2), (3, .int v3), (4, .int v4), (5, .int v5), (6, .int v6)], [.ref 151])) rfl ?_
    refine e_gR (q := 246) 12 146 rfl rfl lc_151 lr_151_146 ?_
    refine e_L 1 (f' := (468, [(0, .ref 151), (1, .int v1), (2, .int v2), (3, .int v3), (4, .int v4), (5, .int v5), (6, .int v6)], [.ref 151, .ref 246])) rfl ?_
    refine e_gI 12 143 rfl rfl lc_151 ?_
    refine e_L 1 (f' := (472, [(0, .ref 151), (1, .int v1), (2, .int v2), (3, .int v3), (4, .int v4), (5, .int v5), (6, .int v6)], [.int (0 : Int32), .int (s5.1 151 143), .ref 246])) rfl ?_
    refine qle_gd fun h6 => ?_
    refine e_ias (n := 20001) (k := (s5.1 151 143).toNatClampNeg) rfl lc_246 ln_246 h6 rfl ?_
    refine e_nS fun s7 => ?_
    refine e_L 2 (f' := (475, [(0, .ref 151), (1, .int v1), (2, .int v2), (3, .int v3), (4, .int v4), (5, .int v5), (6, .int v6)], [.ref 151, .ref 151])) rfl ?_
    refine e_gI 12 143 rfl rfl lc_151 ?_
    refine e_L 2 (f' := (480, [(0, .ref 151), (1, .int v1), (2, .int v2), (3, .int v3), (4, .int v4), (5, .int v5), (6, .int v6)], [.int ((s7.1 151 143) + (1 : Int32)), .ref 151])) rfl ?_
    refine e_pI 12 143 rfl rfl lc_151 rfl ?_
    refine e_nS fun s8 => ?_
    refine e_L 1 (f' := (123, [(0, .ref 151), (1, .int v1), (2, .int v2), (3, .int v3), (4, .int v4), (5, .int v5), (6, .int v6)], [])) rfl ?_
    exact qE_sub (qsubL [0, 1, 2, 3, 4] rfl (ks := [0, 1, 2, 3, 4, 5, 6]) rfl (by decide))
  · refine e_L 2 (f' := (422, [(2, .int (v2 + (-1 : Int32))), (0, .ref 151), (1, .int v1), (3, .int v3), (4, .int v4), (5, .int v5), (6, .int v6)], [.ref 151])) rfl ?_
    refine e_gR (q := 243) 12 142 rfl rfl lc_151 lr_151_142 ?_
    refine e_L 1 (f' := (426, [(2, .int (v2 + (-1 : Int32))), (0, .ref 151), (1, .int v1), (3, .int v3), (4, .int v4), (5, .int v5), (6, .int v6)], [.int (v2 + (-1 : Int32)), .ref 243])) rfl ?_
    refine qle_gd fun h9 => ?_
    refine e_ial (n := 20001) (k := (v2 + (-1 : Int32)).toNatClampNeg) rfl lc_243 ln_243 h9 rfl ?_
    refine e_nI fun z10 => ?_
    refine e_L 2 (f' := (430, [(6, .int z10), (2, .int (v2 + (-1 : Int32))), (0, .ref 151), (1, .int v1), (3, .int v3), (4, .int v4), (5, .int v5)], [.ref 151])) rfl ?_
    refine e_gR (q := 238) 12 137 rfl rfl lc_151 lr_151_137 ?_
    refine e_L 2 (f' := (436, [(6, .int z10), (2, .int (v2 + (-1 : Int32))), (0, .ref 151), (1, .int v1), (3, .int v3), (4, .int v4), (5, .int v5)], [.ref 151, .int z10, .ref 238])) rfl ?_
    refine e_gI 12 143 rfl rfl lc_151 ?_
    refine qle_gd fun h11 => ?_
    refine e_ias (n := 20001) (k := z10.toNatClampNeg) rfl lc_238 ln_238 h11 rfl ?_
    refine e_nS fun s12 => ?_
    refine e_L 1 (f' := (411, [(6, .int z10), (2, .int (v2 + (-1 : Int32))), (0, .ref 151), (1, .int v1), (3, .int v3), (4, .int v4), (5, .int v5)], [])) rfl ?_
    exact qE_sub (qsubL [2, 3, 1, 4, 5, 6, 0] rfl (ks := [6, 2, 0, 1, 3, 4, 5]) rfl (by decide))
set_option maxRecDepth 100000 in
set_option maxHeartbeats 4000000 in
theorem le_X12_layParts_494 (en : pN) (d : Nat) (v3 : Int32) (s : qS) : qle (if (s.1 151 101) ≤ v3 then some (none, s) else gd (p_inB v3 20001 = true) (if ¬ (s.1 233 v3.toNatClampNeg) = (0 : Int32) then L_X12_layParts_494 en d (v3 + (1 : Int32)) s else nm (s.1 238 v3.toNatClampNeg) (fun z4 => gd (p_inB z4 20001 = true) (nm (uI s 245 (z4.toNatClampNeg) ((s.1 245 z4.toNatClampNeg) ||| ((15 : Int32) &&& ((s.1 215 v3.toNatClampNeg) ^^^ (-1 : Int32))))) (fun s6 => gd (p_inB v3 20002 = true) (nm (s6.1 218 v3.toNatClampNeg) (fun z8 => L_X12_layParts_548 en d v3 z4 z8 s6))))))) (L_X12_layParts_494 en d v3 s) := by
  show qle _ (qE (qev en d) en none tb_X12_layParts (494, [(0, .ref 151), (3, .int v3)], []) s)
  refine e_L 2 (f' := (496, [(0, .ref 151), (3, .int v3)], [.ref 151, .int v3])) rfl ?_
  refine e_gI 12 101 rfl rfl lc_151 ?_
  refine e_icmp 635 rfl rfl rfl (fun c1 => ?_) (fun c1 => ?_)
  · exact e_rV rfl rfl
  · refine e_L 1 (f' := (503, [(0, .ref 151), (3, .int v3)], [.ref 151])) rfl ?_
    refine e_gR (q := 233) 12 132 rfl rfl lc_151 lr_151_132 ?_
    refine e_L 1 (f' := (507, [(0, .ref 151), (3, .int v3)], [.int v3, .ref 233])) rfl ?_
    refine qle_gd fun h2 => ?_
    refine e_bal (n := 20001) (k := v3.toNatClampNeg) rfl (Or.inl lc_233) ln_233 h2 rfl ?_
    refine e_ifz 629 rfl rfl rfl (fun c3 => ?_) (fun c3 => ?_)
    · refine e_L 2 (f' := (494, [(3, .int (v3 + (1 : Int32))), (0, .ref 151)], [])) rfl ?_
      exact qE_sub (qsubL [1, 0] rfl (ks := [3, 0]) rfl (by decide))
    · refine e_L 1 (f' := (512, [(0, .ref 151), (3, .int v3)], [.ref 151])) rfl ?_
      refine e_gR (q := 238) 12 137 rfl rfl lc_151 lr_151_137 ?_
      refine e_L 1 (f' := (516, [(0, .ref 151), (3, .int v3)], [.int v3, .ref 238])) rfl ?_
      refine e_ial (n := 20001) (k := v3.toNatClampNeg) rfl lc_238 ln_238 h2 rfl ?_
      refine e_nI fun z4 => ?_
      refine e_L 2 (f' := (520, [(4, .int z4), (0, .ref 151), (3, .int v3)], [.ref 151])) rfl ?_
      refine e_gR (q := 245) 12 145 rfl rfl lc_151 lr_151_145 ?_
      refine e_L 2 (f' := (526, [(4, .int z4), (0, .ref 151), (3, .int v3)], [.int z4, .ref 245, .int z4, .ref 245])) rfl ?_
      refine qle_gd fun h5 => ?_
      refine e_ial (n := 20001) (k := z4.toNatClampNeg) rfl lc_245 ln_245 h5 rfl ?_
      refine e_L 2 (f' := (530, [(4, .int z4), (0, .ref 151), (3, .int v3)], [.ref 151, .int (15 : Int32), .int (s.1 245 z4.toNatClampNeg), .int z4, .ref 245])) rfl ?_
      refine e_gR (q := 215) 12 109 rfl rfl lc_151 lr_151_109 ?_
      refine e_L 1 (f' := (534, [(4, .int z4), (0, .ref 151), (3, .int v3)], [.int v3, .ref 215, .int (15 : Int32), .int (s.1 245 z4.toNatClampNeg), .int z4, .ref 245])) rfl ?_
      refine e_ial (n := 20001) (k := v3.toNatClampNeg) rfl lc_215 ln_215 h2 rfl ?_
      refine e_L 4 (f' := (539, [(4, .int z4), (0, .ref 151), (3, .int v3)], [.int ((s.1 245 z4.toNatClampNeg) ||| ((15 : Int32) &&& ((s.1 215 v3.toNatClampNeg) ^^^ (-1 : Int32)))), .int z4, .ref 245])) rfl ?_
      refine e_ias (n := 20001) (k := z4.toNatClampNeg) rfl lc_245 ln_245 h5 rfl ?_
      refine e_nS fun s6 => ?_
      refine e_L 1 (f' := (541, [(4, .int z4), (0, .ref 151), (3, .int v3)], [.ref 151])) rfl ?_
      refine e_gR (q := 218) 12 112 rfl rfl lc_151 lr_151_112 ?_
      refine e_L 1 (f' := (545, [(4, .int z4), (0, .ref 151), (3, .int v3)], [.int v3, .ref 218])) rfl ?_
      refine qle_gd fun h7 => ?_
      refine e_ial (n := 20002) (k := v3.toNatClampNeg) rfl lc_218 ln_218 h7 rfl ?_
      refine e_nI fun z8 => ?_
      refine e_L 1 (f' := (548, [(5, .int z8), (4, .int z4), (0, .ref 151), (3, .int v3)], [])) rfl ?_
      exact qE_sub (qsubL [2, 3, 1, 0] rfl (ks := [5, 4, 0, 3]) rfl (by decide))
set_option maxRecDepth 100000 in
set_option maxHeartbeats 4000000 in
theorem le_X12_layParts_548 (en : pN) (d : Nat) (v3 : Int32) (v4 : Int32) (v5 : Int32) (s : qS) : qle (gd (p_inB (v3 + (1 : Int32)) 20002 = true) (if (s.1 218 (v3 + (1 : Int32)).toNatClampNeg) ≤ v5 then L_X12_layParts_494 en d (v3 + (1 : Int32)) s else gd (p_inB v5 200001 = true) (gd (p_inB (s.1 219 v5.toNatClampNeg) 20001 = true) (if ¬ (s.1 233 (s.1 219 v5.toNatClampNeg).toNatClampNeg) = (0 : Int32) then L_X12_layParts_548 en d v3 v4 (v5 + (1 : Int32)) s else if ¬ (s.1 238 (s.1 219 v5.toNatClampNeg).toNatClampNeg) = v4 then L_X12_layParts_548 en d v3 v4 (v5 + (1 : Int32)) s else gd (p_inB v4 20001 = true) (nm (uI s 244 (v4.toNatClampNeg) (vp_nar .boolean (1 : Int32))) (fun s8 => nm (uI s8 246 (v4.toNatClampNeg) ((s8.1 246 v4.toNatClampNeg) ||| ((1 : Int32) <<< (((s8.1 220 v5.toNatClampNeg) / (10 : Int32)) &&& 31)))) (fun s9 => L_X12_layParts_548 en d v3 v4 (v5 + (1 : Int32)) s9))))))) (L_X12_layParts_548 en d v3 v4 v5 s) := by
  show qle _ (qE (qev en d) en none tb_X12_layParts (548, [(0, .ref 151), (3, .int v3), (4, .int v4), (5, .int v5)], []) s)
  refine e_L 2 (f' := (551, [(0, .ref 151), (3, .int v3), (4, .int v4), (5, .int v5)], [.ref 151, .int v5])) rfl ?_
  refine e_gR (q := 218) 12 112 rfl rfl lc_151 lr_151_112 ?_
  refine e_L 3 (f' := (557, [(0, .ref 151), (3, .int v3), (4, .int v4), (5, .int v5)], [.int (v3 + (1 : Int32)), .ref 218, .int v5])) rfl ?_
  refine qle_gd fun h1 => ?_
  refine e_ial (n := 20002) (k := (v3 + (1 : Int32)).toNatClampNeg) rfl lc_218 ln_218 h1 rfl ?_
  refine e_icmp 629 rfl rfl rfl (fun c2 => ?_) (fun c2 => ?_)
  · refine e_L 2 (f' := (494, [(3, .int (v3 + (1 : Int32))), (0, .ref 151), (4, .int v4), (5, .int v5)], [])) rfl ?_
    exact qE_sub (qsubL [1, 0] rfl (ks := [3, 0, 4, 5]) rfl (by decide))
  · refine e_L 1 (f' := (562, [(0, .ref 151), (3, .int v3), (4, .int v4), (5, .int v5)], [.ref 151])) rfl ?_
    refine e_gR (q := 233) 12 132 rfl rfl lc_151 lr_151_132 ?_
    refine e_L 1 (f' := (566, [(0, .ref 151), (3, .int v3), (4, .int v4), (5, .int v5)], [.ref 151, .ref 233])) rfl ?_
    refine e_gR (q := 219) 12 113 rfl rfl lc_151 lr_151_113 ?_
    refine e_L 1 (f' := (571, [(0, .ref 151), (3, .int v3), (4, .int v4), (5, .int v5)], [.int v5, .ref 219, .ref 233])) rfl ?_
    refine qle_gd fun h3 => ?_
    refine e_ial (n := 200001) (k := v5.toNatClampNeg) rfl lc_219 ln_219 h3 rfl ?_
    refine qle_gd fun h4 => ?_
    refine e_bal (n := 20001) (k := (s.1 219 v5.toNatClampNeg).toNatClampNeg) rfl (Or.inl lc_233) ln_233 h4 rfl ?_
    refine e_ifz 623 rfl rfl rfl (fun c5 => ?_) (fun c5 => ?_)
    · refine e_L 2 (f' := (548, [(5, .int (v5 + (1 : Int32))), (0, .ref 151), (3, .int v3), (4, .int v4)], [])) rfl ?_
      exact qE_sub (qsubL [1, 2, 3, 0] rfl (ks := [5, 0, 3, 4]) rfl (by decide))
    · refine e_L 1 (f' := (577, [(0, .ref 151), (3, .int v3), (4, .int v4), (5, .int v5)], [.ref 151])) rfl ?_
      refine e_gR (q := 238) 12 137 rfl rfl lc_151 lr_151_137 ?_
      refine e_L 1 (f' := (581, [(0, .ref 151), (3, .int v3), (4, .int v4), (5, .int v5)], [.ref 151, .ref 238])) rfl ?_
      refine e_gR (q := 219) 12 113 rfl rfl lc_151 lr_151_113 ?_
      refine e_L 1 (f' := (586, [(0, .ref 151), (3, .int v3), (4, .int v4), (5, .int v5)], [.int v5, .ref 219, .ref 238])) rfl ?_
      refine e_ial (n := 200001) (k := v5.toNatClampNeg) rfl lc_219 ln_219 h3 rfl ?_
      refine e_ial (n := 20001) (k := (s.1 219 v5.toNatClampNeg).toNatClampNeg) rfl lc_238 ln_238 h4 rfl ?_
      refine e_L 1 (f' := (590, [(0, .ref 151), (3, .int v3), (4, .int v4), (5, .int v5)], [.int v4, .int (s.1 238 (s.1 219 v5.toNatClampNeg).toNatClampNeg)])) rfl ?_
      refine e_icmp 623 rfl rfl rfl (fun c6 => ?_) (fun c6 => ?_)
      · refine e_L 2 (f' := (548, [(5, .int (v5 + (1 : Int32))), (0, .ref 151), (3, .int v3), (4, .int v4)], [])) rfl ?_
        exact qE_sub (qsubL [1, 2, 3, 0] rfl (ks := [5, 0, 3, 4]) rfl (by decide))
      · refine e_L 1 (f' := (594, [(0, .ref 151), (3, .int v3), (4, .int v4), (5, .int v5)], [.ref 151])) rfl ?_
        refine e_gR (q := 244) 12 144 rfl rfl lc_151 lr_151_144 ?_
        refine e_L 2 (f' := (600, [(0, .ref 151), (3, .int v3), (4, .int v4), (5, .int v5)], [.int (1 : Int32), .int v4, .ref 244])) rfl ?_
        refine qle_gd fun h7 => ?_
        refine e_bas (n := 20001) (k := v4.toNatClampNeg) rfl lc_244 ln_244 h7 rfl ?_
        refine e_nS fun s8 => ?_
        refine e_L 1 (f' := (602, [(0, .ref 151), (3, .int v3), (4, .int v4), (5, .int v5)], [.ref 151])) rfl ?_
        refine e_gR (q := 246) 12 146 rfl rfl lc_151 lr_151_146 ?_
        refine e_L 2 (f' := (608, [(0, .ref 151), (3, .int v3), (4, .int v4), (5, .int v5)], [.int v4, .ref 246, .int v4, .ref 246])) rfl ?_
        refine e_ial (n := 20001) (k := v4.toNatClampNeg) rfl lc_246 ln_246 h7 rfl ?_
        refine e_L 2 (f' := (611, [(0, .ref 151), (3, .int v3), (4, .int v4), (5, .int v5)], [.ref 151, .int (1 : Int32), .int (s8.1 246 v4.toNatClampNeg), .int v4, .ref 246])) rfl ?_
        refine e_gR (q := 220) 12 114 rfl rfl lc_151 lr_151_114 ?_
        refine e_L 1 (f' := (616, [(0, .ref 151), (3, .int v3), (4, .int v4), (5, .int v5)], [.int v5, .ref 220, .int (1 : Int32), .int (s8.1 246 v4.toNatClampNeg), .int v4, .ref 246])) rfl ?_
        refine e_ial (n := 200001) (k := v5.toNatClampNeg) rfl lc_220 ln_220 h3 rfl ?_
        refine e_L 1 (f' := (619, [(0, .ref 151), (3, .int v3), (4, .int v4), (5, .int v5)], [.int (10 : Int32), .int (s8.1 220 v5.toNatClampNeg), .int (1 : Int32), .int (s8.1 246 v4.toNatClampNeg), .int v4, .ref 246])) rfl ?_
        refine e_div rfl (by decide) ?_
        refine e_L 2 (f' := (622, [(0, .ref 151), (3, .int v3), (4, .int v4), (5, .int v5)], [.int ((s8.1 246 v4.toNatClampNeg) ||| ((1 : Int32) <<< (((s8.1 220 v5.toNatClampNeg) / (10 : Int32)) &&& 31))), .int v4, .ref 246])) rfl ?_
        refine e_ias (n := 20001) (k := v4.toNatClampNeg) rfl lc_246 ln_246 h7 rfl ?_
        refine e_nS fun s9 => ?_
        refine e_L 2 (f' := (548, [(5, .int (v5 + (1 : Int32))), (0, .ref 151), (3, .int v3), (4, .int v4)], [])) rfl ?_
        exact qE_sub (qsubL [1, 2, 3, 0] rfl (ks := [5, 0, 3, 4]) rfl (by decide))
set_option maxRecDepth 100000 in
set_option maxHeartbeats 4000000 in
theorem le_X12_layParts (en : pN) (d : Nat) (s : qS) : qle (nm (uI s 151 143 (0 : Int32)) (fun s1 => L_X12_layParts_11 en d (0 : Int32) (0 : Int32) (0 : Int32) s1)) (qev en (d + 1) 395 [.ref 151] s) := by
  refine e_enter ix_X12_layParts (Nat.le_of_ble_eq_true rfl) ?_
  show qle _ (qE (qev en d) en none tb_X12_layParts (0, [(0, .ref 151)], []) s)
  refine e_L 2 (f' := (2, [(0, .ref 151)], [.int (0 : Int32), .ref 151])) rfl ?_
  refine e_pI 12 143 rfl rfl lc_151 rfl ?_
  refine e_nS fun s1 => ?_
  refine e_L 6 (f' := (11, [(3, .int (0 : Int32)), (2, .int (0 : Int32)), (1, .int (0 : Int32)), (0, .ref 151)], [])) rfl ?_
  exact qE_sub (qsubL [3, 2, 1, 0] rfl (ks := [3, 2, 1, 0]) rfl (by decide))
set_option maxRecDepth 100000 in
set_option maxHeartbeats 4000000 in
theorem le_X12_isLasting (en : pN) (d : Nat) (a1 : Int32) (a2 : Int32) (s : qS) : qle (gd (p_inB a1 20001 = true) (nm (s.1 238 a1.toNatClampNeg) (fun z2 => nm (((1 : Int32) <<< ((s.1 151 18) &&& 31)) - (1 : Int32)) (fun z3 => gd (p_inB z2 20001 = true) (if (s.1 244 z2.toNatClampNeg) = (0 : Int32) then some (some (.int (0 : Int32)), s) else if a2 = (0 : Int32) then some (some (.int (1 : Int32)), s) else if ¬ (((s.1 245 z2.toNatClampNeg) ||| (s.1 246 z2.toNatClampNeg)) &&& z3) = z3 then some (some (.int (0 : Int32)), s) else some (some (.int (1 : Int32)), s)))))) (qev en (d + 1) 396 [.ref 151, .int a1, .int a2] s) := by
  refine e_enter ix_X12_isLasting (Nat.le_of_ble_eq_true rfl) ?_
  show qle _ (qE (qev en d) en (some .boolean) tb_X12_isLasting (0, [(0, .ref 151), (1, .int a1), (2, .int a2)], []) s)
  refine e_L 1 (f' := (1, [(0, .ref 151), (1, .int a1), (2, .int a2)], [.ref 151])) rfl ?_
  refine e_gR (q := 238) 12 137 rfl rfl lc_151 lr_151_137 ?_
  refine e_L 1 (f' := (5, [(0, .ref 151), (1, .int a1), (2, .int a2)], [.int a1, .ref 238])) rfl ?_
  refine qle_gd fun h1 => ?_
  refine e_ial (n := 20001) (k := a1.toNatClampNeg) rfl lc_238 ln_238 h1 rfl ?_
  refine e_nI fun z2 => ?_
  refine e_L 3 (f' := (9, [(3, .int z2), (0, .ref 151), (1, .int a1), (2, .int a2)], [.ref 151, .int (1 : Int32)])) rfl ?_
  refine e_gI 12 18 rfl rfl lc_151 ?_
  refine e_L 3 (f' := (15, [(3, .int z2), (0, .ref 151), (1, .int a1), (2, .int a2)], [.int (((1 : Int32) <<< ((s.1 151 18) &&& 31)) - (1 : Int32))])) rfl ?_
  refine e_nI fun z3 => ?_
  refine e_L 2 (f' := (18, [(4, .int z3), (3, .int z2), (0, .ref 151), (1, .int a1), (2, .int a2)], [.ref 151])) rfl ?_
  refine e_gR (q := 244) 12 144 rfl rfl lc_151 lr_151_144 ?_
  refine e_L 1 (f' := (22, [(4, .int z3), (3, .int z2), (0, .ref 151), (1, .int a1), (2, .int a2)], [.int z2, .ref 244])) rfl ?_
  refine qle_gd fun h4 => ?_
  refine e_bal (n := 20001) (k := z2.toNatClampNeg) rfl (Or.inl lc_244) ln_244 h4 rfl ?_
  refine e_ifz 55 rfl rfl rfl (fun c5 => ?_) (fun c5 => ?_)
  · refine e_L 1 (f' := (56, [(4, .int z3), (3, .int z2), (0, .ref 151), (1, .int a1), (2, .int a2)], [.int (0 : Int32)])) rfl ?_
    exact e_rZ rfl rfl (by decide)
  · refine e_L 1 (f' := (27, [(4, .int z3), (3, .int z2), (0, .ref 151), (1, .int a1), (2, .int a2)], [.int a2])) rfl ?_
    refine e_ifz 51 rfl rfl rfl (fun c6 => ?_) (fun c6 => ?_)
    · refine e_L 2 (f' := (56, [(4, .int z3), (3, .int z2), (0, .ref 151), (1, .int a1), (2, .int a2)], [.int (1 : Int32)])) rfl ?_
      exact e_rZ rfl rfl (by decide)
    · refine e_L 1 (f' := (31, [(4, .int z3), (3, .int z2), (0, .ref 151), (1, .int a1), (2, .int a2)], [.ref 151])) rfl ?_
      refine e_gR (q := 245) 12 145 rfl rfl lc_151 lr_151_145 ?_
      refine e_L 1 (f' := (35, [(4, .int z3), (3, .int z2), (0, .ref 151), (1, .int a1), (2, .int a2)], [.int z2, .ref 245])) rfl ?_
      refine e_ial (n := 20001) (k := z2.toNatClampNeg) rfl lc_245 ln_245 h4 rfl ?_
      refine e_L 1 (f' := (37, [(4, .int z3), (3, .int z2), (0, .ref 151), (1, .int a1), (2, .int a2)], [.ref 151, .int (s.1 245 z2.toNatClampNeg)])) rfl ?_
      refine e_gR (q := 246) 12 146 rfl rfl lc_151 lr_151_146 ?_
      refine e_L 1 (f' := (41, [(4, .int z3), (3, .int z2), (0, .ref 151), (1, .int a1), (2, .int a2)], [.int z2, .ref 246, .int (s.1 245 z2.toNatClampNeg)])) rfl ?_
      refine e_ial (n := 20001) (k := z2.toNatClampNeg) rfl lc_246 ln_246 h4 rfl ?_
      refine e_L 4 (f' := (48, [(4, .int z3), (3, .int z2), (0, .ref 151), (1, .int a1), (2, .int a2)], [.int z3, .int (((s.1 245 z2.toNatClampNeg) ||| (s.1 246 z2.toNatClampNeg)) &&& z3)])) rfl ?_
      refine e_icmp 55 rfl rfl rfl (fun c7 => ?_) (fun c7 => ?_)
      · refine e_L 1 (f' := (56, [(4, .int z3), (3, .int z2), (0, .ref 151), (1, .int a1), (2, .int a2)], [.int (0 : Int32)])) rfl ?_
        exact e_rZ rfl rfl (by decide)
      · refine e_L 2 (f' := (56, [(4, .int z3), (3, .int z2), (0, .ref 151), (1, .int a1), (2, .int a2)], [.int (1 : Int32)])) rfl ?_
        exact e_rZ rfl rfl (by decide)
noncomputable def L_X12_forgetOther_20 (en : pN) (d : Nat) (vs1 : Int32) (s : qS) : Option qR := qE (qev en d) en none tb_X12_forgetOther (20, [(0, .ref 151)], [.int vs1, .ref 151]) s
noncomputable def L_X12_forgetOther_43 (en : pN) (d : Nat) (vs1 : Int32) (s : qS) : Option qR := qE (qev en d) en none tb_X12_forgetOther (43, [], [.int vs1, .ref 151]) s
set_option maxRecDepth 100000 in
set_option maxHeartbeats 4000000 in
theorem le_X12_forgetOther_20 (en : pN) (d : Nat) (vs1 : Int32) (s : qS) : qle (gd (isB vs1 = true) (nm (uI s 151 98 vs1) (fun s2 => if (s2.1 151 74) = (0 : Int32) then L_X12_forgetOther_43 en d (0 : Int32) s2 else if ¬ (s2.1 151 149) = (0 : Int32) then L_X12_forgetOther_43 en d (0 : Int32) s2 else L_X12_forgetOther_43 en d (1 : Int32) s2))) (L_X12_forgetOther_20 en d vs1 s) := by
  show qle _ (qE (qev en d) en none tb_X12_forgetOther (20, [(0, .ref 151)], [.int vs1, .ref 151]) s)
  refine qle_gd fun h1 => ?_
  refine e_pI 12 98 rfl rfl lc_151 h1 ?_
  refine e_nS fun s2 => ?_
  refine e_L 2 (f' := (25, [(0, .ref 151)], [.ref 151, .ref 151])) rfl ?_
  refine e_gI 12 74 rfl rfl lc_151 ?_
  refine e_ifz 42 rfl rfl rfl (fun c3 => ?_) (fun c3 => ?_)
  · refine e_L 1 (f' := (43, [(0, .ref 151)], [.int (0 : Int32), .ref 151])) rfl ?_
    exact qE_sub (qsubL [] rfl (ks := [0]) rfl (by decide))
  · refine e_L 1 (f' := (32, [(0, .ref 151)], [.ref 151, .ref 151])) rfl ?_
    refine e_gI 12 149 rfl rfl lc_151 ?_
    refine e_ifz 42 rfl rfl rfl (fun c4 => ?_) (fun c4 => ?_)
    · refine e_L 1 (f' := (43, [(0, .ref 151)], [.int (0 : Int32), .ref 151])) rfl ?_
      exact qE_sub (qsubL [] rfl (ks := [0]) rfl (by decide))
    · refine e_L 2 (f' := (43, [(0, .ref 151)], [.int (1 : Int32), .ref 151])) rfl ?_
      exact qE_sub (qsubL [] rfl (ks := [0]) rfl (by decide))
set_option maxRecDepth 100000 in
set_option maxHeartbeats 4000000 in
theorem le_X12_forgetOther_43 (en : pN) (d : Nat) (vs1 : Int32) (s : qS) : qle (gd (isB vs1 = true) (nm (uI s 151 74 vs1) (fun s2 => some (none, s2)))) (L_X12_forgetOther_43 en d vs1 s) := by
  show qle _ (qE (qev en d) en none tb_X12_forgetOther (43, [], [.int vs1, .ref 151]) s)
  refine qle_gd fun h1 => ?_
  refine e_pI 12 74 rfl rfl lc_151 h1 ?_
  refine e_nS fun s2 => ?_
  exact e_rV rfl rfl
set_option maxRecDepth 100000 in
set_option maxHeartbeats 4000000 in
theorem le_X12_forgetOther (en : pN) (d : Nat) (s : qS) : qle (if (s.1 151 98) = (0 : Int32) then L_X12_forgetOther_20 en d (0 : Int32) s else if ¬ (s.1 151 148) = (0 : Int32) then L_X12_forgetOther_20 en d (0 : Int32) s else L_X12_forgetOther_20 en d (1 : Int32) s) (qev en (d + 1) 397 [.ref 151] s) := by
  refine e_enter ix_X12_forgetOther (Nat.le_of_ble_eq_true rfl) ?_
  show qle _ (qE (qev en d) en none tb_X12_forgetOther (0, [(0, .ref 151)], []) s)
  refine e_L 2 (f' := (2, [(0, .ref 151)], [.ref 151, .ref 151])) rfl ?_
  refine e_gI 12 98 rfl rfl lc_151 ?_
  refine e_ifz 19 rfl rfl rfl (fun c1 => ?_) (fun c1 => ?_)
  · refine e_L 1 (f' := (20, [(0, .ref 151)], [.int (0 : Int32), .ref 151])) rfl ?_
    exact qE_sub (qsubL [0] rfl (ks := [0]) rfl (by decide))
  · refine e_L 1 (f' := (9, [(0, .ref 151)], [.ref 151, .ref 151])) rfl ?_
    refine e_gI 12 148 rfl rfl lc_151 ?_
    refine e_ifz 19 rfl rfl rfl (fun c2 => ?_) (fun c2 => ?_)
    · refine e_L 1 (f' := (20, [(0, .ref 151)], [.int (0 : Int32), .ref 151])) rfl ?_
      exact qE_sub (qsubL [0] rfl (ks := [0]) rfl (by decide))
    · refine e_L 2 (f' := (20, [(0, .ref 151)], [.int (1 : Int32), .ref 151])) rfl ?_
      exact qE_sub (qsubL [0] rfl (ks := [0]) rfl (by decide))
noncomputable def L_X12_rewrite_58 (en : pN) (d : Nat) (v1 : Int32) (v2 : Int32) (vs1 : Int32) (vs2 : Int32) (s : qS) : Option qR := qE (qev en d) en (some .int) tb_X12_rewrite (58, [(0, .ref 151), (1, .int v1), (2, .int v2)], [.int vs2, .int vs1, .ref 175]) s
noncomputable def L_X12_rewrite_65 (en : pN) (d : Nat) (v1 : Int32) (v2 : Int32) (s : qS) : Option qR := qE (qev en d) en (some .int) tb_X12_rewrite (65, [(0, .ref 151), (1, .int v1), (2, .int v2)], []) s
noncomputable def L_X12_rewrite_78 (en : pN) (d : Nat) (v1 : Int32) (v2 : Int32) (s : qS) : Option qR := qE (qev en d) en (some .int) tb_X12_rewrite (78, [(0, .ref 151), (1, .int v1), (2, .int v2)], []) s
noncomputable def L_X12_rewrite_117 (en : pN) (d : Nat) (vs0 : Int32) (s : qS) : Option qR := qE (qev en d) en (some .int) tb_X12_rewrite (117, [(0, .ref 151)], [.int vs0]) s
set_option maxRecDepth 100000 in
set_option maxHeartbeats 4000000 in
theorem le_X12_rewrite_58 (en : pN) (d : Nat) (v1 : Int32) (v2 : Int32) (vs1 : Int32) (vs2 : Int32) (s : qS) : qle (gd (p_inB (vs1 + vs2) 400 = true) (if (s.1 175 (vs1 + vs2).toNatClampNeg) = (0 : Int32) then L_X12_rewrite_65 en d v1 v2 s else some (some (.int (-1 : Int32)), s))) (L_X12_rewrite_58 en d v1 v2 vs1 vs2 s) := by
  show qle _ (qE (qev en d) en (some .int) tb_X12_rewrite (58, [(0, .ref 151), (1, .int v1), (2, .int v2)], [.int vs2, .int vs1, .ref 175]) s)
  refine e_L 1 (f' := (59, [(0, .ref 151), (1, .int v1), (2, .int v2)], [.int (vs1 + vs2), .ref 175])) rfl ?_
  refine qle_gd fun h1 => ?_
  refine e_bal (n := 400) (k := (vs1 + vs2).toNatClampNeg) rfl (Or.inl lc_175) ln_175 h1 rfl ?_
  refine e_ifz 65 rfl rfl rfl (fun c2 => ?_) (fun c2 => ?_)
  · exact qE_sub (qsubL [0, 1, 2] rfl (ks := [0, 1, 2]) rfl (by decide))
  · refine e_L 1 (f' := (64, [(0, .ref 151), (1, .int v1), (2, .int v2)], [.int (-1 : Int32)])) rfl ?_
    exact e_rI rfl rfl
set_option maxRecDepth 100000 in
set_option maxHeartbeats 4000000 in
theorem le_X12_rewrite_65 (en : pN) (d : Nat) (v1 : Int32) (v2 : Int32) (s : qS) : qle (if ¬ (s.1 151 147) = (0 : Int32) then L_X12_rewrite_78 en d v1 v2 s else bV (qev en d 293 [.ref 151, .int (0 : Int32), .int (1 : Int32)] s) (fun s3 => L_X12_rewrite_78 en d v1 v2 s3)) (L_X12_rewrite_65 en d v1 v2 s) := by
  show qle _ (qE (qev en d) en (some .int) tb_X12_rewrite (65, [(0, .ref 151), (1, .int v1), (2, .int v2)], []) s)
  refine e_L 1 (f' := (66, [(0, .ref 151), (1, .int v1), (2, .int v2)], [.ref 151])) rfl ?_
  refine e_gI 12 147 rfl rfl lc_151 ?_
  refine e_ifz 78 rfl rfl rfl (fun c1 => ?_) (fun c1 => ?_)
  · exact qE_sub (qsubL [0, 1, 2] rfl (ks := [0, 1, 2]) rfl (by decide))
  · refine e_L 3 (f' := (75, [(0, .ref 151), (1, .int v1), (2, .int v2)], [.int (1 : Int32), .int (0 : Int32), .ref 151])) rfl ?_
    refine e_vV 293 rfl rfl ix_X12_copyProgram rfl (q_recvOf lc_151 rfl) (Nat.le_of_ble_eq_true rfl) (fun s3 e4 => ?_)
    exact qE_sub (qsubL [0, 1, 2] rfl (ks := [0, 1, 2]) rfl (by decide))
set_option maxRecDepth 100000 in
set_option maxHeartbeats 4000000 in
theorem le_X12_rewrite_78 (en : pN) (d : Nat) (v1 : Int32) (v2 : Int32) (s : qS) : qle (if ¬ v1 = (0 : Int32) then if ¬ v1 = (1 : Int32) then bI (qev en d 403 [.ref 151, .int ((100 : Int32) + v2)] s) (fun w3 s4 => L_X12_rewrite_117 en d w3 s4) else bI (qev en d 402 [.ref 151, .int ((100 : Int32) + v2)] s) (fun w6 s7 => L_X12_rewrite_117 en d w6 s7) else bI (qev en d 401 [.ref 151, .int ((100 : Int32) + v2)] s) (fun w9 s10 => L_X12_rewrite_117 en d w9 s10)) (L_X12_rewrite_78 en d v1 v2 s) := by
  show qle _ (qE (qev en d) en (some .int) tb_X12_rewrite (78, [(0, .ref 151), (1, .int v1), (2, .int v2)], []) s)
  refine e_L 1 (f' := (79, [(0, .ref 151), (1, .int v1), (2, .int v2)], [.int v1])) rfl ?_
  refine e_ifz 93 rfl rfl rfl (fun c1 => ?_) (fun c1 => ?_)
  · refine e_L 2 (f' := (95, [(0, .ref 151), (1, .int v1), (2, .int v2)], [.int (1 : Int32), .int v1])) rfl ?_
    refine e_icmp 109 rfl rfl rfl (fun c2 => ?_) (fun c2 => ?_)
    · refine e_L 4 (f' := (114, [(0, .ref 151), (1, .int v1), (2, .int v2)], [.int ((100 : Int32) + v2), .ref 151])) rfl ?_
      refine e_vI 403 rfl rfl ix_X12_copyLoad rfl (q_recvOf lc_151 rfl) (Nat.le_of_ble_eq_true rfl) (fun w3 s4 e5 => ?_)
      exact qE_sub (qsubL [0] rfl (ks := [0, 1, 2]) rfl (by decide))
    · refine e_L 4 (f' := (103, [(0, .ref 151), (1, .int v1), (2, .int v2)], [.int ((100 : Int32) + v2), .ref 151])) rfl ?_
      refine e_vI 402 rfl rfl ix_X12_leaveOut rfl (q_recvOf lc_151 rfl) (Nat.le_of_ble_eq_true rfl) (fun w6 s7 e8 => ?_)
      refine e_L 1 (f' := (117, [(0, .ref 151), (1, .int v1), (2, .int v2)], [.int w6])) rfl ?_
      exact qE_sub (qsubL [0] rfl (ks := [0, 1, 2]) rfl (by decide))
  · refine e_L 4 (f' := (87, [(0, .ref 151), (1, .int v1), (2, .int v2)], [.int ((100 : Int32) + v2), .ref 151])) rfl ?_
    refine e_vI 401 rfl rfl ix_X12_exchange rfl (q_recvOf lc_151 rfl) (Nat.le_of_ble_eq_true rfl) (fun w9 s10 e11 => ?_)
    refine e_L 1 (f' := (117, [(0, .ref 151), (1, .int v1), (2, .int v2)], [.int w9])) rfl ?_
    exact qE_sub (qsubL [0] rfl (ks := [0, 1, 2]) rfl (by decide))
set_option maxRecDepth 100000 in
set_option maxHeartbeats 4000000 in
theorem le_X12_rewrite_117 (en : pN) (d : Nat) (vs0 : Int32) (s : qS) : qle (if ¬ vs0 = (0 : Int32) then nm (uI s 151 147 (1 : Int32)) (fun s2 => bV (qev en d 292 [.ref 151, .int (1 : Int32)] s2) (fun s4 => bV (qev en d 397 [.ref 151] s4) (fun s7 => some (some (.int (1 : Int32)), s7)))) else some (some (.int (0 : Int32)), s)) (L_X12_rewrite_117 en d vs0 s) := by
  show qle _ (qE (qev en d) en (some .int) tb_X12_rewrite (117, [(0, .ref 151)], [.int vs0]) s)
  refine e_L 2 (f' := (119, [(3, .int vs0), (0, .ref 151)], [.int vs0])) rfl ?_
  refine e_ifz 124 rfl rfl rfl (fun c1 => ?_) (fun c1 => ?_)
  · refine e_L 2 (f' := (126, [(3, .int vs0), (0, .ref 151)], [.int (1 : Int32), .ref 151])) rfl ?_
    refine e_pI 12 147 rfl rfl lc_151 (by decide +kernel) ?_
    refine e_nS fun s2 => ?_
    refine e_L 2 (f' := (131, [(3, .int vs0), (0, .ref 151)], [.int (1 : Int32), .ref 151])) rfl ?_
    refine e_vV 292 rfl rfl ix_X12_layFlow rfl (q_recvOf lc_151 rfl) (Nat.le_of_ble_eq_true rfl) (fun s4 e5 => ?_)
    refine e_L 1 (f' := (135, [(3, .int vs0), (0, .ref 151)], [.ref 151])) rfl ?_
    refine e_vV 397 rfl rfl ix_X12_forgetOther rfl (q_recvOf lc_151 rfl) (Nat.le_of_ble_eq_true rfl) (fun s7 e8 => ?_)
    refine e_L 1 (f' := (139, [(3, .int vs0), (0, .ref 151)], [.int (1 : Int32)])) rfl ?_
    exact e_rI rfl rfl
  · refine e_L 1 (f' := (123, [(3, .int vs0), (0, .ref 151)], [.int (0 : Int32)])) rfl ?_
    exact e_rI rfl rfl
set_option maxRecDepth 100000 in
set_option maxHeartbeats 4000000 in
theorem le_X12_rewrite (en : pN) (d : Nat) (a1 : Int32) (a2 : Int32) (s : qS) : qle (if (s.1 151 11) = (0 : Int32) then some (some (.int (-1 : Int32)), s) else if a2 < (0 : Int32) then some (some (.int (-1 : Int32)), s) else if (s.1 151 32) ≤ a2 then some (some (.int (-1 : Int32)), s) else if a1 < (0 : Int32) then some (some (.int (-1 : Int32)), s) else if (2 : Int32) < a1 then some (some (.int (-1 : Int32)), s) else if (s.1 151 147) = (0 : Int32) then L_X12_rewrite_65 en d a1 a2 s else if a2 < (0 : Int32) then L_X12_rewrite_58 en d a1 a2 (100 : Int32) (0 : Int32) s else if (s.1 151 32) ≤ a2 then L_X12_rewrite_58 en d a1 a2 (100 : Int32) (0 : Int32) s else L_X12_rewrite_58 en d a1 a2 (100 : Int32) a2 s) (qev en (d + 1) 398 [.ref 151, .int a1, .int a2] s) := by
  refine e_enter ix_X12_rewrite (Nat.le_of_ble_eq_true rfl) ?_
  show qle _ (qE (qev en d) en (some .int) tb_X12_rewrite (0, [(0, .ref 151), (1, .int a1), (2, .int a2)], []) s)
  refine e_L 1 (f' := (1, [(0, .ref 151), (1, .int a1), (2, .int a2)], [.ref 151])) rfl ?_
  refine e_gI 12 11 rfl rfl lc_151 ?_
  refine e_ifz 63 rfl rfl rfl (fun c1 => ?_) (fun c1 => ?_)
  · refine e_L 1 (f' := (64, [(0, .ref 151), (1, .int a1), (2, .int a2)], [.int (-1 : Int32)])) rfl ?_
    exact e_rI rfl rfl
  · refine e_L 1 (f' := (8, [(0, .ref 151), (1, .int a1), (2, .int a2)], [.int a2])) rfl ?_
    refine e_ifz 63 rfl rfl rfl (fun c2 => ?_) (fun c2 => ?_)
    · refine e_L 1 (f' := (64, [(0, .ref 151), (1, .int a1), (2, .int a2)], [.int (-1 : Int32)])) rfl ?_
      exact e_rI rfl rfl
    · refine e_L 2 (f' := (13, [(0, .ref 151), (1, .int a1), (2, .int a2)], [.ref 151, .int a2])) rfl ?_
      refine e_gI 12 32 rfl rfl lc_151 ?_
      refine e_icmp 63 rfl rfl rfl (fun c3 => ?_) (fun c3 => ?_)
      · refine e_L 1 (f' := (64, [(0, .ref 151), (1, .int a1), (2, .int a2)], [.int (-1 : Int32)])) rfl ?_
        exact e_rI rfl rfl
      · refine e_L 1 (f' := (20, [(0, .ref 151), (1, .int a1), (2, .int a2)], [.int a1])) rfl ?_
        refine e_ifz 63 rfl rfl rfl (fun c4 => ?_) (fun c4 => ?_)
        · refine e_L 1 (f' := (64, [(0, .ref 151), (1, .int a1), (2, .int a2)], [.int (-1 : Int32)])) rfl ?_
          exact e_rI rfl rfl
        · refine e_L 2 (f' := (25, [(0, .ref 151), (1, .int a1), (2, .int a2)], [.int (2 : Int32), .int a1])) rfl ?_
          refine e_icmp 63 rfl rfl rfl (fun c5 => ?_) (fun c5 => ?_)
          · refine e_L 1 (f' := (64, [(0, .ref 151), (1, .int a1), (2, .int a2)], [.int (-1 : Int32)])) rfl ?_
            exact e_rI rfl rfl
          · refine e_L 1 (f' := (29, [(0, .ref 151), (1, .int a1), (2, .int a2)], [.ref 151])) rfl ?_
            refine e_gI 12 147 rfl rfl lc_151 ?_
            refine e_ifz 65 rfl rfl rfl (fun c6 => ?_) (fun c6 => ?_)
            · exact qE_sub (qsubL [0, 1, 2] rfl (ks := [0, 1, 2]) rfl (by decide))
            · refine e_L 1 (f' := (36, [(0, .ref 151), (1, .int a1), (2, .int a2)], [.ref 151])) rfl ?_
              refine e_gR (q := 175) 12 44 rfl rfl lc_151 lr_151_44 ?_
              refine e_L 2 (f' := (42, [(0, .ref 151), (1, .int a1), (2, .int a2)], [.int a2, .int (100 : Int32), .ref 175])) rfl ?_
              refine e_ifz 57 rfl rfl rfl (fun c7 => ?_) (fun c7 => ?_)
              · refine e_L 1 (f' := (58, [(0, .ref 151), (1, .int a1), (2, .int a2)], [.int (0 : Int32), .int (100 : Int32), .ref 175])) rfl ?_
                exact qE_sub (qsubL [0, 1, 2] rfl (ks := [0, 1, 2]) rfl (by decide))
              · refine e_L 2 (f' := (47, [(0, .ref 151), (1, .int a1), (2, .int a2)], [.ref 151, .int a2, .int (100 : Int32), .ref 175])) rfl ?_
                refine e_gI 12 32 rfl rfl lc_151 ?_
                refine e_icmp 57 rfl rfl rfl (fun c8 => ?_) (fun c8 => ?_)
                · refine e_L 1 (f' := (58, [(0, .ref 151), (1, .int a1), (2, .int a2)], [.int (0 : Int32), .int (100 : Int32), .ref 175])) rfl ?_
                  exact qE_sub (qsubL [0, 1, 2] rfl (ks := [0, 1, 2]) rfl (by decide))
                · refine e_L 2 (f' := (58, [(0, .ref 151), (1, .int a1), (2, .int a2)], [.int a2, .int (100 : Int32), .ref 175])) rfl ?_
                  exact qE_sub (qsubL [0, 1, 2] rfl (ks := [0, 1, 2]) rfl (by decide))
noncomputable def L_X12_lineBefore_7 (en : pN) (d : Nat) (v2 : Int32) (v3 : Int32) (s : qS) : Option qR := qE (qev en d) en (some .int) tb_X12_lineBefore (7, [(0, .ref 151), (2, .int v2), (3, .int v3)], []) s
set_option maxRecDepth 100000 in
set_option maxHeartbeats 4000000 in
theorem le_X12_lineBefore_7 (en : pN) (d : Nat) (v2 : Int32) (v3 : Int32) (s : qS) : qle (if (s.1 151 32) ≤ v3 then some (some (.int (-2 : Int32)), s) else gd (p_inB ((100 : Int32) + v3) 400 = true) (if ¬ (s.1 175 ((100 : Int32) + v3).toNatClampNeg) = (0 : Int32) then L_X12_lineBefore_7 en d v2 (v3 + (1 : Int32)) s else if ¬ (s.1 171 ((100 : Int32) + v3).toNatClampNeg) = v2 then L_X12_lineBefore_7 en d v2 (v3 + (1 : Int32)) s else some (some (.int v3), s))) (L_X12_lineBefore_7 en d v2 v3 s) := by
  show qle _ (qE (qev en d) en (some .int) tb_X12_lineBefore (7, [(0, .ref 151), (2, .int v2), (3, .int v3)], []) s)
  refine e_L 2 (f' := (9, [(0, .ref 151), (2, .int v2), (3, .int v3)], [.ref 151, .int v3])) rfl ?_
  refine e_gI 12 32 rfl rfl lc_151 ?_
  refine e_icmp 48 rfl rfl rfl (fun c1 => ?_) (fun c1 => ?_)
  · refine e_L 1 (f' := (50, [(0, .ref 151), (2, .int v2), (3, .int v3)], [.int (-2 : Int32)])) rfl ?_
    exact e_rI rfl rfl
  · refine e_L 1 (f' := (16, [(0, .ref 151), (2, .int v2), (3, .int v3)], [.ref 151])) rfl ?_
    refine e_gR (q := 175) 12 44 rfl rfl lc_151 lr_151_44 ?_
    refine e_L 3 (f' := (23, [(0, .ref 151), (2, .int v2), (3, .int v3)], [.int ((100 : Int32) + v3), .ref 175])) rfl ?_
    refine qle_gd fun h2 => ?_
    refine e_bal (n := 400) (k := ((100 : Int32) + v3).toNatClampNeg) rfl (Or.inl lc_175) ln_175 h2 rfl ?_
    refine e_ifz 42 rfl rfl rfl (fun c3 => ?_) (fun c3 => ?_)
    · refine e_L 2 (f' := (7, [(3, .int (v3 + (1 : Int32))), (0, .ref 151), (2, .int v2)], [])) rfl ?_
      exact qE_sub (qsubL [1, 2, 0] rfl (ks := [3, 0, 2]) rfl (by decide))
    · refine e_L 1 (f' := (28, [(0, .ref 151), (2, .int v2), (3, .int v3)], [.ref 151])) rfl ?_
      refine e_gR (q := 171) 12 40 rfl rfl lc_151 lr_151_40 ?_
      refine e_L 3 (f' := (35, [(0, .ref 151), (2, .int v2), (3, .int v3)], [.int ((100 : Int32) + v3), .ref 171])) rfl ?_
      refine e_ial (n := 400) (k := ((100 : Int32) + v3).toNatClampNeg) rfl lc_171 ln_171 h2 rfl ?_
      refine e_L 1 (f' := (37, [(0, .ref 151), (2, .int v2), (3, .int v3)], [.int v2, .int (s.1 171 ((100 : Int32) + v3).toNatClampNeg)])) rfl ?_
      refine e_icmp 42 rfl rfl rfl (fun c4 => ?_) (fun c4 => ?_)
      · refine e_L 2 (f' := (7, [(3, .int (v3 + (1 : Int32))), (0, .ref 151), (2, .int v2)], [])) rfl ?_
        exact qE_sub (qsubL [1, 2, 0] rfl (ks := [3, 0, 2]) rfl (by decide))
      · refine e_L 1 (f' := (41, [(0, .ref 151), (2, .int v2), (3, .int v3)], [.int v3])) rfl ?_
        exact e_rI rfl rfl
set_option maxRecDepth 100000 in
set_option maxHeartbeats 4000000 in
theorem le_X12_lineBefore (en : pN) (d : Nat) (a1 : Int32) (s : qS) : qle (L_X12_lineBefore_7 en d (a1 - (100 : Int32)) (0 : Int32) s) (qev en (d + 1) 399 [.ref 151, .int a1] s) := by
  refine e_enter ix_X12_lineBefore (Nat.le_of_ble_eq_true rfl) ?_
  show qle _ (qE (qev en d) en (some .int) tb_X12_lineBefore (0, [(0, .ref 151), (1, .int a1)], []) s)
  refine e_L 6 (f' := (7, [(3, .int (0 : Int32)), (2, .int (a1 - (100 : Int32))), (0, .ref 151), (1, .int a1)], [])) rfl ?_
  exact qE_sub (qsubL [2, 1, 0] rfl (ks := [3, 2, 0, 1]) rfl (by decide))
set_option maxRecDepth 100000 in
set_option maxHeartbeats 4000000 in
theorem le_X12_linkBehind (en : pN) (d : Nat) (a1 : Int32) (a2 : Int32) (a3 : Int32) (s : qS) : qle (if a1 = (-2 : Int32) then gd (p_inB a2 400 = true) (if ¬ (s.1 169 a2.toNatClampNeg) = (-2 : Int32) then if ¬ (s.1 170 a2.toNatClampNeg) = (0 : Int32) then gd (p_inB ((100 : Int32) + (s.1 169 a2.toNatClampNeg)) 400 = true) (nm (uI s 173 (((100 : Int32) + (s.1 169 a2.toNatClampNeg)).toNatClampNeg) a3) (fun s6 => some (none, s6))) else gd (p_inB ((100 : Int32) + (s.1 169 a2.toNatClampNeg)) 400 = true) (nm (uI s 172 (((100 : Int32) + (s.1 169 a2.toNatClampNeg)).toNatClampNeg) a3) (fun s8 => some (none, s8))) else gd (p_inB ((4 : Int32) + (s.1 165 a2.toNatClampNeg)) 16 = true) (nm (uI s 181 (((4 : Int32) + (s.1 165 a2.toNatClampNeg)).toNatClampNeg) a3) (fun s10 => some (none, s10)))) else gd (p_inB ((100 : Int32) + a1) 400 = true) (nm (uI s 171 (((100 : Int32) + a1).toNatClampNeg) a3) (fun s12 => some (none, s12)))) (qev en (d + 1) 400 [.ref 151, .int a1, .int a2, .int a3] s) := by
  refine e_enter ix_X12_linkBehind (Nat.le_of_ble_eq_true rfl) ?_
  show qle _ (qE (qev en d) en none tb_X12_linkBehind (0, [(0, .ref 151), (1, .int a1), (2, .int a2), (3, .int a3)], []) s)
  refine e_L 2 (f' := (3, [(0, .ref 151), (1, .int a1), (2, .int a2), (3, .int a3)], [.int (-2 : Int32), .int a1])) rfl ?_
  refine e_icmp 19 rfl rfl rfl (fun c1 => ?_) (fun c1 => ?_)
  · refine e_L 1 (f' := (20, [(0, .ref 151), (1, .int a1), (2, .int a2), (3, .int a3)], [.ref 151])) rfl ?_
    refine e_gR (q := 169) 12 38 rfl rfl lc_151 lr_151_38 ?_
    refine e_L 1 (f' := (24, [(0, .ref 151), (1, .int a1), (2, .int a2), (3, .int a3)], [.int a2, .ref 169])) rfl ?_
    refine qle_gd fun h2 => ?_
    refine e_ial (n := 400) (k := a2.toNatClampNeg) rfl lc_169 ln_169 h2 rfl ?_
    refine e_L 1 (f' := (27, [(0, .ref 151), (1, .int a1), (2, .int a2), (3, .int a3)], [.int (-2 : Int32), .int (s.1 169 a2.toNatClampNeg)])) rfl ?_
    refine e_icmp 47 rfl rfl rfl (fun c3 => ?_) (fun c3 => ?_)
    · refine e_L 1 (f' := (48, [(0, .ref 151), (1, .int a1), (2, .int a2), (3, .int a3)], [.ref 151])) rfl ?_
      refine e_gR (q := 170) 12 39 rfl rfl lc_151 lr_151_39 ?_
      refine e_L 1 (f' := (52, [(0, .ref 151), (1, .int a1), (2, .int a2), (3, .int a3)], [.int a2, .ref 170])) rfl ?_
      refine e_ial (n := 400) (k := a2.toNatClampNeg) rfl lc_170 ln_170 h2 rfl ?_
      refine e_ifz 74 rfl rfl rfl (fun c4 => ?_) (fun c4 => ?_)
      · refine e_L 1 (f' := (75, [(0, .ref 151), (1, .int a1), (2, .int a2), (3, .int a3)], [.ref 151])) rfl ?_
        refine e_gR (q := 173) 12 42 rfl rfl lc_151 lr_151_42 ?_
        refine e_L 2 (f' := (81, [(0, .ref 151), (1, .int a1), (2, .int a2), (3, .int a3)], [.ref 151, .int (100 : Int32), .ref 173])) rfl ?_
        refine e_gR (q := 169) 12 38 rfl rfl lc_151 lr_151_38 ?_
        refine e_L 1 (f' := (85, [(0, .ref 151), (1, .int a1), (2, .int a2), (3, .int a3)], [.int a2, .ref 169, .int (100 : Int32), .ref 173])) rfl ?_
        refine e_ial (n := 400) (k := a2.toNatClampNeg) rfl lc_169 ln_169 h2 rfl ?_
        refine e_L 2 (f' := (88, [(0, .ref 151), (1, .int a1), (2, .int a2), (3, .int a3)], [.int a3, .int ((100 : Int32) + (s.1 169 a2.toNatClampNeg)), .ref 173])) rfl ?_
        refine qle_gd fun h5 => ?_
        refine e_ias (n := 400) (k := ((100 : Int32) + (s.1 169 a2.toNatClampNeg)).toNatClampNeg) rfl lc_173 ln_173 h5 rfl ?_
        refine e_nS fun s6 => ?_
        exact e_rV rfl rfl
      · refine e_L 1 (f' := (57, [(0, .ref 151), (1, .int a1), (2, .int a2), (3, .int a3)], [.ref 151])) rfl ?_
        refine e_gR (q := 172) 12 41 rfl rfl lc_151 lr_151_41 ?_
        refine e_L 2 (f' := (63, [(0, .ref 151), (1, .int a1), (2, .int a2), (3, .int a3)], [.ref 151, .int (100 : Int32), .ref 172])) rfl ?_
        refine e_gR (q := 169) 12 38 rfl rfl lc_151 lr_151_38 ?_
        refine e_L 1 (f' := (67, [(0, .ref 151), (1, .int a1), (2, .int a2), (3, .int a3)], [.int a2, .ref 169, .int (100 : Int32), .ref 172])) rfl ?_
        refine e_ial (n := 400) (k := a2.toNatClampNeg) rfl lc_169 ln_169 h2 rfl ?_
        refine e_L 2 (f' := (70, [(0, .ref 151), (1, .int a1), (2, .int a2), (3, .int a3)], [.int a3, .int ((100 : Int32) + (s.1 169 a2.toNatClampNeg)), .ref 172])) rfl ?_
        refine qle_gd fun h7 => ?_
        refine e_ias (n := 400) (k := ((100 : Int32) + (s.1 169 a2.toNatClampNeg)).toNatClampNeg) rfl lc_172 ln_172 h7 rfl ?_
        refine e_nS fun s8 => ?_
        refine e_L 1 (f' := (89, [(0, .ref 151), (1, .int a1), (2, .int a2), (3, .int a3)], [])) rfl ?_
        exact e_rV rfl rfl
    · refine e_L 1 (f' := (31, [(0, .ref 151), (1, .int a1), (2, .int a2), (3, .int a3)], [.ref 151])) rfl ?_
      refine e_gR (q := 181) 12 50 rfl rfl lc_151 lr_151_50 ?_
      refine e_L 2 (f' := (36, [(0, .ref 151), (1, .int a1), (2, .int a2), (3, .int a3)], [.ref 151, .int (4 : Int32), .ref 181])) rfl ?_
      refine e_gR (q := 165) 12 34 rfl rfl lc_151 lr_151_34 ?_
      refine e_L 1 (f' := (40, [(0, .ref 151), (1, .int a1), (2, .int a2), (3, .int a3)], [.int a2, .ref 165, .int (4 : Int32), .ref 181])) rfl ?_
      refine e_ial (n := 400) (k := a2.toNatClampNeg) rfl lc_165 ln_165 h2 rfl ?_
      refine e_L 2 (f' := (43, [(0, .ref 151), (1, .int a1), (2, .int a2), (3, .int a3)], [.int a3, .int ((4 : Int32) + (s.1 165 a2.toNatClampNeg)), .ref 181])) rfl ?_
      refine qle_gd fun h9 => ?_
      refine e_ias (n := 16) (k := ((4 : Int32) + (s.1 165 a2.toNatClampNeg)).toNatClampNeg) rfl lc_181 ln_181 h9 rfl ?_
      refine e_nS fun s10 => ?_
      refine e_L 1 (f' := (89, [(0, .ref 151), (1, .int a1), (2, .int a2), (3, .int a3)], [])) rfl ?_
      exact e_rV rfl rfl
  · refine e_L 1 (f' := (7, [(0, .ref 151), (1, .int a1), (2, .int a2), (3, .int a3)], [.ref 151])) rfl ?_
    refine e_gR (q := 171) 12 40 rfl rfl lc_151 lr_151_40 ?_
    refine e_L 4 (f' := (15, [(0, .ref 151), (1, .int a1), (2, .int a2), (3, .int a3)], [.int a3, .int ((100 : Int32) + a1), .ref 171])) rfl ?_
    refine qle_gd fun h11 => ?_
    refine e_ias (n := 400) (k := ((100 : Int32) + a1).toNatClampNeg) rfl lc_171 ln_171 h11 rfl ?_
    refine e_nS fun s12 => ?_
    refine e_L 1 (f' := (89, [(0, .ref 151), (1, .int a1), (2, .int a2), (3, .int a3)], [])) rfl ?_
    exact e_rV rfl rfl
set_option maxRecDepth 100000 in
set_option maxHeartbeats 4000000 in
theorem le_X12_exchange (en : pN) (d : Nat) (a1 : Int32) (s : qS) : qle (gd (p_inB a1 400 = true) (nm (s.1 171 a1.toNatClampNeg) (fun z2 => if ¬ z2 = (-2 : Int32) then bI (qev en d 399 [.ref 151, .int a1] s) (fun w4 s5 => gd (p_inB ((100 : Int32) + z2) 400 = true) (nm (s5.1 171 ((100 : Int32) + z2).toNatClampNeg) (fun z8 => bV (qev en d 400 [.ref 151, .int w4, .int a1, .int z2] s5) (fun s10 => nm (uI s10 171 (((100 : Int32) + z2).toNatClampNeg) (a1 - (100 : Int32))) (fun s12 => nm (uI s12 171 (a1.toNatClampNeg) z8) (fun s13 => some (some (.int (1 : Int32)), s13))))))) else some (some (.int (0 : Int32)), s)))) (qev en (d + 1) 401 [.ref 151, .int a1] s) := by
  refine e_enter ix_X12_exchange (Nat.le_of_ble_eq_true rfl) ?_
  show qle _ (qE (qev en d) en (some .boolean) tb_X12_exchange (0, [(0, .ref 151), (1, .int a1)], []) s)
  refine e_L 5 (f' := (6, [(2, .int (a1 - (100 : Int32))), (0, .ref 151), (1, .int a1)], [.ref 151])) rfl ?_
  refine e_gR (q := 171) 12 40 rfl rfl lc_151 lr_151_40 ?_
  refine e_L 1 (f' := (10, [(2, .int (a1 - (100 : Int32))), (0, .ref 151), (1, .int a1)], [.int a1, .ref 171])) rfl ?_
  refine qle_gd fun h1 => ?_
  refine e_ial (n := 400) (k := a1.toNatClampNeg) rfl lc_171 ln_171 h1 rfl ?_
  refine e_nI fun z2 => ?_
  refine e_L 3 (f' := (15, [(3, .int z2), (2, .int (a1 - (100 : Int32))), (0, .ref 151), (1, .int a1)], [.int (-2 : Int32), .int z2])) rfl ?_
  refine e_icmp 20 rfl rfl rfl (fun c3 => ?_) (fun c3 => ?_)
  · refine e_L 2 (f' := (22, [(3, .int z2), (2, .int (a1 - (100 : Int32))), (0, .ref 151), (1, .int a1)], [.int a1, .ref 151])) rfl ?_
    refine e_vI 399 rfl rfl ix_X12_lineBefore rfl (q_recvOf lc_151 rfl) (Nat.le_of_ble_eq_true rfl) (fun w4 s5 e6 => ?_)
    refine e_L 2 (f' := (28, [(4, .int w4), (3, .int z2), (2, .int (a1 - (100 : Int32))), (0, .ref 151), (1, .int a1)], [.ref 151])) rfl ?_
    refine e_gR (q := 171) 12 40 rfl rfl lc_151 lr_151_40 ?_
    refine e_L 3 (f' := (35, [(4, .int w4), (3, .int z2), (2, .int (a1 - (100 : Int32))), (0, .ref 151), (1, .int a1)], [.int ((100 : Int32) + z2), .ref 171])) rfl ?_
    refine qle_gd fun h7 => ?_
    refine e_ial (n := 400) (k := ((100 : Int32) + z2).toNatClampNeg) rfl lc_171 ln_171 h7 rfl ?_
    refine e_nI fun z8 => ?_
    refine e_L 5 (f' := (43, [(5, .int z8), (4, .int w4), (3, .int z2), (2, .int (a1 - (100 : Int32))), (0, .ref 151), (1, .int a1)], [.int z2, .int a1, .int w4, .ref 151])) rfl ?_
    refine e_vV 400 rfl rfl ix_X12_linkBehind rfl (q_recvOf lc_151 rfl) (Nat.le_of_ble_eq_true rfl) (fun s10 e11 => ?_)
    refine e_L 1 (f' := (47, [(5, .int z8), (4, .int w4), (3, .int z2), (2, .int (a1 - (100 : Int32))), (0, .ref 151), (1, .int a1)], [.ref 151])) rfl ?_
    refine e_gR (q := 171) 12 40 rfl rfl lc_151 lr_151_40 ?_
    refine e_L 4 (f' := (55, [(5, .int z8), (4, .int w4), (3, .int z2), (2, .int (a1 - (100 : Int32))), (0, .ref 151), (1, .int a1)], [.int (a1 - (100 : Int32)), .int ((100 : Int32) + z2), .ref 171])) rfl ?_
    refine e_ias (n := 400) (k := ((100 : Int32) + z2).toNatClampNeg) rfl lc_171 ln_171 h7 rfl ?_
    refine e_nS fun s12 => ?_
    refine e_L 1 (f' := (57, [(5, .int z8), (4, .int w4), (3, .int z2), (2, .int (a1 - (100 : Int32))), (0, .ref 151), (1, .int a1)], [.ref 151])) rfl ?_
    refine e_gR (q := 171) 12 40 rfl rfl lc_151 lr_151_40 ?_
    refine e_L 2 (f' := (63, [(5, .int z8), (4, .int w4), (3, .int z2), (2, .int (a1 - (100 : Int32))), (0, .ref 151), (1, .int a1)], [.int z8, .int a1, .ref 171])) rfl ?_
    refine e_ias (n := 400) (k := a1.toNatClampNeg) rfl lc_171 ln_171 h1 rfl ?_
    refine e_nS fun s13 => ?_
    refine e_L 1 (f' := (65, [(5, .int z8), (4, .int w4), (3, .int z2), (2, .int (a1 - (100 : Int32))), (0, .ref 151), (1, .int a1)], [.int (1 : Int32)])) rfl ?_
    exact e_rZ rfl rfl (by decide)
  · refine e_L 1 (f' := (19, [(3, .int z2), (2, .int (a1 - (100 : Int32))), (0, .ref 151), (1, .int a1)], [.int (0 : Int32)])) rfl ?_
    exact e_rZ rfl rfl (by decide)
set_option maxRecDepth 100000 in
set_option maxHeartbeats 4000000 in
theorem le_X12_leaveOut (en : pN) (d : Nat) (a1 : Int32) (s : qS) : qle (gd (p_inB a1 400 = true) (if (s.1 164 a1.toNatClampNeg) = (17 : Int32) then some (some (.int (0 : Int32)), s) else if ¬ (s.1 164 a1.toNatClampNeg) = (18 : Int32) then bI (qev en d 399 [.ref 151, .int a1] s) (fun w4 s5 => bV (qev en d 400 [.ref 151, .int w4, .int a1, .int (s5.1 171 a1.toNatClampNeg)] s5) (fun s8 => nm (uI s8 171 (a1.toNatClampNeg) (-2 : Int32)) (fun s10 => nm (uI s10 175 (a1.toNatClampNeg) (vp_nar .boolean (1 : Int32))) (fun s11 => some (some (.int (1 : Int32)), s11))))) else some (some (.int (0 : Int32)), s))) (qev en (d + 1) 402 [.ref 151, .int a1] s) := by
  refine e_enter ix_X12_leaveOut (Nat.le_of_ble_eq_true rfl) ?_
  show qle _ (qE (qev en d) en (some .boolean) tb_X12_leaveOut (0, [(0, .ref 151), (1, .int a1)], []) s)
  refine e_L 1 (f' := (1, [(0, .ref 151), (1, .int a1)], [.ref 151])) rfl ?_
  refine e_gR (q := 164) 12 33 rfl rfl lc_151 lr_151_33 ?_
  refine e_L 1 (f' := (5, [(0, .ref 151), (1, .int a1)], [.int a1, .ref 164])) rfl ?_
  refine qle_gd fun h1 => ?_
  refine e_ial (n := 400) (k := a1.toNatClampNeg) rfl lc_164 ln_164 h1 rfl ?_
  refine e_L 1 (f' := (8, [(0, .ref 151), (1, .int a1)], [.int (17 : Int32), .int (s.1 164 a1.toNatClampNeg)])) rfl ?_
  refine e_icmp 22 rfl rfl rfl (fun c2 => ?_) (fun c2 => ?_)
  · refine e_L 1 (f' := (23, [(0, .ref 151), (1, .int a1)], [.int (0 : Int32)])) rfl ?_
    exact e_rZ rfl rfl (by decide)
  · refine e_L 1 (f' := (12, [(0, .ref 151), (1, .int a1)], [.ref 151])) rfl ?_
    refine e_gR (q := 164) 12 33 rfl rfl lc_151 lr_151_33 ?_
    refine e_L 1 (f' := (16, [(0, .ref 151), (1, .int a1)], [.int a1, .ref 164])) rfl ?_
    refine e_ial (n := 400) (k := a1.toNatClampNeg) rfl lc_164 ln_164 h1 rfl ?_
    refine e_L 1 (f' := (19, [(0, .ref 151), (1, .int a1)], [.int (18 : Int32), .int (s.1 164 a1.toNatClampNeg)])) rfl ?_
    refine e_icmp 24 rfl rfl rfl (fun c3 => ?_) (fun c3 => ?_)
    · refine e_L 3 (f' := (27, [(0, .ref 151), (1, .int a1)], [.int a1, .ref 151, .ref 151])) rfl ?_
      refine e_vI 399 rfl rfl ix_X12_lineBefore rfl (q_recvOf lc_151 rfl) (Nat.le_of_ble_eq_true rfl) (fun w4 s5 e6 => ?_)
      refine e_L 2 (f' := (32, [(0, .ref 151), (1, .int a1)], [.ref 151, .int a1, .int w4, .ref 151])) rfl ?_
      refine e_gR (q := 171) 12 40 rfl rfl lc_151 lr_151_40 ?_
      refine e_L 1 (f' := (36, [(0, .ref 151), (1, .int a1)], [.int a1, .ref 171, .int a1, .int w4, .ref 151])) rfl ?_
      refine e_ial (n := 400) (k := a1.toNatClampNeg) rfl lc_171 ln_171 h1 rfl ?_
      refine e_vV 400 rfl rfl ix_X12_linkBehind rfl (q_recvOf lc_151 rfl) (Nat.le_of_ble_eq_true rfl) (fun s8 e9 => ?_)
      refine e_L 1 (f' := (41, [(0, .ref 151), (1, .int a1)], [.ref 151])) rfl ?_
      refine e_gR (q := 171) 12 40 rfl rfl lc_151 lr_151_40 ?_
      refine e_L 2 (f' := (47, [(0, .ref 151), (1, .int a1)], [.int (-2 : Int32), .int a1, .ref 171])) rfl ?_
      refine e_ias (n := 400) (k := a1.toNatClampNeg) rfl lc_171 ln_171 h1 rfl ?_
      refine e_nS fun s10 => ?_
      refine e_L 1 (f' := (49, [(0, .ref 151), (1, .int a1)], [.ref 151])) rfl ?_
      refine e_gR (q := 175) 12 44 rfl rfl lc_151 lr_151_44 ?_
      refine e_L 2 (f' := (54, [(0, .ref 151), (1, .int a1)], [.int (1 : Int32), .int a1, .ref 175])) rfl ?_
      refine e_bas (n := 400) (k := a1.toNatClampNeg) rfl lc_175 ln_175 h1 rfl ?_
      refine e_nS fun s11 => ?_
      refine e_L 1 (f' := (56, [(0, .ref 151), (1, .int a1)], [.int (1 : Int32)])) rfl ?_
      exact e_rZ rfl rfl (by decide)
    · refine e_L 1 (f' := (23, [(0, .ref 151), (1, .int a1)], [.int (0 : Int32)])) rfl ?_
      exact e_rZ rfl rfl (by decide)
set_option maxRecDepth 100000 in
set_option maxHeartbeats 4000000 in
theorem le_X12_copyLoad (en : pN) (d : Nat) (a1 : Int32) (s : qS) : qle (bI (qev en d 399 [.ref 151, .int a1] s) (fun w1 s2 => if w1 = (-2 : Int32) then some (some (.int (0 : Int32)), s2) else gd (p_inB a1 400 = true) (if ¬ (s2.1 164 a1.toNatClampNeg) = (1 : Int32) then some (some (.int (0 : Int32)), s2) else gd (p_inB ((100 : Int32) + w1) 400 = true) (if ¬ (s2.1 164 ((100 : Int32) + w1).toNatClampNeg) = (1 : Int32) then some (some (.int (0 : Int32)), s2) else if (s2.1 166 ((100 : Int32) + w1).toNatClampNeg) = (s2.1 166 a1.toNatClampNeg) then nm (uI s2 164 (a1.toNatClampNeg) (0 : Int32)) (fun s10 => nm (uI s10 176 (a1.toNatClampNeg) ((-1 : Int32) - (s10.1 167 ((100 : Int32) + w1).toNatClampNeg))) (fun s11 => nm (uI s11 166 (a1.toNatClampNeg) (-2 : Int32)) (fun s12 => some (some (.int (1 : Int32)), s12)))) else some (some (.int (0 : Int32)), s2))))) (qev en (d + 1) 403 [.ref 151, .int a1] s) := by
  refine e_enter ix_X12_copyLoad (Nat.le_of_ble_eq_true rfl) ?_
  show qle _ (qE (qev en d) en (some .boolean) tb_X12_copyLoad (0, [(0, .ref 151), (1, .int a1)], []) s)
  refine e_L 2 (f' := (2, [(0, .ref 151), (1, .int a1)], [.int a1, .ref 151])) rfl ?_
  refine e_vI 399 rfl rfl ix_X12_lineBefore rfl (q_recvOf lc_151 rfl) (Nat.le_of_ble_eq_true rfl) (fun w1 s2 e3 => ?_)
  refine e_L 3 (f' := (9, [(2, .int w1), (0, .ref 151), (1, .int a1)], [.int (-2 : Int32), .int w1])) rfl ?_
  refine e_icmp 53 rfl rfl rfl (fun c4 => ?_) (fun c4 => ?_)
  · refine e_L 1 (f' := (54, [(2, .int w1), (0, .ref 151), (1, .int a1)], [.int (0 : Int32)])) rfl ?_
    exact e_rZ rfl rfl (by decide)
  · refine e_L 1 (f' := (13, [(2, .int w1), (0, .ref 151), (1, .int a1)], [.ref 151])) rfl ?_
    refine e_gR (q := 164) 12 33 rfl rfl lc_151 lr_151_33 ?_
    refine e_L 1 (f' := (17, [(2, .int w1), (0, .ref 151), (1, .int a1)], [.int a1, .ref 164])) rfl ?_
    refine qle_gd fun h5 => ?_
    refine e_ial (n := 400) (k := a1.toNatClampNeg) rfl lc_164 ln_164 h5 rfl ?_
    refine e_L 1 (f' := (19, [(2, .int w1), (0, .ref 151), (1, .int a1)], [.int (1 : Int32), .int (s2.1 164 a1.toNatClampNeg)])) rfl ?_
    refine e_icmp 53 rfl rfl rfl (fun c6 => ?_) (fun c6 => ?_)
    · refine e_L 1 (f' := (54, [(2, .int w1), (0, .ref 151), (1, .int a1)], [.int (0 : Int32)])) rfl ?_
      exact e_rZ rfl rfl (by decide)
    · refine e_L 1 (f' := (23, [(2, .int w1), (0, .ref 151), (1, .int a1)], [.ref 151])) rfl ?_
      refine e_gR (q := 164) 12 33 rfl rfl lc_151 lr_151_33 ?_
      refine e_L 3 (f' := (30, [(2, .int w1), (0, .ref 151), (1, .int a1)], [.int ((100 : Int32) + w1), .ref 164])) rfl ?_
      refine qle_gd fun h7 => ?_
      refine e_ial (n := 400) (k := ((100 : Int32) + w1).toNatClampNeg) rfl lc_164 ln_164 h7 rfl ?_
      refine e_L 1 (f' := (32, [(2, .int w1), (0, .ref 151), (1, .int a1)], [.int (1 : Int32), .int (s2.1 164 ((100 : Int32) + w1).toNatClampNeg)])) rfl ?_
      refine e_icmp 53 rfl rfl rfl (fun c8 => ?_) (fun c8 => ?_)
      · refine e_L 1 (f' := (54, [(2, .int w1), (0, .ref 151), (1, .int a1)], [.int (0 : Int32)])) rfl ?_
        exact e_rZ rfl rfl (by decide)
      · refine e_L 1 (f' := (36, [(2, .int w1), (0, .ref 151), (1, .int a1)], [.ref 151])) rfl ?_
        refine e_gR (q := 166) 12 35 rfl rfl lc_151 lr_151_35 ?_
        refine e_L 3 (f' := (43, [(2, .int w1), (0, .ref 151), (1, .int a1)], [.int ((100 : Int32) + w1), .ref 166])) rfl ?_
        refine e_ial (n := 400) (k := ((100 : Int32) + w1).toNatClampNeg) rfl lc_166 ln_166 h7 rfl ?_
        refine e_L 1 (f' := (45, [(2, .int w1), (0, .ref 151), (1, .int a1)], [.ref 151, .int (s2.1 166 ((100 : Int32) + w1).toNatClampNeg)])) rfl ?_
        refine e_gR (q := 166) 12 35 rfl rfl lc_151 lr_151_35 ?_
        refine e_L 1 (f' := (49, [(2, .int w1), (0, .ref 151), (1, .int a1)], [.int a1, .ref 166, .int (s2.1 166 ((100 : Int32) + w1).toNatClampNeg)])) rfl ?_
        refine e_ial (n := 400) (k := a1.toNatClampNeg) rfl lc_166 ln_166 h5 rfl ?_
        refine e_icmp 55 rfl rfl rfl (fun c9 => ?_) (fun c9 => ?_)
        · refine e_L 1 (f' := (56, [(2, .int w1), (0, .ref 151), (1, .int a1)], [.ref 151])) rfl ?_
          refine e_gR (q := 164) 12 33 rfl rfl lc_151 lr_151_33 ?_
          refine e_L 2 (f' := (61, [(2, .int w1), (0, .ref 151), (1, .int a1)], [.int (0 : Int32), .int a1, .ref 164])) rfl ?_
          refine e_ias (n := 400) (k := a1.toNatClampNeg) rfl lc_164 ln_164 h5 rfl ?_
          refine e_nS fun s10 => ?_
          refine e_L 1 (f' := (63, [(2, .int w1), (0, .ref 151), (1, .int a1)], [.ref 151])) rfl ?_
          refine e_gR (q := 176) 12 45 rfl rfl lc_151 lr_151_45 ?_
          refine e_L 3 (f' := (69, [(2, .int w1), (0, .ref 151), (1, .int a1)], [.ref 151, .int (-1 : Int32), .int a1, .ref 176])) rfl ?_
          refine e_gR (q := 167) 12 36 rfl rfl lc_151 lr_151_36 ?_
          refine e_L 3 (f' := (76, [(2, .int w1), (0, .ref 151), (1, .int a1)], [.int ((100 : Int32) + w1), .ref 167, .int (-1 : Int32), .int a1, .ref 176])) rfl ?_
          refine e_ial (n := 400) (k := ((100 : Int32) + w1).toNatClampNeg) rfl lc_167 ln_167 h7 rfl ?_
          refine e_L 1 (f' := (78, [(2, .int w1), (0, .ref 151), (1, .int a1)], [.int ((-1 : Int32) - (s10.1 167 ((100 : Int32) + w1).toNatClampNeg)), .int a1, .ref 176])) rfl ?_
          refine e_ias (n := 400) (k := a1.toNatClampNeg) rfl lc_176 ln_176 h5 rfl ?_
          refine e_nS fun s11 => ?_
          refine e_L 1 (f' := (80, [(2, .int w1), (0, .ref 151), (1, .int a1)], [.ref 151])) rfl ?_
          refine e_gR (q := 166) 12 35 rfl rfl lc_151 lr_151_35 ?_
          refine e_L 2 (f' := (86, [(2, .int w1), (0, .ref 151), (1, .int a1)], [.int (-2 : Int32), .int a1, .ref 166])) rfl ?_
          refine e_ias (n := 400) (k := a1.toNatClampNeg) rfl lc_166 ln_166 h5 rfl ?_
          refine e_nS fun s12 => ?_
          refine e_L 1 (f' := (88, [(2, .int w1), (0, .ref 151), (1, .int a1)], [.int (1 : Int32)])) rfl ?_
          exact e_rZ rfl rfl (by decide)
        · refine e_L 1 (f' := (54, [(2, .int w1), (0, .ref 151), (1, .int a1)], [.int (0 : Int32)])) rfl ?_
          exact e_rZ rfl rfl (by decide)
noncomputable def L_X12_drop_18 (en : pN) (d : Nat) (v1 : Int32) (s : qS) : Option qR := qE (qev en d) en (some .int) tb_X12_drop (18, [(1, .int v1)], []) s
set_option maxRecDepth 100000 in
set_option maxHeartbeats 4000000 in
theorem le_X12_drop_18 (en : pN) (d : Nat) (v1 : Int32) (s : qS) : qle (bI (qev en d 294 [.int v1] s) (fun w1 s2 => some (some (.int w1), s2))) (L_X12_drop_18 en d v1 s) := by
  show qle _ (qE (qev en d) en (some .int) tb_X12_drop (18, [(1, .int v1)], []) s)
  refine e_L 1 (f' := (19, [(1, .int v1)], [.int v1])) rfl ?_
  refine e_sI 294 rfl rfl rfl ix_X12_truth rfl (Nat.le_of_ble_eq_true rfl) (fun w1 s2 e3 => ?_)
  exact e_rI rfl rfl
set_option maxRecDepth 100000 in
set_option maxHeartbeats 4000000 in
theorem le_X12_drop (en : pN) (d : Nat) (s : qS) : qle (nm (uI s 151 147 (0 : Int32)) (fun s1 => if (s.1 151 147) = (0 : Int32) then L_X12_drop_18 en d (s.1 151 147) s1 else bV (qev en d 397 [.ref 151] s1) (fun s4 => L_X12_drop_18 en d (s.1 151 147) s4))) (qev en (d + 1) 404 [.ref 151] s) := by
  refine e_enter ix_X12_drop (Nat.le_of_ble_eq_true rfl) ?_
  show qle _ (qE (qev en d) en (some .int) tb_X12_drop (0, [(0, .ref 151)], []) s)
  refine e_L 1 (f' := (1, [(0, .ref 151)], [.ref 151])) rfl ?_
  refine e_gI 12 147 rfl rfl lc_151 ?_
  refine e_L 3 (f' := (7, [(1, .int (s.1 151 147)), (0, .ref 151)], [.int (0 : Int32), .ref 151])) rfl ?_
  refine e_pI 12 147 rfl rfl lc_151 (by decide +kernel) ?_
  refine e_nS fun s1 => ?_
  refine e_L 1 (f' := (11, [(1, .int (s.1 151 147)), (0, .ref 151)], [.int (s.1 151 147)])) rfl ?_
  refine e_ifz 18 rfl rfl rfl (fun c2 => ?_) (fun c2 => ?_)
  · exact qE_sub (qsubL [0] rfl (ks := [1, 0]) rfl (by decide))
  · refine e_L 1 (f' := (15, [(1, .int (s.1 151 147)), (0, .ref 151)], [.ref 151])) rfl ?_
    refine e_vV 397 rfl rfl ix_X12_forgetOther rfl (q_recvOf lc_151 rfl) (Nat.le_of_ble_eq_true rfl) (fun s4 e5 => ?_)
    exact qE_sub (qsubL [0] rfl (ks := [1, 0]) rfl (by decide))
noncomputable def L_X12_sound_68 (en : pN) (d : Nat) (v1 : Int32) (v3 : Int32) (s : qS) : Option qR := qE (qev en d) en (some .int) tb_X12_sound (68, [(0, .ref 151), (1, .int v1), (3, .int v3)], []) s
noncomputable def L_X12_sound_91 (en : pN) (d : Nat) (v1 : Int32) (v3 : Int32) (v4 : Int32) (s : qS) : Option qR := qE (qev en d) en (some .int) tb_X12_sound (91, [(0, .ref 151), (1, .int v1), (3, .int v3), (4, .int v4)], []) s
noncomputable def L_X12_sound_141 (en : pN) (d : Nat) (v1 : Int32) (v3 : Int32) (v4 : Int32) (s : qS) : Option qR := qE (qev en d) en (some .int) tb_X12_sound (141, [(0, .ref 151), (1, .int v1), (3, .int v3), (4, .int v4)], []) s
noncomputable def L_X12_sound_225 (en : pN) (d : Nat) (v3 : Int32) (v4 : Int32) (s : qS) : Option qR := qE (qev en d) en (some .int) tb_X12_sound (225, [(0, .ref 151), (3, .int v3), (4, .int v4)], []) s
noncomputable def L_X12_sound_263 (en : pN) (d : Nat) (v3 : Int32) (s : qS) : Option qR := qE (qev en d) en (some .int) tb_X12_sound (263, [(0, .ref 151), (3, .int v3)], []) s
noncomputable def L_X12_sound_278 (en : pN) (d : Nat) (v3 : Int32) (vs1 : Int32) (s : qS) : Option qR := qE (qev en d) en (some .int) tb_X12_sound (278, [(3, .int v3)], [.int vs1, .ref 151]) s
noncomputable def L_X12_sound_292 (en : pN) (d : Nat) (vs0 : Int32) (s : qS) : Option qR := qE (qev en d) en (some .int) tb_X12_sound (292, [], [.int vs0]) s
set_option maxRecDepth 100000 in
set_option maxHeartbeats 4000000 in
theorem le_X12_sound_68 (en : pN) (d : Nat) (v1 : Int32) (v3 : Int32) (s : qS) : qle (if (s.1 151 154) ≤ v3 then bV (qev en d 293 [.ref 151, .int (1 : Int32), .int (2 : Int32)] s) (fun s3 => nm (uI s3 151 148 (1 : Int32)) (fun s5 => bI (qev en d 365 [.ref 151, .int v1, .int (0 : Int32)] s5) (fun w6 s7 => if ¬ w6 = (-3 : Int32) then L_X12_sound_225 en d (-2 : Int32) (0 : Int32) s7 else some (some (.int (-3 : Int32)), s7)))) else gd (p_inB v3 20001 = true) (gd (p_inB v3 4000 = true) (nm (uI s 247 (v3.toNatClampNeg) (s.1 225 v3.toNatClampNeg)) (fun s12 => L_X12_sound_91 en d v1 v3 (0 : Int32) s12)))) (L_X12_sound_68 en d v1 v3 s) := by
  show qle _ (qE (qev en d) en (some .int) tb_X12_sound (68, [(0, .ref 151), (1, .int v1), (3, .int v3)], []) s)
  refine e_L 2 (f' := (70, [(0, .ref 151), (1, .int v1), (3, .int v3)], [.ref 151, .int v3])) rfl ?_
  refine e_gI 12 154 rfl rfl lc_151 ?_
  refine e_icmp 194 rfl rfl rfl (fun c1 => ?_) (fun c1 => ?_)
  · refine e_L 3 (f' := (197, [(0, .ref 151), (1, .int v1), (3, .int v3)], [.int (2 : Int32), .int (1 : Int32), .ref 151])) rfl ?_
    refine e_vV 293 rfl rfl ix_X12_copyProgram rfl (q_recvOf lc_151 rfl) (Nat.le_of_ble_eq_true rfl) (fun s3 e4 => ?_)
    refine e_L 2 (f' := (202, [(0, .ref 151), (1, .int v1), (3, .int v3)], [.int (1 : Int32), .ref 151])) rfl ?_
    refine e_pI 12 148 rfl rfl lc_151 (by decide +kernel) ?_
    refine e_nS fun s5 => ?_
    refine e_L 3 (f' := (208, [(0, .ref 151), (1, .int v1), (3, .int v3)], [.int (0 : Int32), .int v1, .ref 151])) rfl ?_
    refine e_vI 365 rfl rfl ix_X12_tryAll rfl (q_recvOf lc_151 rfl) (Nat.le_of_ble_eq_true rfl) (fun w6 s7 e8 => ?_)
    refine e_L 1 (f' := (213, [(0, .ref 151), (1, .int v1), (3, .int v3)], [.int (-3 : Int32), .int w6])) rfl ?_
    refine e_icmp 219 rfl rfl rfl (fun c9 => ?_) (fun c9 => ?_)
    · refine e_L 4 (f' := (225, [(4, .int (0 : Int32)), (3, .int (-2 : Int32)), (0, .ref 151), (1, .int v1)], [])) rfl ?_
      exact qE_sub (qsubL [2, 1, 0] rfl (ks := [4, 3, 0, 1]) rfl (by decide))
    · refine e_L 1 (f' := (218, [(0, .ref 151), (1, .int v1), (3, .int v3)], [.int (-3 : Int32)])) rfl ?_
      exact e_rI rfl rfl
  · refine e_L 1 (f' := (77, [(0, .ref 151), (1, .int v1), (3, .int v3)], [.ref 151])) rfl ?_
    refine e_gR (q := 247) 12 151 rfl rfl lc_151 lr_151_151 ?_
    refine e_L 2 (f' := (82, [(0, .ref 151), (1, .int v1), (3, .int v3)], [.ref 151, .int v3, .ref 247])) rfl ?_
    refine e_gR (q := 225) 12 122 rfl rfl lc_151 lr_151_122 ?_
    refine e_L 1 (f' := (86, [(0, .ref 151), (1, .int v1), (3, .int v3)], [.int v3, .ref 225, .int v3, .ref 247])) rfl ?_
    refine qle_gd fun h10 => ?_
    refine e_ial (n := 20001) (k := v3.toNatClampNeg) rfl lc_225 ln_225 h10 rfl ?_
    refine qle_gd fun h11 => ?_
    refine e_ias (n := 4000) (k := v3.toNatClampNeg) rfl lc_247 ln_247 h11 rfl ?_
    refine e_nS fun s12 => ?_
    refine e_L 2 (f' := (91, [(4, .int (0 : Int32)), (0, .ref 151), (1, .int v1), (3, .int v3)], [])) rfl ?_
    exact qE_sub (qsubL [1, 2, 3, 0] rfl (ks := [4, 0, 1, 3]) rfl (by decide))
set_option maxRecDepth 100000 in
set_option maxHeartbeats 4000000 in
theorem le_X12_sound_91 (en : pN) (d : Nat) (v1 : Int32) (v3 : Int32) (v4 : Int32) (s : qS) : qle (if (8 : Int32) ≤ v4 then L_X12_sound_141 en d v1 v3 (0 : Int32) s else gd (p_inB v3 20001 = true) (gd (p_inB ((((s.1 221 v3.toNatClampNeg) * (s.1 151 60)) + (44 : Int32)) + v4) 1610000 = true) (gd (p_inB (((8 : Int32) * v3) + v4) 32000 = true) (nm (uI s 248 ((((8 : Int32) * v3) + v4).toNatClampNeg) (s.1 210 ((((s.1 221 v3.toNatClampNeg) * (s.1 151 60)) + (44 : Int32)) + v4).toNatClampNeg)) (fun s5 => L_X12_sound_91 en d v1 v3 (v4 + (1 : Int32)) s5))))) (L_X12_sound_91 en d v1 v3 v4 s) := by
  show qle _ (qE (qev en d) en (some .int) tb_X12_sound (91, [(0, .ref 151), (1, .int v1), (3, .int v3), (4, .int v4)], []) s)
  refine e_L 2 (f' := (95, [(0, .ref 151), (1, .int v1), (3, .int v3), (4, .int v4)], [.int (8 : Int32), .int v4])) rfl ?_
  refine e_icmp 138 rfl rfl rfl (fun c1 => ?_) (fun c1 => ?_)
  · refine e_L 2 (f' := (141, [(4, .int (0 : Int32)), (0, .ref 151), (1, .int v1), (3, .int v3)], [])) rfl ?_
    exact qE_sub (qsubL [1, 2, 3, 0] rfl (ks := [4, 0, 1, 3]) rfl (by decide))
  · refine e_L 1 (f' := (99, [(0, .ref 151), (1, .int v1), (3, .int v3), (4, .int v4)], [.ref 151])) rfl ?_
    refine e_gR (q := 248) 12 152 rfl rfl lc_151 lr_151_152 ?_
    refine e_L 6 (f' := (110, [(0, .ref 151), (1, .int v1), (3, .int v3), (4, .int v4)], [.ref 151, .int (((8 : Int32) * v3) + v4), .ref 248])) rfl ?_
    refine e_gR (q := 210) 12 104 rfl rfl lc_151 lr_151_104 ?_
    refine e_L 1 (f' := (114, [(0, .ref 151), (1, .int v1), (3, .int v3), (4, .int v4)], [.ref 151, .ref 210, .int (((8 : Int32) * v3) + v4), .ref 248])) rfl ?_
    refine e_gR (q := 221) 12 116 rfl rfl lc_151 lr_151_116 ?_
    refine e_L 1 (f' := (118, [(0, .ref 151), (1, .int v1), (3, .int v3), (4, .int v4)], [.int v3, .ref 221, .ref 210, .int (((8 : Int32) * v3) + v4), .ref 248])) rfl ?_
    refine qle_gd fun h2 => ?_
    refine e_ial (n := 20001) (k := v3.toNatClampNeg) rfl lc_221 ln_221 h2 rfl ?_
    refine e_L 1 (f' := (120, [(0, .ref 151), (1, .int v1), (3, .int v3), (4, .int v4)], [.ref 151, .int (s.1 221 v3.toNatClampNeg), .ref 210, .int (((8 : Int32) * v3) + v4), .ref 248])) rfl ?_
    refine e_gI 12 60 rfl rfl lc_151 ?_
    refine e_L 5 (f' := (130, [(0, .ref 151), (1, .int v1), (3, .int v3), (4, .int v4)], [.int ((((s.1 221 v3.toNatClampNeg) * (s.1 151 60)) + (44 : Int32)) + v4), .ref 210, .int (((8 : Int32) * v3) + v4), .ref 248])) rfl ?_
    refine qle_gd fun h3 => ?_
    refine e_ial (n := 1610000) (k := ((((s.1 221 v3.toNatClampNeg) * (s.1 151 60)) + (44 : Int32)) + v4).toNatClampNeg) rfl lc_210 ln_210 h3 rfl ?_
    refine qle_gd fun h4 => ?_
    refine e_ias (n := 32000) (k := (((8 : Int32) * v3) + v4).toNatClampNeg) rfl lc_248 ln_248 h4 rfl ?_
    refine e_nS fun s5 => ?_
    refine e_L 2 (f' := (91, [(4, .int (v4 + (1 : Int32))), (0, .ref 151), (1, .int v1), (3, .int v3)], [])) rfl ?_
    exact qE_sub (qsubL [1, 2, 3, 0] rfl (ks := [4, 0, 1, 3]) rfl (by decide))
set_option maxRecDepth 100000 in
set_option maxHeartbeats 4000000 in
theorem le_X12_sound_141 (en : pN) (d : Nat) (v1 : Int32) (v3 : Int32) (v4 : Int32) (s : qS) : qle (if (24 : Int32) ≤ v4 then L_X12_sound_68 en d v1 (v3 + (1 : Int32)) s else gd (p_inB v3 20001 = true) (gd (p_inB ((((s.1 221 v3.toNatClampNeg) * (s.1 151 60)) + (12 : Int32)) + v4) 1610000 = true) (gd (p_inB (((24 : Int32) * v3) + v4) 96000 = true) (nm (uI s 249 ((((24 : Int32) * v3) + v4).toNatClampNeg) (s.1 210 ((((s.1 221 v3.toNatClampNeg) * (s.1 151 60)) + (12 : Int32)) + v4).toNatClampNeg)) (fun s5 => L_X12_sound_141 en d v1 v3 (v4 + (1 : Int32)) s5))))) (L_X12_sound_141 en d v1 v3 v4 s) := by
  show qle _ (qE (qev en d) en (some .int) tb_X12_sound (141, [(0, .ref 151), (1, .int v1), (3, .int v3), (4, .int v4)], []) s)
  refine e_L 2 (f' := (145, [(0, .ref 151), (1, .int v1), (3, .int v3), (4, .int v4)], [.int (24 : Int32), .int v4])) rfl ?_
  refine e_icmp 188 rfl rfl rfl (fun c1 => ?_) (fun c1 => ?_)
  · refine e_L 2 (f' := (68, [(3, .int (v3 + (1 : Int32))), (0, .ref 151), (1, .int v1), (4, .int v4)], [])) rfl ?_
    exact qE_sub (qsubL [1, 2, 0] rfl (ks := [3, 0, 1, 4]) rfl (by decide))
  · refine e_L 1 (f' := (149, [(0, .ref 151), (1, .int v1), (3, .int v3), (4, .int v4)], [.ref 151])) rfl ?_
    refine e_gR (q := 249) 12 153 rfl rfl lc_151 lr_151_153 ?_
    refine e_L 6 (f' := (160, [(0, .ref 151), (1, .int v1), (3, .int v3), (4, .int v4)], [.ref 151, .int (((24 : Int32) * v3) + v4), .ref 249])) rfl ?_
    refine e_gR (q := 210) 12 104 rfl rfl lc_151 lr_151_104 ?_
    refine e_L 1 (f' := (164, [(0, .ref 151), (1, .int v1), (3, .int v3), (4, .int v4)], [.ref 151, .ref 210, .int (((24 : Int32) * v3) + v4), .ref 249])) rfl ?_
    refine e_gR (q := 221) 12 116 rfl rfl lc_151 lr_151_116 ?_
    refine e_L 1 (f' := (168, [(0, .ref 151), (1, .int v1), (3, .int v3), (4, .int v4)], [.int v3, .ref 221, .ref 210, .int (((24 : Int32) * v3) + v4), .ref 249])) rfl ?_
    refine qle_gd fun h2 => ?_
    refine e_ial (n := 20001) (k := v3.toNatClampNeg) rfl lc_221 ln_221 h2 rfl ?_
    refine e_L 1 (f' := (170, [(0, .ref 151), (1, .int v1), (3, .int v3), (4, .int v4)], [.ref 151, .int (s.1 221 v3.toNatClampNeg), .ref 210, .int (((24 : Int32) * v3) + v4), .ref 249])) rfl ?_
    refine e_gI 12 60 rfl rfl lc_151 ?_
    refine e_L 5 (f' := (180, [(0, .ref 151), (1, .int v1), (3, .int v3), (4, .int v4)], [.int ((((s.1 221 v3.toNatClampNeg) * (s.1 151 60)) + (12 : Int32)) + v4), .ref 210, .int (((24 : Int32) * v3) + v4), .ref 249])) rfl ?_
    refine qle_gd fun h3 => ?_
    refine e_ial (n := 1610000) (k := ((((s.1 221 v3.toNatClampNeg) * (s.1 151 60)) + (12 : Int32)) + v4).toNatClampNeg) rfl lc_210 ln_210 h3 rfl ?_
    refine qle_gd fun h4 => ?_
    refine e_ias (n := 96000) (k := (((24 : Int32) * v3) + v4).toNatClampNeg) rfl lc_249 ln_249 h4 rfl ?_
    refine e_nS fun s5 => ?_
    refine e_L 2 (f' := (141, [(4, .int (v4 + (1 : Int32))), (0, .ref 151), (1, .int v1), (3, .int v3)], [])) rfl ?_
    exact qE_sub (qsubL [1, 2, 3, 0] rfl (ks := [4, 0, 1, 3]) rfl (by decide))
set_option maxRecDepth 100000 in
set_option maxHeartbeats 4000000 in
theorem le_X12_sound_225 (en : pN) (d : Nat) (v3 : Int32) (v4 : Int32) (s : qS) : qle (if (s.1 151 115) ≤ v4 then L_X12_sound_263 en d v3 s else if ¬ v3 = (-2 : Int32) then L_X12_sound_263 en d v3 s else bI (qev en d 406 [.ref 151, .int v4] s) (fun w3 s4 => if w3 = (0 : Int32) then L_X12_sound_225 en d v4 (v4 + (1 : Int32)) s4 else L_X12_sound_225 en d (-2 : Int32) (v4 + (1 : Int32)) s4)) (L_X12_sound_225 en d v3 v4 s) := by
  show qle _ (qE (qev en d) en (some .int) tb_X12_sound (225, [(0, .ref 151), (3, .int v3), (4, .int v4)], []) s)
  refine e_L 2 (f' := (228, [(0, .ref 151), (3, .int v3), (4, .int v4)], [.ref 151, .int v4])) rfl ?_
  refine e_gI 12 115 rfl rfl lc_151 ?_
  refine e_icmp 263 rfl rfl rfl (fun c1 => ?_) (fun c1 => ?_)
  · exact qE_sub (qsubL [0, 1] rfl (ks := [0, 3, 4]) rfl (by decide))
  · refine e_L 2 (f' := (237, [(0, .ref 151), (3, .int v3), (4, .int v4)], [.int (-2 : Int32), .int v3])) rfl ?_
    refine e_icmp 263 rfl rfl rfl (fun c2 => ?_) (fun c2 => ?_)
    · exact qE_sub (qsubL [0, 1] rfl (ks := [0, 3, 4]) rfl (by decide))
    · refine e_L 2 (f' := (243, [(0, .ref 151), (3, .int v3), (4, .int v4)], [.int v4, .ref 151])) rfl ?_
      refine e_vI 406 rfl rfl ix_X12_wasThere rfl (q_recvOf lc_151 rfl) (Nat.le_of_ble_eq_true rfl) (fun w3 s4 e5 => ?_)
      refine e_ifz 254 rfl rfl rfl (fun c6 => ?_) (fun c6 => ?_)
      · refine e_L 4 (f' := (225, [(4, .int (v4 + (1 : Int32))), (3, .int v4), (0, .ref 151)], [])) rfl ?_
        exact qE_sub (qsubL [2, 1, 0] rfl (ks := [4, 3, 0]) rfl (by decide))
      · refine e_L 5 (f' := (225, [(4, .int (v4 + (1 : Int32))), (3, .int (-2 : Int32)), (0, .ref 151)], [])) rfl ?_
        exact qE_sub (qsubL [2, 1, 0] rfl (ks := [4, 3, 0]) rfl (by decide))
set_option maxRecDepth 100000 in
set_option maxHeartbeats 4000000 in
theorem le_X12_sound_263 (en : pN) (d : Nat) (v3 : Int32) (s : qS) : qle (if ¬ v3 = (-2 : Int32) then L_X12_sound_278 en d v3 v3 s else L_X12_sound_278 en d v3 (s.1 151 150) s) (L_X12_sound_263 en d v3 s) := by
  show qle _ (qE (qev en d) en (some .int) tb_X12_sound (263, [(0, .ref 151), (3, .int v3)], []) s)
  refine e_L 3 (f' := (267, [(0, .ref 151), (3, .int v3)], [.int (-2 : Int32), .int v3, .ref 151])) rfl ?_
  refine e_icmp 277 rfl rfl rfl (fun c1 => ?_) (fun c1 => ?_)
  · refine e_L 1 (f' := (278, [(0, .ref 151), (3, .int v3)], [.int v3, .ref 151])) rfl ?_
    exact qE_sub (qsubL [1] rfl (ks := [0, 3]) rfl (by decide))
  · refine e_L 1 (f' := (271, [(0, .ref 151), (3, .int v3)], [.ref 151, .ref 151])) rfl ?_
    refine e_gI 12 150 rfl rfl lc_151 ?_
    refine e_L 1 (f' := (278, [(0, .ref 151), (3, .int v3)], [.int (s.1 151 150), .ref 151])) rfl ?_
    exact qE_sub (qsubL [1] rfl (ks := [0, 3]) rfl (by decide))
set_option maxRecDepth 100000 in
set_option maxHeartbeats 4000000 in
theorem le_X12_sound_278 (en : pN) (d : Nat) (v3 : Int32) (vs1 : Int32) (s : qS) : qle (nm (uI s 151 150 vs1) (fun s1 => if ¬ v3 = (-2 : Int32) then L_X12_sound_292 en d (0 : Int32) s1 else L_X12_sound_292 en d (1 : Int32) s1)) (L_X12_sound_278 en d v3 vs1 s) := by
  show qle _ (qE (qev en d) en (some .int) tb_X12_sound (278, [(3, .int v3)], [.int vs1, .ref 151]) s)
  refine e_pI 12 150 rfl rfl lc_151 rfl ?_
  refine e_nS fun s1 => ?_
  refine e_L 2 (f' := (284, [(3, .int v3)], [.int (-2 : Int32), .int v3])) rfl ?_
  refine e_icmp 291 rfl rfl rfl (fun c2 => ?_) (fun c2 => ?_)
  · refine e_L 1 (f' := (292, [(3, .int v3)], [.int (0 : Int32)])) rfl ?_
    exact qE_sub (qsubL [] rfl (ks := [3]) rfl (by decide))
  · refine e_L 2 (f' := (292, [(3, .int v3)], [.int (1 : Int32)])) rfl ?_
    exact qE_sub (qsubL [] rfl (ks := [3]) rfl (by decide))
set_option maxRecDepth 100000 in
set_option maxHeartbeats 4000000 in
theorem le_X12_sound_292 (en : pN) (d : Nat) (vs0 : Int32) (s : qS) : qle (bI (qev en d 294 [.int vs0] s) (fun w1 s2 => some (some (.int w1), s2))) (L_X12_sound_292 en d vs0 s) := by
  show qle _ (qE (qev en d) en (some .int) tb_X12_sound (292, [], [.int vs0]) s)
  refine e_sI 294 rfl rfl rfl ix_X12_truth rfl (Nat.le_of_ble_eq_true rfl) (fun w1 s2 e3 => ?_)
  exact e_rI rfl rfl
set_option maxRecDepth 100000 in
set_option maxHeartbeats 4000000 in
theorem le_X12_sound (en : pN) (d : Nat) (a1 : Int32) (s : qS) : qle (if a1 < (0 : Int32) then some (some (.int (-1 : Int32)), s) else if a1 ≤ (2 : Int32) then if ¬ (s.1 151 147) = (0 : Int32) then bV (qev en d 293 [.ref 151, .int (0 : Int32), .int (2 : Int32)] s) (fun s5 => bI (qev en d 365 [.ref 151, .int a1, .int (0 : Int32)] s5) (fun w7 s8 => nm (uI s8 151 98 (0 : Int32)) (fun s10 => if w7 = (-3 : Int32) then some (some (.int (-3 : Int32)), s10) else if (s10.1 151 115) ≤ (4000 : Int32) then nm (uI s10 151 154 (s10.1 151 115)) (fun s13 => L_X12_sound_68 en d a1 (0 : Int32) s13) else some (some (.int (-3 : Int32)), s10)))) else some (some (.int (-2 : Int32)), s) else some (some (.int (-1 : Int32)), s)) (qev en (d + 1) 405 [.ref 151, .int a1] s) := by
  refine e_enter ix_X12_sound (Nat.le_of_ble_eq_true rfl) ?_
  show qle _ (qE (qev en d) en (some .int) tb_X12_sound (0, [(0, .ref 151), (1, .int a1)], []) s)
  refine e_L 1 (f' := (1, [(0, .ref 151), (1, .int a1)], [.int a1])) rfl ?_
  refine e_ifz 9 rfl rfl rfl (fun c1 => ?_) (fun c1 => ?_)
  · refine e_L 1 (f' := (10, [(0, .ref 151), (1, .int a1)], [.int (-1 : Int32)])) rfl ?_
    exact e_rI rfl rfl
  · refine e_L 2 (f' := (6, [(0, .ref 151), (1, .int a1)], [.int (2 : Int32), .int a1])) rfl ?_
    refine e_icmp 11 rfl rfl rfl (fun c2 => ?_) (fun c2 => ?_)
    · refine e_L 1 (f' := (12, [(0, .ref 151), (1, .int a1)], [.ref 151])) rfl ?_
      refine e_gI 12 147 rfl rfl lc_151 ?_
      refine e_ifz 21 rfl rfl rfl (fun c3 => ?_) (fun c3 => ?_)
      · refine e_L 3 (f' := (24, [(0, .ref 151), (1, .int a1)], [.int (2 : Int32), .int (0 : Int32), .ref 151])) rfl ?_
        refine e_vV 293 rfl rfl ix_X12_copyProgram rfl (q_recvOf lc_151 rfl) (Nat.le_of_ble_eq_true rfl) (fun s5 e6 => ?_)
        refine e_L 3 (f' := (30, [(0, .ref 151), (1, .int a1)], [.int (0 : Int32), .int a1, .ref 151])) rfl ?_
        refine e_vI 365 rfl rfl ix_X12_tryAll rfl (q_recvOf lc_151 rfl) (Nat.le_of_ble_eq_true rfl) (fun w7 s8 e9 => ?_)
        refine e_L 3 (f' := (36, [(2, .int w7), (0, .ref 151), (1, .int a1)], [.int (0 : Int32), .ref 151])) rfl ?_
        refine e_pI 12 98 rfl rfl lc_151 (by decide +kernel) ?_
        refine e_nS fun s10 => ?_
        refine e_L 2 (f' := (42, [(2, .int w7), (0, .ref 151), (1, .int a1)], [.int (-3 : Int32), .int w7])) rfl ?_
        refine e_icmp 55 rfl rfl rfl (fun c11 => ?_) (fun c11 => ?_)
        · refine e_L 1 (f' := (57, [(2, .int w7), (0, .ref 151), (1, .int a1)], [.int (-3 : Int32)])) rfl ?_
          exact e_rI rfl rfl
        · refine e_L 1 (f' := (46, [(2, .int w7), (0, .ref 151), (1, .int a1)], [.ref 151])) rfl ?_
          refine e_gI 12 115 rfl rfl lc_151 ?_
          refine e_L 1 (f' := (52, [(2, .int w7), (0, .ref 151), (1, .int a1)], [.int (4000 : Int32), .int (s10.1 151 115)])) rfl ?_
          refine e_icmp 58 rfl rfl rfl (fun c12 => ?_) (fun c12 => ?_)
          · refine e_L 2 (f' := (60, [(2, .int w7), (0, .ref 151), (1, .int a1)], [.ref 151, .ref 151])) rfl ?_
            refine e_gI 12 115 rfl rfl lc_151 ?_
            refine e_pI 12 154 rfl rfl lc_151 rfl ?_
            refine e_nS fun s13 => ?_
            refine e_L 2 (f' := (68, [(3, .int (0 : Int32)), (2, .int w7), (0, .ref 151), (1, .int a1)], [])) rfl ?_
            exact qE_sub (qsubL [2, 3, 0] rfl (ks := [3, 2, 0, 1]) rfl (by decide))
          · refine e_L 1 (f' := (57, [(2, .int w7), (0, .ref 151), (1, .int a1)], [.int (-3 : Int32)])) rfl ?_
            exact e_rI rfl rfl
      · refine e_L 1 (f' := (20, [(0, .ref 151), (1, .int a1)], [.int (-2 : Int32)])) rfl ?_
        exact e_rI rfl rfl
    · refine e_L 1 (f' := (10, [(0, .ref 151), (1, .int a1)], [.int (-1 : Int32)])) rfl ?_
      exact e_rI rfl rfl
noncomputable def L_X12_wasThere_17 (en : pN) (d : Nat) (v1 : Int32) (v2 : Int32) (v3 : Int32) (v4 : Int32) (s : qS) : Option qR := qE (qev en d) en (some .boolean) tb_X12_wasThere (17, [(0, .ref 151), (1, .int v1), (2, .int v2), (3, .int v3), (4, .int v4)], []) s
noncomputable def L_X12_wasThere_55 (en : pN) (d : Nat) (v1 : Int32) (v2 : Int32) (v3 : Int32) (v4 : Int32) (v5 : Int32) (s : qS) : Option qR := qE (qev en d) en (some .boolean) tb_X12_wasThere (55, [(0, .ref 151), (1, .int v1), (2, .int v2), (3, .int v3), (4, .int v4), (5, .int v5)], []) s
noncomputable def L_X12_wasThere_109 (en : pN) (d : Nat) (v1 : Int32) (v2 : Int32) (v3 : Int32) (v4 : Int32) (v5 : Int32) (s : qS) : Option qR := qE (qev en d) en (some .boolean) tb_X12_wasThere (109, [(0, .ref 151), (1, .int v1), (2, .int v2), (3, .int v3), (4, .int v4), (5, .int v5)], []) s
set_option maxRecDepth 100000 in
set_option maxHeartbeats 4000000 in
theorem le_X12_wasThere_17 (en : pN) (d : Nat) (v1 : Int32) (v2 : Int32) (v3 : Int32) (v4 : Int32) (s : qS) : qle (if (s.1 151 154) ≤ v4 then gd (v3 = 0 ∨ v3 = 1) (some (some (.int v3), s)) else if ¬ v3 = (0 : Int32) then gd (v3 = 0 ∨ v3 = 1) (some (some (.int v3), s)) else gd (p_inB v4 4000 = true) (gd (p_inB v1 20001 = true) (if ¬ (s.1 247 v4.toNatClampNeg) = (s.1 225 v1.toNatClampNeg) then L_X12_wasThere_55 en d v1 v2 (0 : Int32) v4 (0 : Int32) s else L_X12_wasThere_55 en d v1 v2 (1 : Int32) v4 (0 : Int32) s))) (L_X12_wasThere_17 en d v1 v2 v3 v4 s) := by
  show qle _ (qE (qev en d) en (some .boolean) tb_X12_wasThere (17, [(0, .ref 151), (1, .int v1), (2, .int v2), (3, .int v3), (4, .int v4)], []) s)
  refine e_L 2 (f' := (20, [(0, .ref 151), (1, .int v1), (2, .int v2), (3, .int v3), (4, .int v4)], [.ref 151, .int v4])) rfl ?_
  refine e_gI 12 154 rfl rfl lc_151 ?_
  refine e_icmp 166 rfl rfl rfl (fun c1 => ?_) (fun c1 => ?_)
  · refine e_L 1 (f' := (167, [(0, .ref 151), (1, .int v1), (2, .int v2), (3, .int v3), (4, .int v4)], [.int v3])) rfl ?_
    exact qle_gd fun h2 => e_rZ rfl rfl h2
  · refine e_L 1 (f' := (27, [(0, .ref 151), (1, .int v1), (2, .int v2), (3, .int v3), (4, .int v4)], [.int v3])) rfl ?_
    refine e_ifz 166 rfl rfl rfl (fun c3 => ?_) (fun c3 => ?_)
    · refine e_L 1 (f' := (167, [(0, .ref 151), (1, .int v1), (2, .int v2), (3, .int v3), (4, .int v4)], [.int v3])) rfl ?_
      exact qle_gd fun h4 => e_rZ rfl rfl h4
    · refine e_L 1 (f' := (31, [(0, .ref 151), (1, .int v1), (2, .int v2), (3, .int v3), (4, .int v4)], [.ref 151])) rfl ?_
      refine e_gR (q := 247) 12 151 rfl rfl lc_151 lr_151_151 ?_
      refine e_L 1 (f' := (36, [(0, .ref 151), (1, .int v1), (2, .int v2), (3, .int v3), (4, .int v4)], [.int v4, .ref 247])) rfl ?_
      refine qle_gd fun h5 => ?_
      refine e_ial (n := 4000) (k := v4.toNatClampNeg) rfl lc_247 ln_247 h5 rfl ?_
      refine e_L 1 (f' := (38, [(0, .ref 151), (1, .int v1), (2, .int v2), (3, .int v3), (4, .int v4)], [.ref 151, .int (s.1 247 v4.toNatClampNeg)])) rfl ?_
      refine e_gR (q := 225) 12 122 rfl rfl lc_151 lr_151_122 ?_
      refine e_L 1 (f' := (42, [(0, .ref 151), (1, .int v1), (2, .int v2), (3, .int v3), (4, .int v4)], [.int v1, .ref 225, .int (s.1 247 v4.toNatClampNeg)])) rfl ?_
      refine qle_gd fun h6 => ?_
      refine e_ial (n := 20001) (k := v1.toNatClampNeg) rfl lc_225 ln_225 h6 rfl ?_
      refine e_icmp 50 rfl rfl rfl (fun c7 => ?_) (fun c7 => ?_)
      · refine e_L 4 (f' := (55, [(5, .int (0 : Int32)), (3, .int (0 : Int32)), (0, .ref 151), (1, .int v1), (2, .int v2), (4, .int v4)], [])) rfl ?_
        exact qE_sub (qsubL [2, 3, 4, 1, 5, 0] rfl (ks := [5, 3, 0, 1, 2, 4]) rfl (by decide))
      · refine e_L 5 (f' := (55, [(5, .int (0 : Int32)), (3, .int (1 : Int32)), (0, .ref 151), (1, .int v1), (2, .int v2), (4, .int v4)], [])) rfl ?_
        exact qE_sub (qsubL [2, 3, 4, 1, 5, 0] rfl (ks := [5, 3, 0, 1, 2, 4]) rfl (by decide))
set_option maxRecDepth 100000 in
set_option maxHeartbeats 4000000 in
theorem le_X12_wasThere_55 (en : pN) (d : Nat) (v1 : Int32) (v2 : Int32) (v3 : Int32) (v4 : Int32) (v5 : Int32) (s : qS) : qle (if (8 : Int32) ≤ v5 then L_X12_wasThere_109 en d v1 v2 v3 v4 (0 : Int32) s else if v3 = (0 : Int32) then L_X12_wasThere_109 en d v1 v2 v3 v4 (0 : Int32) s else gd (p_inB (((8 : Int32) * v4) + v5) 32000 = true) (gd (p_inB ((v2 + (44 : Int32)) + v5) 1610000 = true) (if ¬ (s.1 248 (((8 : Int32) * v4) + v5).toNatClampNeg) = (s.1 210 ((v2 + (44 : Int32)) + v5).toNatClampNeg) then L_X12_wasThere_55 en d v1 v2 (0 : Int32) v4 (v5 + (1 : Int32)) s else L_X12_wasThere_55 en d v1 v2 (1 : Int32) v4 (v5 + (1 : Int32)) s))) (L_X12_wasThere_55 en d v1 v2 v3 v4 v5 s) := by
  show qle _ (qE (qev en d) en (some .boolean) tb_X12_wasThere (55, [(0, .ref 151), (1, .int v1), (2, .int v2), (3, .int v3), (4, .int v4), (5, .int v5)], []) s)
  refine e_L 2 (f' := (59, [(0, .ref 151), (1, .int v1), (2, .int v2), (3, .int v3), (4, .int v4), (5, .int v5)], [.int (8 : Int32), .int v5])) rfl ?_
  refine e_icmp 106 rfl rfl rfl (fun c1 => ?_) (fun c1 => ?_)
  · refine e_L 2 (f' := (109, [(5, .int (0 : Int32)), (0, .ref 151), (1, .int v1), (2, .int v2), (3, .int v3), (4, .int v4)], [])) rfl ?_
    exact qE_sub (qsubL [1, 2, 3, 4, 5, 0] rfl (ks := [5, 0, 1, 2, 3, 4]) rfl (by decide))
  · refine e_L 1 (f' := (63, [(0, .ref 151), (1, .int v1), (2, .int v2), (3, .int v3), (4, .int v4), (5, .int v5)], [.int v3])) rfl ?_
    refine e_ifz 106 rfl rfl rfl (fun c2 => ?_) (fun c2 => ?_)
    · refine e_L 2 (f' := (109, [(5, .int (0 : Int32)), (0, .ref 151), (1, .int v1), (2, .int v2), (3, .int v3), (4, .int v4)], [])) rfl ?_
      exact qE_sub (qsubL [1, 2, 3, 4, 5, 0] rfl (ks := [5, 0, 1, 2, 3, 4]) rfl (by decide))
    · refine e_L 1 (f' := (67, [(0, .ref 151), (1, .int v1), (2, .int v2), (3, .int v3), (4, .int v4), (5, .int v5)], [.ref 151])) rfl ?_
      refine e_gR (q := 248) 12 152 rfl rfl lc_151 lr_151_152 ?_
      refine e_L 5 (f' := (78, [(0, .ref 151), (1, .int v1), (2, .int v2), (3, .int v3), (4, .int v4), (5, .int v5)], [.int (((8 : Int32) * v4) + v5), .ref 248])) rfl ?_
      refine qle_gd fun h3 => ?_
      refine e_ial (n := 32000) (k := (((8 : Int32) * v4) + v5).toNatClampNeg) rfl lc_248 ln_248 h3 rfl ?_
      refine e_L 1 (f' := (80, [(0, .ref 151), (1, .int v1), (2, .int v2), (3, .int v3), (4, .int v4), (5, .int v5)], [.ref 151, .int (s.1 248 (((8 : Int32) * v4) + v5).toNatClampNeg)])) rfl ?_
      refine e_gR (q := 210) 12 104 rfl rfl lc_151 lr_151_104 ?_
      refine e_L 5 (f' := (90, [(0, .ref 151), (1, .int v1), (2, .int v2), (3, .int v3), (4, .int v4), (5, .int v5)], [.int ((v2 + (44 : Int32)) + v5), .ref 210, .int (s.1 248 (((8 : Int32) * v4) + v5).toNatClampNeg)])) rfl ?_
      refine qle_gd fun h4 => ?_
      refine e_ial (n := 1610000) (k := ((v2 + (44 : Int32)) + v5).toNatClampNeg) rfl lc_210 ln_210 h4 rfl ?_
      refine e_icmp 98 rfl rfl rfl (fun c5 => ?_) (fun c5 => ?_)
      · refine e_L 4 (f' := (55, [(5, .int (v5 + (1 : Int32))), (3, .int (0 : Int32)), (0, .ref 151), (1, .int v1), (2, .int v2), (4, .int v4)], [])) rfl ?_
        exact qE_sub (qsubL [2, 3, 4, 1, 5, 0] rfl (ks := [5, 3, 0, 1, 2, 4]) rfl (by decide))
      · refine e_L 5 (f' := (55, [(5, .int (v5 + (1 : Int32))), (3, .int (1 : Int32)), (0, .ref 151), (1, .int v1), (2, .int v2), (4, .int v4)], [])) rfl ?_
        exact qE_sub (qsubL [2, 3, 4, 1, 5, 0] rfl (ks := [5, 3, 0, 1, 2, 4]) rfl (by decide))
set_option maxRecDepth 100000 in
set_option maxHeartbeats 4000000 in
theorem le_X12_wasThere_109 (en : pN) (d : Nat) (v1 : Int32) (v2 : Int32) (v3 : Int32) (v4 : Int32) (v5 : Int32) (s : qS) : qle (if (24 : Int32) ≤ v5 then L_X12_wasThere_17 en d v1 v2 v3 (v4 + (1 : Int32)) s else if v3 = (0 : Int32) then L_X12_wasThere_17 en d v1 v2 v3 (v4 + (1 : Int32)) s else gd (p_inB (((24 : Int32) * v4) + v5) 96000 = true) (gd (p_inB ((v2 + (12 : Int32)) + v5) 1610000 = true) (if ¬ (s.1 249 (((24 : Int32) * v4) + v5).toNatClampNeg) = (s.1 210 ((v2 + (12 : Int32)) + v5).toNatClampNeg) then L_X12_wasThere_109 en d v1 v2 (0 : Int32) v4 (v5 + (1 : Int32)) s else L_X12_wasThere_109 en d v1 v2 (1 : Int32) v4 (v5 + (1 : Int32)) s))) (L_X12_wasThere_109 en d v1 v2 v3 v4 v5 s) := by
  show qle _ (qE (qev en d) en (some .boolean) tb_X12_wasThere (109, [(0, .ref 151), (1, .int v1), (2, .int v2), (3, .int v3), (4, .int v4), (5, .int v5)], []) s)
  refine e_L 2 (f' := (113, [(0, .ref 151), (1, .int v1), (2, .int v2), (3, .int v3), (4, .int v4), (5, .int v5)], [.int (24 : Int32), .int v5])) rfl ?_
  refine e_icmp 160 rfl rfl rfl (fun c1 => ?_) (fun c1 => ?_)
  · refine e_L 2 (f' := (17, [(4, .int (v4 + (1 : Int32))), (0, .ref 151), (1, .int v1), (2, .int v2), (3, .int v3), (5, .int v5)], [])) rfl ?_
    exact qE_sub (qsubL [1, 2, 3, 4, 0] rfl (ks := [4, 0, 1, 2, 3, 5]) rfl (by decide))
  · refine e_L 1 (f' := (117, [(0, .ref 151), (1, .int v1), (2, .int v2), (3, .int v3), (4, .int v4), (5, .int v5)], [.int v3])) rfl ?_
    refine e_ifz 160 rfl rfl rfl (fun c2 => ?_) (fun c2 => ?_)
    · refine e_L 2 (f' := (17, [(4, .int (v4 + (1 : Int32))), (0, .ref 151), (1, .int v1), (2, .int v2), (3, .int v3), (5, .int v5)], [])) rfl ?_
      exact qE_sub (qsubL [1, 2, 3, 4, 0] rfl (ks := [4, 0, 1, 2, 3, 5]) rfl (by decide))
    · refine e_L 1 (f' := (121, [(0, .ref 151), (1, .int v1), (2, .int v2), (3, .int v3), (4, .int v4), (5, .int v5)], [.ref 151])) rfl ?_
      refine e_gR (q := 249) 12 153 rfl rfl lc_151 lr_151_153 ?_
      refine e_L 5 (f' := (132, [(0, .ref 151), (1, .int v1), (2, .int v2), (3, .int v3), (4, .int v4), (5, .int v5)], [.int (((24 : Int32) * v4) + v5), .ref 249])) rfl ?_
      refine qle_gd fun h3 => ?_
      refine e_ial (n := 96000) (k := (((24 : Int32) * v4) + v5).toNatClampNeg) rfl lc_249 ln_249 h3 rfl ?_
      refine e_L 1 (f' := (134, [(0, .ref 151), (1, .int v1), (2, .int v2), (3, .int v3), (4, .int v4), (5, .int v5)], [.ref 151, .int (s.1 249 (((24 : Int32) * v4) + v5).toNatClampNeg)])) rfl ?_
      refine e_gR (q := 210) 12 104 rfl rfl lc_151 lr_151_104 ?_
      refine e_L 5 (f' := (144, [(0, .ref 151), (1, .int v1), (2, .int v2), (3, .int v3), (4, .int v4), (5, .int v5)], [.int ((v2 + (12 : Int32)) + v5), .ref 210, .int (s.1 249 (((24 : Int32) * v4) + v5).toNatClampNeg)])) rfl ?_
      refine qle_gd fun h4 => ?_
      refine e_ial (n := 1610000) (k := ((v2 + (12 : Int32)) + v5).toNatClampNeg) rfl lc_210 ln_210 h4 rfl ?_
      refine e_icmp 152 rfl rfl rfl (fun c5 => ?_) (fun c5 => ?_)
      · refine e_L 4 (f' := (109, [(5, .int (v5 + (1 : Int32))), (3, .int (0 : Int32)), (0, .ref 151), (1, .int v1), (2, .int v2), (4, .int v4)], [])) rfl ?_
        exact qE_sub (qsubL [2, 3, 4, 1, 5, 0] rfl (ks := [5, 3, 0, 1, 2, 4]) rfl (by decide))
      · refine e_L 5 (f' := (109, [(5, .int (v5 + (1 : Int32))), (3, .int (1 : Int32)), (0, .ref 151), (1, .int v1), (2, .int v2), (4, .int v4)], [])) rfl ?_
        exact qE_sub (qsubL [2, 3, 4, 1, 5, 0] rfl (ks := [5, 3, 0, 1, 2, 4]) rfl (by decide))
set_option maxRecDepth 100000 in
set_option maxHeartbeats 4000000 in
theorem le_X12_wasThere (en : pN) (d : Nat) (a1 : Int32) (s : qS) : qle (gd (p_inB a1 20001 = true) (nm ((s.1 221 a1.toNatClampNeg) * (s.1 151 60)) (fun z2 => L_X12_wasThere_17 en d a1 z2 (0 : Int32) (0 : Int32) s))) (qev en (d + 1) 406 [.ref 151, .int a1] s) := by
  refine e_enter ix_X12_wasThere (Nat.le_of_ble_eq_true rfl) ?_
  show qle _ (qE (qev en d) en (some .boolean) tb_X12_wasThere (0, [(0, .ref 151), (1, .int a1)], []) s)
  refine e_L 1 (f' := (1, [(0, .ref 151), (1, .int a1)], [.ref 151])) rfl ?_
  refine e_gR (q := 221) 12 116 rfl rfl lc_151 lr_151_116 ?_
  refine e_L 1 (f' := (5, [(0, .ref 151), (1, .int a1)], [.int a1, .ref 221])) rfl ?_
  refine qle_gd fun h1 => ?_
  refine e_ial (n := 20001) (k := a1.toNatClampNeg) rfl lc_221 ln_221 h1 rfl ?_
  refine e_L 1 (f' := (7, [(0, .ref 151), (1, .int a1)], [.ref 151, .int (s.1 221 a1.toNatClampNeg)])) rfl ?_
  refine e_gI 12 60 rfl rfl lc_151 ?_
  refine e_L 1 (f' := (11, [(0, .ref 151), (1, .int a1)], [.int ((s.1 221 a1.toNatClampNeg) * (s.1 151 60))])) rfl ?_
  refine e_nI fun z2 => ?_
  refine e_L 5 (f' := (17, [(4, .int (0 : Int32)), (3, .int (0 : Int32)), (2, .int z2), (0, .ref 151), (1, .int a1)], [])) rfl ?_
  exact qE_sub (qsubL [3, 4, 2, 1, 0] rfl (ks := [4, 3, 2, 0, 1]) rfl (by decide))
set_option maxRecDepth 100000 in
set_option maxHeartbeats 4000000 in
theorem le_X12_gained (en : pN) (d : Nat) (s : qS) : qle (some (some (.int (s.1 151 150)), s)) (qev en (d + 1) 407 [.ref 151] s) := by
  refine e_enter ix_X12_gained (Nat.le_of_ble_eq_true rfl) ?_
  show qle _ (qE (qev en d) en (some .int) tb_X12_gained (0, [(0, .ref 151)], []) s)
  refine e_L 1 (f' := (1, [(0, .ref 151)], [.ref 151])) rfl ?_
  refine e_gI 12 150 rfl rfl lc_151 ?_
  exact e_rI rfl rfl
