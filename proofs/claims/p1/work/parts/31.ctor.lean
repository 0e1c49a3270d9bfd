/-! THE CONSTRUCTORS: what they leave, cell by cell (printed by program). -/
def kw0 : List Int64 := [1634547, 1602148, 228323819, 4049845613035, 251163892, 251164133, 526729365452396, 31114951028, 224130286, 27594043877, 219706996, 3364007541108, 209221228, 30815303289, 13542, 32163657317, 213596645, 209286764, 66920014801434213, 4013887680740, 29196366578, 222018159, 3362136816883, 29741658866, 1798393, 230521332, 29204443763, 215512306, 27344319204, 32184727399, 32148978291, 219772516, 31115276779]
def kw1 : List Int64 := [32184629861, 240742628, 236665587, 236812776, 1849328, 1850100, 1700596]
/-- what the system's cells hold behind the constructors -/
def s0 : qS := (fun a k => if a = 0 then (if k = 13 then -2 else if k = 14 then -2 else 0) else if a = 65 then (if k = 12 then -2 else 0) else if a = 151 then (if k = 10 then -2 else if k = 131 then -2 else if k = 150 then -2 else 0) else 0, fun a k => if a = 3 then kw0.getD k 0 else if a = 66 then kw1.getD k 0 else 0, fun a k => if a = 65 then (if k = 7 then 62 else 0) else 0)
def hp_0 : pH := (0, 0, fun _ => .inr (0, []))
set_option maxRecDepth 100000 in
theorem kw0_ok : (cdS (stBy 0) 33 (stBy 0).length).2 = kw0 := by decide +kernel
set_option maxRecDepth 100000 in
theorem kw1_ok : (cdS (stBy 1) 7 (stBy 1).length).2 = kw1 := by decide +kernel
theorem byAll {n : Nat} {p : Nat → Bool} (h : (List.range n).all p = true) : ∀ i : Nat, i < n → p i = true := fun i hi => List.all_eq_true.mp h i (List.mem_range.mpr hi)
set_option maxRecDepth 100000 in
theorem kw0_run {en : pN} {d : Nat} (h : pH) : pev msL en (d + 5) 164 [.retAddr 1, .int (33 : Int32)] h = some (some (.ref h.1), (h.1 + 1, h.2.1 + 33, p_up h.2.2 h.1 (cdE 33 kw0))) := by
  have K := x_codes (en := en) (d := d) (q := 1) (cnt := 33) (bs := stBy 0) (h := h) (by decide) rfl (by decide +kernel) (by decide) (fun i hi => of_decide_eq_true (byAll (p := fun i => decide (narrow .char (.int (chB ((stBy 0).getD i 0))) = .int (chB ((stBy 0).getD i 0)))) (by decide +kernel) i hi)) (fun i hi => of_decide_eq_true (byAll (p := fun i => decide ((cdS (stBy 0) 33 i).1 < 33)) (by decide +kernel) i hi))
  rw [kw0_ok] at K
  exact K
set_option maxRecDepth 100000 in
theorem kw1_run {en : pN} {d : Nat} (h : pH) : pev msL en (d + 5) 164 [.retAddr 2, .int (7 : Int32)] h = some (some (.ref h.1), (h.1 + 1, h.2.1 + 7, p_up h.2.2 h.1 (cdE 7 kw1))) := by
  have K := x_codes (en := en) (d := d) (q := 2) (cnt := 7) (bs := stBy 1) (h := h) (by decide) rfl (by decide +kernel) (by decide) (fun i hi => of_decide_eq_true (byAll (p := fun i => decide (narrow .char (.int (chB ((stBy 1).getD i 0))) = .int (chB ((stBy 1).getD i 0)))) (by decide +kernel) i hi)) (fun i hi => of_decide_eq_true (byAll (p := fun i => decide ((cdS (stBy 1) 7 i).1 < 7)) (by decide +kernel) i hi))
  rw [kw1_ok] at K
  exact K
def hp_1 : pH := (1, 15, p_up hp_0.2.2 0 (.inr (11, p_dfl 11 15)))
def hp_2 : pH := (2, 27, p_up hp_1.2.2 1 (.inr (9, p_dfl 9 12)))
def hp_3 : pH := (3, 4027, p_up hp_2.2.2 2 (.inl (3, 4000, p_zero 3)))
def hp_4 : pH := (3, 4027, p_up hp_3.2.2 1 (.inr (9, [.ref 2, .null, .null, .null, .null, .int (0 : Int32), .int (0 : Int32), .int (0 : Int32), .int (0 : Int32), .int (0 : Int32), .int (0 : Int32), .long (0 : Int64)])))
def hp_5 : pH := (4, 4060, p_up hp_4.2.2 3 (cdE 33 kw0))
def hp_6 : pH := (4, 4060, p_up hp_5.2.2 1 (.inr (9, [.ref 2, .ref 3, .null, .null, .null, .int (0 : Int32), .int (0 : Int32), .int (0 : Int32), .int (0 : Int32), .int (0 : Int32), .int (0 : Int32), .long (0 : Int64)])))
def hp_7 : pH := (5, 8061, p_up hp_6.2.2 4 (.inl (0, 4001, p_zero 0)))
def hp_8 : pH := (5, 8061, p_up hp_7.2.2 1 (.inr (9, [.ref 2, .ref 3, .ref 4, .null, .null, .int (0 : Int32), .int (0 : Int32), .int (0 : Int32), .int (0 : Int32), .int (0 : Int32), .int (0 : Int32), .long (0 : Int64)])))
def hp_9 : pH := (6, 12062, p_up hp_8.2.2 5 (.inl (0, 4001, p_zero 0)))
def hp_10 : pH := (6, 12062, p_up hp_9.2.2 1 (.inr (9, [.ref 2, .ref 3, .ref 4, .ref 5, .null, .int (0 : Int32), .int (0 : Int32), .int (0 : Int32), .int (0 : Int32), .int (0 : Int32), .int (0 : Int32), .long (0 : Int64)])))
def hp_11 : pH := (7, 16063, p_up hp_10.2.2 6 (.inl (1, 4001, p_zero 1)))
def hp_12 : pH := (7, 16063, p_up hp_11.2.2 1 (.inr (9, [.ref 2, .ref 3, .ref 4, .ref 5, .ref 6, .int (0 : Int32), .int (0 : Int32), .int (0 : Int32), .int (0 : Int32), .int (0 : Int32), .int (0 : Int32), .long (0 : Int64)])))
set_option maxRecDepth 100000 in
set_option maxHeartbeats 4000000 in
theorem ct_X9_init_1 {en : pN} {d : Nat} : pev msL en (d + 6) 163 [.ref 1] hp_2 = some (none, hp_12) := by
  refine x_enter ix_X9_init (Nat.le_of_ble_eq_true rfl) ?_
  show xW _ en none tb_X9_init (0, [(0, .ref 1)], []) hp_2 _
  refine x_L 1 (f' := (1, [(0, .ref 1)], [.ref 1])) rfl ?_
  refine x_obj rfl rfl (Nat.le_of_ble_eq_true rfl) ?_
  show xW _ en none tb_X9_init (4, [(0, .ref 1)], []) hp_2 _
  refine x_L 2 (f' := (8, [(0, .ref 1)], [.int (4000 : Int32), .ref 1])) rfl ?_
  refine x_H ((10, [(0, .ref 1)], [.ref 2, .ref 1]), hp_3) rfl rfl rfl rfl rfl ?_
  refine x_H ((13, [(0, .ref 1)], []), hp_4) rfl rfl rfl rfl rfl ?_
  refine x_L 1 (f' := (14, [(0, .ref 1)], [.ref 1])) rfl ?_
  refine x_H ((16, [(0, .ref 1)], [.retAddr 1, .ref 1]), hp_4) rfl rfl rfl rfl rfl ?_
  refine x_L 1 (f' := (18, [(0, .ref 1)], [.int (33 : Int32), .retAddr 1, .ref 1])) rfl ?_
  refine x_stat 164 rfl rfl rfl ix_X9_codes rfl (Nat.le_of_ble_eq_true rfl) (kw0_run (d := d) hp_4) ?_
  show xW _ en none tb_X9_init (21, [(0, .ref 1)], [.ref 3, .ref 1]) hp_5 _
  refine x_H ((24, [(0, .ref 1)], []), hp_6) rfl rfl rfl rfl rfl ?_
  refine x_L 2 (f' := (28, [(0, .ref 1)], [.int (4001 : Int32), .ref 1])) rfl ?_
  refine x_H ((30, [(0, .ref 1)], [.ref 4, .ref 1]), hp_7) rfl rfl rfl rfl rfl ?_
  refine x_H ((33, [(0, .ref 1)], []), hp_8) rfl rfl rfl rfl rfl ?_
  refine x_L 2 (f' := (37, [(0, .ref 1)], [.int (4001 : Int32), .ref 1])) rfl ?_
  refine x_H ((39, [(0, .ref 1)], [.ref 5, .ref 1]), hp_9) rfl rfl rfl rfl rfl ?_
  refine x_H ((42, [(0, .ref 1)], []), hp_10) rfl rfl rfl rfl rfl ?_
  refine x_L 2 (f' := (46, [(0, .ref 1)], [.int (4001 : Int32), .ref 1])) rfl ?_
  refine x_H ((48, [(0, .ref 1)], [.ref 6, .ref 1]), hp_11) rfl rfl rfl rfl rfl ?_
  refine x_H ((51, [(0, .ref 1)], []), hp_12) rfl rfl rfl rfl rfl ?_
  exact x_ret rfl rfl
def hp_13 : pH := (7, 16063, p_up hp_12.2.2 0 (.inr (11, [.ref 1, .null, .null, .null, .null, .null, .null, .null, .null, .int (0 : Int32), .int (0 : Int32), .int (0 : Int32), .int (0 : Int32), .int (0 : Int32), .int (0 : Int32)])))
def hp_14 : pH := (8, 16068, p_up hp_13.2.2 7 (.inr (4, p_dfl 4 5)))
def hp_15 : pH := (9, 16568, p_up hp_14.2.2 8 (.inl (0, 500, p_zero 0)))
def hp_16 : pH := (9, 16568, p_up hp_15.2.2 7 (.inr (4, [.ref 8, .null, .null, .int (0 : Int32), .int (0 : Int32)])))
def hp_17 : pH := (10, 17068, p_up hp_16.2.2 9 (.inl (0, 500, p_zero 0)))
def hp_18 : pH := (10, 17068, p_up hp_17.2.2 7 (.inr (4, [.ref 8, .ref 9, .null, .int (0 : Int32), .int (0 : Int32)])))
def hp_19 : pH := (11, 17570, p_up hp_18.2.2 10 (.inl (0, 502, p_zero 0)))
def hp_20 : pH := (11, 17570, p_up hp_19.2.2 7 (.inr (4, [.ref 8, .ref 9, .ref 10, .int (0 : Int32), .int (0 : Int32)])))
set_option maxRecDepth 100000 in
set_option maxHeartbeats 4000000 in
theorem ct_X4_init_1 {en : pN} {d : Nat} : pev msL en (d + 1) 75 [.ref 7, .int (500 : Int32)] hp_14 = some (none, hp_20) := by
  refine x_enter ix_X4_init (Nat.le_of_ble_eq_true rfl) ?_
  show xW _ en none tb_X4_init (0, [(0, .ref 7), (1, .int (500 : Int32))], []) hp_14 _
  refine x_L 1 (f' := (1, [(0, .ref 7), (1, .int (500 : Int32))], [.ref 7])) rfl ?_
  refine x_obj rfl rfl (Nat.le_of_ble_eq_true rfl) ?_
  show xW _ en none tb_X4_init (4, [(0, .ref 7), (1, .int (500 : Int32))], []) hp_14 _
  refine x_L 2 (f' := (6, [(0, .ref 7), (1, .int (500 : Int32))], [.int (500 : Int32), .ref 7])) rfl ?_
  refine x_H ((8, [(0, .ref 7), (1, .int (500 : Int32))], [.ref 8, .ref 7]), hp_15) rfl rfl rfl rfl rfl ?_
  refine x_H ((11, [(0, .ref 7), (1, .int (500 : Int32))], []), hp_16) rfl rfl rfl rfl rfl ?_
  refine x_L 2 (f' := (13, [(0, .ref 7), (1, .int (500 : Int32))], [.int (500 : Int32), .ref 7])) rfl ?_
  refine x_H ((15, [(0, .ref 7), (1, .int (500 : Int32))], [.ref 9, .ref 7]), hp_17) rfl rfl rfl rfl rfl ?_
  refine x_H ((18, [(0, .ref 7), (1, .int (500 : Int32))], []), hp_18) rfl rfl rfl rfl rfl ?_
  refine x_L 4 (f' := (22, [(0, .ref 7), (1, .int (500 : Int32))], [.int (502 : Int32), .ref 7])) rfl ?_
  refine x_H ((24, [(0, .ref 7), (1, .int (500 : Int32))], [.ref 10, .ref 7]), hp_19) rfl rfl rfl rfl rfl ?_
  refine x_H ((27, [(0, .ref 7), (1, .int (500 : Int32))], []), hp_20) rfl rfl rfl rfl rfl ?_
  exact x_ret rfl rfl
def hp_21 : pH := (12, 17584, p_up hp_20.2.2 11 (.inr (5, p_dfl 5 14)))
def hp_22 : pH := (13, 17600, p_up hp_21.2.2 12 (.inl (1, 16, p_zero 1)))
def hp_23 : pH := (13, 17600, p_up hp_22.2.2 11 (.inr (5, [.null, .ref 12, .null, .null, .null, .null, .null, .int (0 : Int32), .int (0 : Int32), .int (0 : Int32), .int (0 : Int32), .int (0 : Int32), .int (0 : Int32), .int (0 : Int32)])))
def hp_24 : pH := (14, 17624, p_up hp_23.2.2 13 (.inl (1, 24, p_zero 1)))
def hp_25 : pH := (14, 17624, p_up hp_24.2.2 11 (.inr (5, [.null, .ref 12, .ref 13, .null, .null, .null, .null, .int (0 : Int32), .int (0 : Int32), .int (0 : Int32), .int (0 : Int32), .int (0 : Int32), .int (0 : Int32), .int (0 : Int32)])))
def hp_26 : pH := (15, 17628, p_up hp_25.2.2 14 (.inl (0, 4, p_zero 0)))
def hp_27 : pH := (15, 17628, p_up hp_26.2.2 11 (.inr (5, [.null, .ref 12, .ref 13, .ref 14, .null, .null, .null, .int (0 : Int32), .int (0 : Int32), .int (0 : Int32), .int (0 : Int32), .int (0 : Int32), .int (0 : Int32), .int (0 : Int32)])))
def hp_28 : pH := (16, 17636, p_up hp_27.2.2 15 (.inl (0, 8, p_zero 0)))
def hp_29 : pH := (16, 17636, p_up hp_28.2.2 11 (.inr (5, [.null, .ref 12, .ref 13, .ref 14, .ref 15, .null, .null, .int (0 : Int32), .int (0 : Int32), .int (0 : Int32), .int (0 : Int32), .int (0 : Int32), .int (0 : Int32), .int (0 : Int32)])))
def hp_30 : pH := (17, 17640, p_up hp_29.2.2 16 (.inl (0, 4, p_zero 0)))
def hp_31 : pH := (17, 17640, p_up hp_30.2.2 11 (.inr (5, [.null, .ref 12, .ref 13, .ref 14, .ref 15, .ref 16, .null, .int (0 : Int32), .int (0 : Int32), .int (0 : Int32), .int (0 : Int32), .int (0 : Int32), .int (0 : Int32), .int (0 : Int32)])))
def hp_32 : pH := (36, 19458, (p_mna 18 100 hp_31).2.2)
def hp_33 : pH := (36, 19458, p_up hp_32.2.2 11 (.inr (5, [.null, .ref 12, .ref 13, .ref 14, .ref 15, .ref 16, .ref 17, .int (0 : Int32), .int (0 : Int32), .int (0 : Int32), .int (0 : Int32), .int (0 : Int32), .int (0 : Int32), .int (0 : Int32)])))
def hp_34 : pH := (36, 19458, p_up hp_33.2.2 11 (.inr (5, [.ref 7, .ref 12, .ref 13, .ref 14, .ref 15, .ref 16, .ref 17, .int (0 : Int32), .int (0 : Int32), .int (0 : Int32), .int (0 : Int32), .int (0 : Int32), .int (0 : Int32), .int (0 : Int32)])))
set_option maxRecDepth 100000 in
set_option maxHeartbeats 4000000 in
theorem ct_X5_init_1 {en : pN} {d : Nat} : pev msL en (d + 1) 80 [.ref 11, .ref 7] hp_21 = some (none, hp_34) := by
  refine x_enter ix_X5_init (Nat.le_of_ble_eq_true rfl) ?_
  show xW _ en none tb_X5_init (0, [(0, .ref 11), (1, .ref 7)], []) hp_21 _
  refine x_L 1 (f' := (1, [(0, .ref 11), (1, .ref 7)], [.ref 11])) rfl ?_
  refine x_obj rfl rfl (Nat.le_of_ble_eq_true rfl) ?_
  show xW _ en none tb_X5_init (4, [(0, .ref 11), (1, .ref 7)], []) hp_21 _
  refine x_L 2 (f' := (7, [(0, .ref 11), (1, .ref 7)], [.int (16 : Int32), .ref 11])) rfl ?_
  refine x_H ((9, [(0, .ref 11), (1, .ref 7)], [.ref 12, .ref 11]), hp_22) rfl rfl rfl rfl rfl ?_
  refine x_H ((12, [(0, .ref 11), (1, .ref 7)], []), hp_23) rfl rfl rfl rfl rfl ?_
  refine x_L 2 (f' := (15, [(0, .ref 11), (1, .ref 7)], [.int (24 : Int32), .ref 11])) rfl ?_
  refine x_H ((17, [(0, .ref 11), (1, .ref 7)], [.ref 13, .ref 11]), hp_24) rfl rfl rfl rfl rfl ?_
  refine x_H ((20, [(0, .ref 11), (1, .ref 7)], []), hp_25) rfl rfl rfl rfl rfl ?_
  refine x_L 2 (f' := (22, [(0, .ref 11), (1, .ref 7)], [.int (4 : Int32), .ref 11])) rfl ?_
  refine x_H ((24, [(0, .ref 11), (1, .ref 7)], [.ref 14, .ref 11]), hp_26) rfl rfl rfl rfl rfl ?_
  refine x_H ((27, [(0, .ref 11), (1, .ref 7)], []), hp_27) rfl rfl rfl rfl rfl ?_
  refine x_L 2 (f' := (30, [(0, .ref 11), (1, .ref 7)], [.int (8 : Int32), .ref 11])) rfl ?_
  refine x_H ((32, [(0, .ref 11), (1, .ref 7)], [.ref 15, .ref 11]), hp_28) rfl rfl rfl rfl rfl ?_
  refine x_H ((35, [(0, .ref 11), (1, .ref 7)], []), hp_29) rfl rfl rfl rfl rfl ?_
  refine x_L 2 (f' := (37, [(0, .ref 11), (1, .ref 7)], [.int (4 : Int32), .ref 11])) rfl ?_
  refine x_H ((39, [(0, .ref 11), (1, .ref 7)], [.ref 16, .ref 11]), hp_30) rfl rfl rfl rfl rfl ?_
  refine x_H ((42, [(0, .ref 11), (1, .ref 7)], []), hp_31) rfl rfl rfl rfl rfl ?_
  refine x_L 3 (f' := (47, [(0, .ref 11), (1, .ref 7)], [.int (100 : Int32), .int (18 : Int32), .ref 11])) rfl ?_
  refine x_H ((51, [(0, .ref 11), (1, .ref 7)], [.ref 17, .ref 11]), hp_32) rfl rfl rfl rfl rfl ?_
  refine x_H ((54, [(0, .ref 11), (1, .ref 7)], []), hp_33) rfl rfl rfl rfl rfl ?_
  refine x_L 2 (f' := (56, [(0, .ref 11), (1, .ref 7)], [.ref 7, .ref 11])) rfl ?_
  refine x_H ((59, [(0, .ref 11), (1, .ref 7)], []), hp_34) rfl rfl rfl rfl rfl ?_
  exact x_ret rfl rfl
def hp_35 : pH := (36, 19458, p_up hp_34.2.2 0 (.inr (11, [.ref 1, .ref 11, .null, .null, .null, .null, .null, .null, .null, .int (0 : Int32), .int (0 : Int32), .int (0 : Int32), .int (0 : Int32), .int (0 : Int32), .int (0 : Int32)])))
def hp_36 : pH := (37, 19472, p_up hp_35.2.2 36 (.inr (5, p_dfl 5 14)))
def hp_37 : pH := (38, 19488, p_up hp_36.2.2 37 (.inl (1, 16, p_zero 1)))
def hp_38 : pH := (38, 19488, p_up hp_37.2.2 36 (.inr (5, [.null, .ref 37, .null, .null, .null, .null, .null, .int (0 : Int32), .int (0 : Int32), .int (0 : Int32), .int (0 : Int32), .int (0 : Int32), .int (0 : Int32), .int (0 : Int32)])))
def hp_39 : pH := (39, 19512, p_up hp_38.2.2 38 (.inl (1, 24, p_zero 1)))
def hp_40 : pH := (39, 19512, p_up hp_39.2.2 36 (.inr (5, [.null, .ref 37, .ref 38, .null, .null, .null, .null, .int (0 : Int32), .int (0 : Int32), .int (0 : Int32), .int (0 : Int32), .int (0 : Int32), .int (0 : Int32), .int (0 : Int32)])))
def hp_41 : pH := (40, 19516, p_up hp_40.2.2 39 (.inl (0, 4, p_zero 0)))
def hp_42 : pH := (40, 19516, p_up hp_41.2.2 36 (.inr (5, [.null, .ref 37, .ref 38, .ref 39, .null, .null, .null, .int (0 : Int32), .int (0 : Int32), .int (0 : Int32), .int (0 : Int32), .int (0 : Int32), .int (0 : Int32), .int (0 : Int32)])))
def hp_43 : pH := (41, 19524, p_up hp_42.2.2 40 (.inl (0, 8, p_zero 0)))
def hp_44 : pH := (41, 19524, p_up hp_43.2.2 36 (.inr (5, [.null, .ref 37, .ref 38, .ref 39, .ref 40, .null, .null, .int (0 : Int32), .int (0 : Int32), .int (0 : Int32), .int (0 : Int32), .int (0 : Int32), .int (0 : Int32), .int (0 : Int32)])))
def hp_45 : pH := (42, 19528, p_up hp_44.2.2 41 (.inl (0, 4, p_zero 0)))
def hp_46 : pH := (42, 19528, p_up hp_45.2.2 36 (.inr (5, [.null, .ref 37, .ref 38, .ref 39, .ref 40, .ref 41, .null, .int (0 : Int32), .int (0 : Int32), .int (0 : Int32), .int (0 : Int32), .int (0 : Int32), .int (0 : Int32), .int (0 : Int32)])))
def hp_47 : pH := (61, 21346, (p_mna 18 100 hp_46).2.2)
def hp_48 : pH := (61, 21346, p_up hp_47.2.2 36 (.inr (5, [.null, .ref 37, .ref 38, .ref 39, .ref 40, .ref 41, .ref 42, .int (0 : Int32), .int (0 : Int32), .int (0 : Int32), .int (0 : Int32), .int (0 : Int32), .int (0 : Int32), .int (0 : Int32)])))
def hp_49 : pH := (61, 21346, p_up hp_48.2.2 36 (.inr (5, [.ref 7, .ref 37, .ref 38, .ref 39, .ref 40, .ref 41, .ref 42, .int (0 : Int32), .int (0 : Int32), .int (0 : Int32), .int (0 : Int32), .int (0 : Int32), .int (0 : Int32), .int (0 : Int32)])))
set_option maxRecDepth 100000 in
set_option maxHeartbeats 4000000 in
theorem ct_X5_init_2 {en : pN} {d : Nat} : pev msL en (d + 1) 80 [.ref 36, .ref 7] hp_36 = some (none, hp_49) := by
  refine x_enter ix_X5_init (Nat.le_of_ble_eq_true rfl) ?_
  show xW _ en none tb_X5_init (0, [(0, .ref 36), (1, .ref 7)], []) hp_36 _
  refine x_L 1 (f' := (1, [(0, .ref 36), (1, .ref 7)], [.ref 36])) rfl ?_
  refine x_obj rfl rfl (Nat.le_of_ble_eq_true rfl) ?_
  show xW _ en none tb_X5_init (4, [(0, .ref 36), (1, .ref 7)], []) hp_36 _
  refine x_L 2 (f' := (7, [(0, .ref 36), (1, .ref 7)], [.int (16 : Int32), .ref 36])) rfl ?_
  refine x_H ((9, [(0, .ref 36), (1, .ref 7)], [.ref 37, .ref 36]), hp_37) rfl rfl rfl rfl rfl ?_
  refine x_H ((12, [(0, .ref 36), (1, .ref 7)], []), hp_38) rfl rfl rfl rfl rfl ?_
  refine x_L 2 (f' := (15, [(0, .ref 36), (1, .ref 7)], [.int (24 : Int32), .ref 36])) rfl ?_
  refine x_H ((17, [(0, .ref 36), (1, .ref 7)], [.ref 38, .ref 36]), hp_39) rfl rfl rfl rfl rfl ?_
  refine x_H ((20, [(0, .ref 36), (1, .ref 7)], []), hp_40) rfl rfl rfl rfl rfl ?_
  refine x_L 2 (f' := (22, [(0, .ref 36), (1, .ref 7)], [.int (4 : Int32), .ref 36])) rfl ?_
  refine x_H ((24, [(0, .ref 36), (1, .ref 7)], [.ref 39, .ref 36]), hp_41) rfl rfl rfl rfl rfl ?_
  refine x_H ((27, [(0, .ref 36), (1, .ref 7)], []), hp_42) rfl rfl rfl rfl rfl ?_
  refine x_L 2 (f' := (30, [(0, .ref 36), (1, .ref 7)], [.int (8 : Int32), .ref 36])) rfl ?_
  refine x_H ((32, [(0, .ref 36), (1, .ref 7)], [.ref 40, .ref 36]), hp_43) rfl rfl rfl rfl rfl ?_
  refine x_H ((35, [(0, .ref 36), (1, .ref 7)], []), hp_44) rfl rfl rfl rfl rfl ?_
  refine x_L 2 (f' := (37, [(0, .ref 36), (1, .ref 7)], [.int (4 : Int32), .ref 36])) rfl ?_
  refine x_H ((39, [(0, .ref 36), (1, .ref 7)], [.ref 41, .ref 36]), hp_45) rfl rfl rfl rfl rfl ?_
  refine x_H ((42, [(0, .ref 36), (1, .ref 7)], []), hp_46) rfl rfl rfl rfl rfl ?_
  refine x_L 3 (f' := (47, [(0, .ref 36), (1, .ref 7)], [.int (100 : Int32), .int (18 : Int32), .ref 36])) rfl ?_
  refine x_H ((51, [(0, .ref 36), (1, .ref 7)], [.ref 42, .ref 36]), hp_47) rfl rfl rfl rfl rfl ?_
  refine x_H ((54, [(0, .ref 36), (1, .ref 7)], []), hp_48) rfl rfl rfl rfl rfl ?_
  refine x_L 2 (f' := (56, [(0, .ref 36), (1, .ref 7)], [.ref 7, .ref 36])) rfl ?_
  refine x_H ((59, [(0, .ref 36), (1, .ref 7)], []), hp_49) rfl rfl rfl rfl rfl ?_
  exact x_ret rfl rfl
def hp_50 : pH := (61, 21346, p_up hp_49.2.2 0 (.inr (11, [.ref 1, .ref 11, .ref 36, .null, .null, .null, .null, .null, .null, .int (0 : Int32), .int (0 : Int32), .int (0 : Int32), .int (0 : Int32), .int (0 : Int32), .int (0 : Int32)])))
def hp_51 : pH := (62, 21351, p_up hp_50.2.2 61 (.inr (4, p_dfl 4 5)))
def hp_52 : pH := (63, 21751, p_up hp_51.2.2 62 (.inl (0, 400, p_zero 0)))
def hp_53 : pH := (63, 21751, p_up hp_52.2.2 61 (.inr (4, [.ref 62, .null, .null, .int (0 : Int32), .int (0 : Int32)])))
def hp_54 : pH := (64, 22151, p_up hp_53.2.2 63 (.inl (0, 400, p_zero 0)))
def hp_55 : pH := (64, 22151, p_up hp_54.2.2 61 (.inr (4, [.ref 62, .ref 63, .null, .int (0 : Int32), .int (0 : Int32)])))
def hp_56 : pH := (65, 22553, p_up hp_55.2.2 64 (.inl (0, 402, p_zero 0)))
def hp_57 : pH := (65, 22553, p_up hp_56.2.2 61 (.inr (4, [.ref 62, .ref 63, .ref 64, .int (0 : Int32), .int (0 : Int32)])))
set_option maxRecDepth 100000 in
set_option maxHeartbeats 4000000 in
theorem ct_X4_init_2 {en : pN} {d : Nat} : pev msL en (d + 1) 75 [.ref 61, .int (400 : Int32)] hp_51 = some (none, hp_57) := by
  refine x_enter ix_X4_init (Nat.le_of_ble_eq_true rfl) ?_
  show xW _ en none tb_X4_init (0, [(0, .ref 61), (1, .int (400 : Int32))], []) hp_51 _
  refine x_L 1 (f' := (1, [(0, .ref 61), (1, .int (400 : Int32))], [.ref 61])) rfl ?_
  refine x_obj rfl rfl (Nat.le_of_ble_eq_true rfl) ?_
  show xW _ en none tb_X4_init (4, [(0, .ref 61), (1, .int (400 : Int32))], []) hp_51 _
  refine x_L 2 (f' := (6, [(0, .ref 61), (1, .int (400 : Int32))], [.int (400 : Int32), .ref 61])) rfl ?_
  refine x_H ((8, [(0, .ref 61), (1, .int (400 : Int32))], [.ref 62, .ref 61]), hp_52) rfl rfl rfl rfl rfl ?_
  refine x_H ((11, [(0, .ref 61), (1, .int (400 : Int32))], []), hp_53) rfl rfl rfl rfl rfl ?_
  refine x_L 2 (f' := (13, [(0, .ref 61), (1, .int (400 : Int32))], [.int (400 : Int32), .ref 61])) rfl ?_
  refine x_H ((15, [(0, .ref 61), (1, .int (400 : Int32))], [.ref 63, .ref 61]), hp_54) rfl rfl rfl rfl rfl ?_
  refine x_H ((18, [(0, .ref 61), (1, .int (400 : Int32))], []), hp_55) rfl rfl rfl rfl rfl ?_
  refine x_L 4 (f' := (22, [(0, .ref 61), (1, .int (400 : Int32))], [.int (402 : Int32), .ref 61])) rfl ?_
  refine x_H ((24, [(0, .ref 61), (1, .int (400 : Int32))], [.ref 64, .ref 61]), hp_56) rfl rfl rfl rfl rfl ?_
  refine x_H ((27, [(0, .ref 61), (1, .int (400 : Int32))], []), hp_57) rfl rfl rfl rfl rfl ?_
  exact x_ret rfl rfl
def hp_58 : pH := (66, 22568, p_up hp_57.2.2 65 (.inr (6, p_dfl 6 15)))
def hp_59 : pH := (67, 22575, p_up hp_58.2.2 66 (cdE 7 kw1))
def hp_60 : pH := (67, 22575, p_up hp_59.2.2 65 (.inr (6, [.null, .null, .null, .ref 66, .null, .null, .null, .null, .int (0 : Int32), .int (0 : Int32), .int (0 : Int32), .int (0 : Int32), .int (0 : Int32), .int (0 : Int32), .int (0 : Int32)])))
def hp_61 : pH := (68, 22675, p_up hp_60.2.2 67 (.inl (1, 100, p_zero 1)))
def hp_62 : pH := (68, 22675, p_up hp_61.2.2 65 (.inr (6, [.null, .null, .null, .ref 66, .ref 67, .null, .null, .null, .int (0 : Int32), .int (0 : Int32), .int (0 : Int32), .int (0 : Int32), .int (0 : Int32), .int (0 : Int32), .int (0 : Int32)])))
def hp_63 : pH := (69, 22775, p_up hp_62.2.2 68 (.inl (0, 100, p_zero 0)))
def hp_64 : pH := (69, 22775, p_up hp_63.2.2 65 (.inr (6, [.null, .null, .null, .ref 66, .ref 67, .ref 68, .null, .null, .int (0 : Int32), .int (0 : Int32), .int (0 : Int32), .int (0 : Int32), .int (0 : Int32), .int (0 : Int32), .int (0 : Int32)])))
def hp_65 : pH := (70, 22779, p_up hp_64.2.2 69 (.inl (0, 4, p_zero 0)))
def hp_66 : pH := (70, 22779, p_up hp_65.2.2 65 (.inr (6, [.null, .null, .null, .ref 66, .ref 67, .ref 68, .ref 69, .null, .int (0 : Int32), .int (0 : Int32), .int (0 : Int32), .int (0 : Int32), .int (0 : Int32), .int (0 : Int32), .int (0 : Int32)])))
def hp_67 : pH := (70, 22779, p_up hp_66.2.2 65 (.inr (6, [.ref 1, .null, .null, .ref 66, .ref 67, .ref 68, .ref 69, .null, .int (0 : Int32), .int (0 : Int32), .int (0 : Int32), .int (0 : Int32), .int (0 : Int32), .int (0 : Int32), .int (0 : Int32)])))
def hp_68 : pH := (70, 22779, p_up hp_67.2.2 65 (.inr (6, [.ref 1, .ref 11, .null, .ref 66, .ref 67, .ref 68, .ref 69, .null, .int (0 : Int32), .int (0 : Int32), .int (0 : Int32), .int (0 : Int32), .int (0 : Int32), .int (0 : Int32), .int (0 : Int32)])))
def hp_69 : pH := (70, 22779, p_up hp_68.2.2 65 (.inr (6, [.ref 1, .ref 11, .ref 61, .ref 66, .ref 67, .ref 68, .ref 69, .null, .int (0 : Int32), .int (0 : Int32), .int (0 : Int32), .int (0 : Int32), .int (0 : Int32), .int (0 : Int32), .int (0 : Int32)])))
def hp_70 : pH := (70, 22779, p_up hp_69.2.2 65 (.inr (6, [.ref 1, .ref 11, .ref 61, .ref 66, .ref 67, .ref 68, .ref 69, .ref 61, .int (0 : Int32), .int (0 : Int32), .int (0 : Int32), .int (0 : Int32), .int (0 : Int32), .int (0 : Int32), .int (0 : Int32)])))
def hp_71 : pH := (70, 22779, p_up hp_70.2.2 65 (.inr (6, [.ref 1, .ref 11, .ref 61, .ref 66, .ref 67, .ref 68, .ref 69, .ref 61, .int (0 : Int32), .int (0 : Int32), .int (0 : Int32), .int (0 : Int32), .int (-2 : Int32), .int (0 : Int32), .int (0 : Int32)])))
set_option maxRecDepth 100000 in
set_option maxHeartbeats 4000000 in
theorem ct_X6_init_1 {en : pN} {d : Nat} : pev msL en (d + 6) 112 [.ref 65, .ref 1, .ref 11, .ref 61] hp_58 = some (none, hp_71) := by
  refine x_enter ix_X6_init (Nat.le_of_ble_eq_true rfl) ?_
  show xW _ en none tb_X6_init (0, [(0, .ref 65), (1, .ref 1), (2, .ref 11), (3, .ref 61)], []) hp_58 _
  refine x_L 1 (f' := (1, [(0, .ref 65), (1, .ref 1), (2, .ref 11), (3, .ref 61)], [.ref 65])) rfl ?_
  refine x_obj rfl rfl (Nat.le_of_ble_eq_true rfl) ?_
  show xW _ en none tb_X6_init (4, [(0, .ref 65), (1, .ref 1), (2, .ref 11), (3, .ref 61)], []) hp_58 _
  refine x_L 1 (f' := (5, [(0, .ref 65), (1, .ref 1), (2, .ref 11), (3, .ref 61)], [.ref 65])) rfl ?_
  refine x_H ((7, [(0, .ref 65), (1, .ref 1), (2, .ref 11), (3, .ref 61)], [.retAddr 2, .ref 65]), hp_58) rfl rfl rfl rfl rfl ?_
  refine x_L 1 (f' := (9, [(0, .ref 65), (1, .ref 1), (2, .ref 11), (3, .ref 61)], [.int (7 : Int32), .retAddr 2, .ref 65])) rfl ?_
  refine x_stat 164 rfl rfl rfl ix_X9_codes rfl (Nat.le_of_ble_eq_true rfl) (kw1_run (d := d) hp_58) ?_
  show xW _ en none tb_X6_init (12, [(0, .ref 65), (1, .ref 1), (2, .ref 11), (3, .ref 61)], [.ref 66, .ref 65]) hp_59 _
  refine x_H ((15, [(0, .ref 65), (1, .ref 1), (2, .ref 11), (3, .ref 61)], []), hp_60) rfl rfl rfl rfl rfl ?_
  refine x_L 2 (f' := (18, [(0, .ref 65), (1, .ref 1), (2, .ref 11), (3, .ref 61)], [.int (100 : Int32), .ref 65])) rfl ?_
  refine x_H ((20, [(0, .ref 65), (1, .ref 1), (2, .ref 11), (3, .ref 61)], [.ref 67, .ref 65]), hp_61) rfl rfl rfl rfl rfl ?_
  refine x_H ((23, [(0, .ref 65), (1, .ref 1), (2, .ref 11), (3, .ref 61)], []), hp_62) rfl rfl rfl rfl rfl ?_
  refine x_L 2 (f' := (26, [(0, .ref 65), (1, .ref 1), (2, .ref 11), (3, .ref 61)], [.int (100 : Int32), .ref 65])) rfl ?_
  refine x_H ((28, [(0, .ref 65), (1, .ref 1), (2, .ref 11), (3, .ref 61)], [.ref 68, .ref 65]), hp_63) rfl rfl rfl rfl rfl ?_
  refine x_H ((31, [(0, .ref 65), (1, .ref 1), (2, .ref 11), (3, .ref 61)], []), hp_64) rfl rfl rfl rfl rfl ?_
  refine x_L 2 (f' := (33, [(0, .ref 65), (1, .ref 1), (2, .ref 11), (3, .ref 61)], [.int (4 : Int32), .ref 65])) rfl ?_
  refine x_H ((35, [(0, .ref 65), (1, .ref 1), (2, .ref 11), (3, .ref 61)], [.ref 69, .ref 65]), hp_65) rfl rfl rfl rfl rfl ?_
  refine x_H ((38, [(0, .ref 65), (1, .ref 1), (2, .ref 11), (3, .ref 61)], []), hp_66) rfl rfl rfl rfl rfl ?_
  refine x_L 2 (f' := (40, [(0, .ref 65), (1, .ref 1), (2, .ref 11), (3, .ref 61)], [.ref 1, .ref 65])) rfl ?_
  refine x_H ((43, [(0, .ref 65), (1, .ref 1), (2, .ref 11), (3, .ref 61)], []), hp_67) rfl rfl rfl rfl rfl ?_
  refine x_L 2 (f' := (45, [(0, .ref 65), (1, .ref 1), (2, .ref 11), (3, .ref 61)], [.ref 11, .ref 65])) rfl ?_
  refine x_H ((48, [(0, .ref 65), (1, .ref 1), (2, .ref 11), (3, .ref 61)], []), hp_68) rfl rfl rfl rfl rfl ?_
  refine x_L 2 (f' := (50, [(0, .ref 65), (1, .ref 1), (2, .ref 11), (3, .ref 61)], [.ref 61, .ref 65])) rfl ?_
  refine x_H ((53, [(0, .ref 65), (1, .ref 1), (2, .ref 11), (3, .ref 61)], []), hp_69) rfl rfl rfl rfl rfl ?_
  refine x_L 2 (f' := (55, [(0, .ref 65), (1, .ref 1), (2, .ref 11), (3, .ref 61)], [.ref 61, .ref 65])) rfl ?_
  refine x_H ((58, [(0, .ref 65), (1, .ref 1), (2, .ref 11), (3, .ref 61)], []), hp_70) rfl rfl rfl rfl rfl ?_
  refine x_L 2 (f' := (61, [(0, .ref 65), (1, .ref 1), (2, .ref 11), (3, .ref 61)], [.int (-2 : Int32), .ref 65])) rfl ?_
  refine x_H ((64, [(0, .ref 65), (1, .ref 1), (2, .ref 11), (3, .ref 61)], []), hp_71) rfl rfl rfl rfl rfl ?_
  exact x_ret rfl rfl
def hp_72 : pH := (70, 22779, p_up hp_71.2.2 0 (.inr (11, [.ref 1, .ref 11, .ref 36, .ref 65, .null, .null, .null, .null, .null, .int (0 : Int32), .int (0 : Int32), .int (0 : Int32), .int (0 : Int32), .int (0 : Int32), .int (0 : Int32)])))
def hp_73 : pH := (71, 22799, p_up hp_72.2.2 70 (.inr (10, p_dfl 10 20)))
def hp_74 : pH := (72, 22812, p_up hp_73.2.2 71 (.inr (3, p_dfl 3 13)))
def hp_75 : pH := (73, 23048, p_up hp_74.2.2 72 (.inl (0, 236, p_zero 0)))
def hp_76 : pH := (73, 23048, p_up hp_75.2.2 71 (.inr (3, [.ref 72, .null, .null, .int (0 : Int32), .null, .int (0 : Int32), .int (0 : Int32), .null, .int (0 : Int32), .int (0 : Int32), .int (0 : Int32), .int (0 : Int32), .int (0 : Int32)])))
def hp_77 : pH := (74, 23284, p_up hp_76.2.2 73 (.inl (0, 236, p_zero 0)))
def hp_78 : pH := (74, 23284, p_up hp_77.2.2 71 (.inr (3, [.ref 72, .ref 73, .null, .int (0 : Int32), .null, .int (0 : Int32), .int (0 : Int32), .null, .int (0 : Int32), .int (0 : Int32), .int (0 : Int32), .int (0 : Int32), .int (0 : Int32)])))
def hp_79 : pH := (75, 23324, p_up hp_78.2.2 74 (.inl (0, 40, p_zero 0)))
def hp_80 : pH := (75, 23324, p_up hp_79.2.2 71 (.inr (3, [.ref 72, .ref 73, .ref 74, .int (0 : Int32), .null, .int (0 : Int32), .int (0 : Int32), .null, .int (0 : Int32), .int (0 : Int32), .int (0 : Int32), .int (0 : Int32), .int (0 : Int32)])))
def hp_81 : pH := (76, 23544, p_up hp_80.2.2 75 (.inl (0, 220, p_zero 0)))
def hp_82 : pH := (76, 23544, p_up hp_81.2.2 71 (.inr (3, [.ref 72, .ref 73, .ref 74, .int (0 : Int32), .ref 75, .int (0 : Int32), .int (0 : Int32), .null, .int (0 : Int32), .int (0 : Int32), .int (0 : Int32), .int (0 : Int32), .int (0 : Int32)])))
set_option maxRecDepth 100000 in
set_option maxHeartbeats 4000000 in
theorem ct_X3_init_1 {en : pN} {d : Nat} : pev msL en (d + 1) 31 [.ref 71] hp_74 = some (none, hp_82) := by
  refine x_enter ix_X3_init (Nat.le_of_ble_eq_true rfl) ?_
  show xW _ en none tb_X3_init (0, [(0, .ref 71)], []) hp_74 _
  refine x_L 1 (f' := (1, [(0, .ref 71)], [.ref 71])) rfl ?_
  refine x_obj rfl rfl (Nat.le_of_ble_eq_true rfl) ?_
  show xW _ en none tb_X3_init (4, [(0, .ref 71)], []) hp_74 _
  refine x_L 2 (f' := (8, [(0, .ref 71)], [.int (236 : Int32), .ref 71])) rfl ?_
  refine x_H ((10, [(0, .ref 71)], [.ref 72, .ref 71]), hp_75) rfl rfl rfl rfl rfl ?_
  refine x_H ((13, [(0, .ref 71)], []), hp_76) rfl rfl rfl rfl rfl ?_
  refine x_L 2 (f' := (17, [(0, .ref 71)], [.int (236 : Int32), .ref 71])) rfl ?_
  refine x_H ((19, [(0, .ref 71)], [.ref 73, .ref 71]), hp_77) rfl rfl rfl rfl rfl ?_
  refine x_H ((22, [(0, .ref 71)], []), hp_78) rfl rfl rfl rfl rfl ?_
  refine x_L 2 (f' := (25, [(0, .ref 71)], [.int (40 : Int32), .ref 71])) rfl ?_
  refine x_H ((27, [(0, .ref 71)], [.ref 74, .ref 71]), hp_79) rfl rfl rfl rfl rfl ?_
  refine x_H ((30, [(0, .ref 71)], []), hp_80) rfl rfl rfl rfl rfl ?_
  refine x_L 2 (f' := (34, [(0, .ref 71)], [.int (220 : Int32), .ref 71])) rfl ?_
  refine x_H ((36, [(0, .ref 71)], [.ref 75, .ref 71]), hp_81) rfl rfl rfl rfl rfl ?_
  refine x_H ((39, [(0, .ref 71)], []), hp_82) rfl rfl rfl rfl rfl ?_
  exact x_ret rfl rfl
def hp_83 : pH := (76, 23544, p_up hp_82.2.2 70 (.inr (10, [.ref 71, .null, .null, .null, .null, .null, .null, .null, .null, .null, .null, .null, .null, .int (0 : Int32), .int (0 : Int32), .int (0 : Int32), .int (0 : Int32), .int (0 : Int32), .int (0 : Int32), .int (0 : Int32)])))
def hp_84 : pH := (77, 23551, p_up hp_83.2.2 76 (.inr (0, p_dfl 0 7)))
def hp_85 : pH := (78, 33551, p_up hp_84.2.2 77 (.inl (0, 10000, p_zero 0)))
def hp_86 : pH := (78, 33551, p_up hp_85.2.2 76 (.inr (0, [.ref 77, .null, .null, .null, .null, .null, .int (0 : Int32)])))
def hp_87 : pH := (79, 33559, p_up hp_86.2.2 78 (.inl (0, 8, p_zero 0)))
def hp_88 : pH := (79, 33559, p_up hp_87.2.2 76 (.inr (0, [.ref 77, .ref 78, .null, .null, .null, .null, .int (0 : Int32)])))
def hp_89 : pH := (80, 33563, p_up hp_88.2.2 79 (.inl (0, 4, p_zero 0)))
def hp_90 : pH := (80, 33563, p_up hp_89.2.2 76 (.inr (0, [.ref 77, .ref 78, .ref 79, .null, .null, .null, .int (0 : Int32)])))
def hp_91 : pH := (81, 33568, p_up hp_90.2.2 80 (.inl (0, 5, p_zero 0)))
def hp_92 : pH := (81, 33568, p_up hp_91.2.2 76 (.inr (0, [.ref 77, .ref 78, .ref 79, .ref 80, .null, .null, .int (0 : Int32)])))
def hp_93 : pH := (82, 33572, p_up hp_92.2.2 81 (.inl (0, 4, p_zero 0)))
def hp_94 : pH := (82, 33572, p_up hp_93.2.2 76 (.inr (0, [.ref 77, .ref 78, .ref 79, .ref 80, .ref 81, .null, .int (0 : Int32)])))
def hp_95 : pH := (83, 33576, p_up hp_94.2.2 82 (.inl (0, 4, p_zero 0)))
def hp_96 : pH := (83, 33576, p_up hp_95.2.2 76 (.inr (0, [.ref 77, .ref 78, .ref 79, .ref 80, .ref 81, .ref 82, .int (0 : Int32)])))
set_option maxRecDepth 100000 in
set_option maxHeartbeats 4000000 in
theorem ct_X0_init_1 {en : pN} {d : Nat} : pev msL en (d + 1) 0 [.ref 76] hp_84 = some (none, hp_96) := by
  refine x_enter ix_X0_init (Nat.le_of_ble_eq_true rfl) ?_
  show xW _ en none tb_X0_init (0, [(0, .ref 76)], []) hp_84 _
  refine x_L 1 (f' := (1, [(0, .ref 76)], [.ref 76])) rfl ?_
  refine x_obj rfl rfl (Nat.le_of_ble_eq_true rfl) ?_
  show xW _ en none tb_X0_init (4, [(0, .ref 76)], []) hp_84 _
  refine x_L 2 (f' := (8, [(0, .ref 76)], [.int (10000 : Int32), .ref 76])) rfl ?_
  refine x_H ((10, [(0, .ref 76)], [.ref 77, .ref 76]), hp_85) rfl rfl rfl rfl rfl ?_
  refine x_H ((13, [(0, .ref 76)], []), hp_86) rfl rfl rfl rfl rfl ?_
  refine x_L 2 (f' := (16, [(0, .ref 76)], [.int (8 : Int32), .ref 76])) rfl ?_
  refine x_H ((18, [(0, .ref 76)], [.ref 78, .ref 76]), hp_87) rfl rfl rfl rfl rfl ?_
  refine x_H ((21, [(0, .ref 76)], []), hp_88) rfl rfl rfl rfl rfl ?_
  refine x_L 2 (f' := (23, [(0, .ref 76)], [.int (4 : Int32), .ref 76])) rfl ?_
  refine x_H ((25, [(0, .ref 76)], [.ref 79, .ref 76]), hp_89) rfl rfl rfl rfl rfl ?_
  refine x_H ((28, [(0, .ref 76)], []), hp_90) rfl rfl rfl rfl rfl ?_
  refine x_L 2 (f' := (30, [(0, .ref 76)], [.int (5 : Int32), .ref 76])) rfl ?_
  refine x_H ((32, [(0, .ref 76)], [.ref 80, .ref 76]), hp_91) rfl rfl rfl rfl rfl ?_
  refine x_H ((35, [(0, .ref 76)], []), hp_92) rfl rfl rfl rfl rfl ?_
  refine x_L 2 (f' := (37, [(0, .ref 76)], [.int (4 : Int32), .ref 76])) rfl ?_
  refine x_H ((39, [(0, .ref 76)], [.ref 81, .ref 76]), hp_93) rfl rfl rfl rfl rfl ?_
  refine x_H ((42, [(0, .ref 76)], []), hp_94) rfl rfl rfl rfl rfl ?_
  refine x_L 2 (f' := (44, [(0, .ref 76)], [.int (4 : Int32), .ref 76])) rfl ?_
  refine x_H ((46, [(0, .ref 76)], [.ref 82, .ref 76]), hp_95) rfl rfl rfl rfl rfl ?_
  refine x_H ((49, [(0, .ref 76)], []), hp_96) rfl rfl rfl rfl rfl ?_
  exact x_ret rfl rfl
def hp_97 : pH := (83, 33576, p_up hp_96.2.2 70 (.inr (10, [.ref 71, .ref 76, .null, .null, .null, .null, .null, .null, .null, .null, .null, .null, .null, .int (0 : Int32), .int (0 : Int32), .int (0 : Int32), .int (0 : Int32), .int (0 : Int32), .int (0 : Int32), .int (0 : Int32)])))
def hp_98 : pH := (84, 33582, p_up hp_97.2.2 83 (.inr (7, p_dfl 7 6)))
def hp_99 : pH := (85, 773582, p_up hp_98.2.2 84 (.inl (1, 740000, p_zero 1)))
def hp_100 : pH := (85, 773582, p_up hp_99.2.2 83 (.inr (7, [.ref 84, .null, .null, .int (0 : Int32), .int (0 : Int32), .int (0 : Int32)])))
def hp_101 : pH := (86, 793582, p_up hp_100.2.2 85 (.inl (0, 20000, p_zero 0)))
def hp_102 : pH := (86, 793582, p_up hp_101.2.2 83 (.inr (7, [.ref 84, .ref 85, .null, .int (0 : Int32), .int (0 : Int32), .int (0 : Int32)])))
def hp_103 : pH := (87, 826350, p_up hp_102.2.2 86 (.inl (0, 32768, p_zero 0)))
def hp_104 : pH := (87, 826350, p_up hp_103.2.2 83 (.inr (7, [.ref 84, .ref 85, .ref 86, .int (0 : Int32), .int (0 : Int32), .int (0 : Int32)])))
set_option maxRecDepth 100000 in
set_option maxHeartbeats 4000000 in
theorem ct_X7_init_1 {en : pN} {d : Nat} : pev msL en (d + 1) 145 [.ref 83, .ref 84, .int (20000 : Int32), .int (32768 : Int32)] hp_99 = some (none, hp_104) := by
  refine x_enter ix_X7_init (Nat.le_of_ble_eq_true rfl) ?_
  show xW _ en none tb_X7_init (0, [(0, .ref 83), (1, .ref 84), (2, .int (20000 : Int32)), (3, .int (32768 : Int32))], []) hp_99 _
  refine x_L 1 (f' := (1, [(0, .ref 83), (1, .ref 84), (2, .int (20000 : Int32)), (3, .int (32768 : Int32))], [.ref 83])) rfl ?_
  refine x_obj rfl rfl (Nat.le_of_ble_eq_true rfl) ?_
  show xW _ en none tb_X7_init (4, [(0, .ref 83), (1, .ref 84), (2, .int (20000 : Int32)), (3, .int (32768 : Int32))], []) hp_99 _
  refine x_L 2 (f' := (6, [(0, .ref 83), (1, .ref 84), (2, .int (20000 : Int32)), (3, .int (32768 : Int32))], [.ref 84, .ref 83])) rfl ?_
  refine x_H ((9, [(0, .ref 83), (1, .ref 84), (2, .int (20000 : Int32)), (3, .int (32768 : Int32))], []), hp_100) rfl rfl rfl rfl rfl ?_
  refine x_L 2 (f' := (11, [(0, .ref 83), (1, .ref 84), (2, .int (20000 : Int32)), (3, .int (32768 : Int32))], [.int (20000 : Int32), .ref 83])) rfl ?_
  refine x_H ((13, [(0, .ref 83), (1, .ref 84), (2, .int (20000 : Int32)), (3, .int (32768 : Int32))], [.ref 85, .ref 83]), hp_101) rfl rfl rfl rfl rfl ?_
  refine x_H ((16, [(0, .ref 83), (1, .ref 84), (2, .int (20000 : Int32)), (3, .int (32768 : Int32))], []), hp_102) rfl rfl rfl rfl rfl ?_
  refine x_L 2 (f' := (18, [(0, .ref 83), (1, .ref 84), (2, .int (20000 : Int32)), (3, .int (32768 : Int32))], [.int (32768 : Int32), .ref 83])) rfl ?_
  refine x_H ((20, [(0, .ref 83), (1, .ref 84), (2, .int (20000 : Int32)), (3, .int (32768 : Int32))], [.ref 86, .ref 83]), hp_103) rfl rfl rfl rfl rfl ?_
  refine x_H ((23, [(0, .ref 83), (1, .ref 84), (2, .int (20000 : Int32)), (3, .int (32768 : Int32))], []), hp_104) rfl rfl rfl rfl rfl ?_
  exact x_ret rfl rfl
def hp_105 : pH := (87, 826350, p_up hp_104.2.2 70 (.inr (10, [.ref 71, .ref 76, .ref 83, .null, .null, .null, .null, .null, .null, .null, .null, .null, .null, .int (0 : Int32), .int (0 : Int32), .int (0 : Int32), .int (0 : Int32), .int (0 : Int32), .int (0 : Int32), .int (0 : Int32)])))
def hp_106 : pH := (88, 826356, p_up hp_105.2.2 87 (.inr (7, p_dfl 7 6)))
def hp_107 : pH := (88, 826356, p_up hp_106.2.2 87 (.inr (7, [.ref 84, .null, .null, .int (0 : Int32), .int (0 : Int32), .int (0 : Int32)])))
def hp_108 : pH := (89, 846356, p_up hp_107.2.2 88 (.inl (0, 20000, p_zero 0)))
def hp_109 : pH := (89, 846356, p_up hp_108.2.2 87 (.inr (7, [.ref 84, .ref 88, .null, .int (0 : Int32), .int (0 : Int32), .int (0 : Int32)])))
def hp_110 : pH := (90, 879124, p_up hp_109.2.2 89 (.inl (0, 32768, p_zero 0)))
def hp_111 : pH := (90, 879124, p_up hp_110.2.2 87 (.inr (7, [.ref 84, .ref 88, .ref 89, .int (0 : Int32), .int (0 : Int32), .int (0 : Int32)])))
set_option maxRecDepth 100000 in
set_option maxHeartbeats 4000000 in
theorem ct_X7_init_2 {en : pN} {d : Nat} : pev msL en (d + 1) 145 [.ref 87, .ref 84, .int (20000 : Int32), .int (32768 : Int32)] hp_106 = some (none, hp_111) := by
  refine x_enter ix_X7_init (Nat.le_of_ble_eq_true rfl) ?_
  show xW _ en none tb_X7_init (0, [(0, .ref 87), (1, .ref 84), (2, .int (20000 : Int32)), (3, .int (32768 : Int32))], []) hp_106 _
  refine x_L 1 (f' := (1, [(0, .ref 87), (1, .ref 84), (2, .int (20000 : Int32)), (3, .int (32768 : Int32))], [.ref 87])) rfl ?_
  refine x_obj rfl rfl (Nat.le_of_ble_eq_true rfl) ?_
  show xW _ en none tb_X7_init (4, [(0, .ref 87), (1, .ref 84), (2, .int (20000 : Int32)), (3, .int (32768 : Int32))], []) hp_106 _
  refine x_L 2 (f' := (6, [(0, .ref 87), (1, .ref 84), (2, .int (20000 : Int32)), (3, .int (32768 : Int32))], [.ref 84, .ref 87])) rfl ?_
  refine x_H ((9, [(0, .ref 87), (1, .ref 84), (2, .int (20000 : Int32)), (3, .int (32768 : Int32))], []), hp_107) rfl rfl rfl rfl rfl ?_
  refine x_L 2 (f' := (11, [(0, .ref 87), (1, .ref 84), (2, .int (20000 : Int32)), (3, .int (32768 : Int32))], [.int (20000 : Int32), .ref 87])) rfl ?_
  refine x_H ((13, [(0, .ref 87), (1, .ref 84), (2, .int (20000 : Int32)), (3, .int (32768 : Int32))], [.ref 88, .ref 87]), hp_108) rfl rfl rfl rfl rfl ?_
  refine x_H ((16, [(0, .ref 87), (1, .ref 84), (2, .int (20000 : Int32)), (3, .int (32768 : Int32))], []), hp_109) rfl rfl rfl rfl rfl ?_
  refine x_L 2 (f' := (18, [(0, .ref 87), (1, .ref 84), (2, .int (20000 : Int32)), (3, .int (32768 : Int32))], [.int (32768 : Int32), .ref 87])) rfl ?_
  refine x_H ((20, [(0, .ref 87), (1, .ref 84), (2, .int (20000 : Int32)), (3, .int (32768 : Int32))], [.ref 89, .ref 87]), hp_110) rfl rfl rfl rfl rfl ?_
  refine x_H ((23, [(0, .ref 87), (1, .ref 84), (2, .int (20000 : Int32)), (3, .int (32768 : Int32))], []), hp_111) rfl rfl rfl rfl rfl ?_
  exact x_ret rfl rfl
def hp_112 : pH := (90, 879124, p_up hp_111.2.2 70 (.inr (10, [.ref 71, .ref 76, .ref 83, .ref 87, .null, .null, .null, .null, .null, .null, .null, .null, .null, .int (0 : Int32), .int (0 : Int32), .int (0 : Int32), .int (0 : Int32), .int (0 : Int32), .int (0 : Int32), .int (0 : Int32)])))
def hp_113 : pH := (91, 1079124, p_up hp_112.2.2 90 (.inl (0, 200000, p_zero 0)))
def hp_114 : pH := (91, 1079124, p_up hp_113.2.2 70 (.inr (10, [.ref 71, .ref 76, .ref 83, .ref 87, .ref 90, .null, .null, .null, .null, .null, .null, .null, .null, .int (0 : Int32), .int (0 : Int32), .int (0 : Int32), .int (0 : Int32), .int (0 : Int32), .int (0 : Int32), .int (0 : Int32)])))
def hp_115 : pH := (92, 1099124, p_up hp_114.2.2 91 (.inl (0, 20000, p_zero 0)))
def hp_116 : pH := (92, 1099124, p_up hp_115.2.2 70 (.inr (10, [.ref 71, .ref 76, .ref 83, .ref 87, .ref 90, .ref 91, .null, .null, .null, .null, .null, .null, .null, .int (0 : Int32), .int (0 : Int32), .int (0 : Int32), .int (0 : Int32), .int (0 : Int32), .int (0 : Int32), .int (0 : Int32)])))
def hp_117 : pH := (93, 1119125, p_up hp_116.2.2 92 (.inl (0, 20001, p_zero 0)))
def hp_118 : pH := (93, 1119125, p_up hp_117.2.2 70 (.inr (10, [.ref 71, .ref 76, .ref 83, .ref 87, .ref 90, .ref 91, .ref 92, .null, .null, .null, .null, .null, .null, .int (0 : Int32), .int (0 : Int32), .int (0 : Int32), .int (0 : Int32), .int (0 : Int32), .int (0 : Int32), .int (0 : Int32)])))
def hp_119 : pH := (94, 1139125, p_up hp_118.2.2 93 (.inl (0, 20000, p_zero 0)))
def hp_120 : pH := (94, 1139125, p_up hp_119.2.2 70 (.inr (10, [.ref 71, .ref 76, .ref 83, .ref 87, .ref 90, .ref 91, .ref 92, .ref 93, .null, .null, .null, .null, .null, .int (0 : Int32), .int (0 : Int32), .int (0 : Int32), .int (0 : Int32), .int (0 : Int32), .int (0 : Int32), .int (0 : Int32)])))
def hp_121 : pH := (95, 1139235, p_up hp_120.2.2 94 (.inl (1, 110, p_zero 1)))
def hp_122 : pH := (95, 1139235, p_up hp_121.2.2 70 (.inr (10, [.ref 71, .ref 76, .ref 83, .ref 87, .ref 90, .ref 91, .ref 92, .ref 93, .ref 94, .null, .null, .null, .null, .int (0 : Int32), .int (0 : Int32), .int (0 : Int32), .int (0 : Int32), .int (0 : Int32), .int (0 : Int32), .int (0 : Int32)])))
def hp_123 : pH := (96, 1139239, p_up hp_122.2.2 95 (.inl (0, 4, p_zero 0)))
def hp_124 : pH := (96, 1139239, p_up hp_123.2.2 70 (.inr (10, [.ref 71, .ref 76, .ref 83, .ref 87, .ref 90, .ref 91, .ref 92, .ref 93, .ref 94, .ref 95, .null, .null, .null, .int (0 : Int32), .int (0 : Int32), .int (0 : Int32), .int (0 : Int32), .int (0 : Int32), .int (0 : Int32), .int (0 : Int32)])))
def hp_125 : pH := (97, 1219239, p_up hp_124.2.2 96 (.inl (0, 80000, p_zero 0)))
def hp_126 : pH := (97, 1219239, p_up hp_125.2.2 70 (.inr (10, [.ref 71, .ref 76, .ref 83, .ref 87, .ref 90, .ref 91, .ref 92, .ref 93, .ref 94, .ref 95, .ref 96, .null, .null, .int (0 : Int32), .int (0 : Int32), .int (0 : Int32), .int (0 : Int32), .int (0 : Int32), .int (0 : Int32), .int (0 : Int32)])))
def hp_127 : pH := (98, 1299239, p_up hp_126.2.2 97 (.inl (0, 80000, p_zero 0)))
def hp_128 : pH := (98, 1299239, p_up hp_127.2.2 70 (.inr (10, [.ref 71, .ref 76, .ref 83, .ref 87, .ref 90, .ref 91, .ref 92, .ref 93, .ref 94, .ref 95, .ref 96, .ref 97, .null, .int (0 : Int32), .int (0 : Int32), .int (0 : Int32), .int (0 : Int32), .int (0 : Int32), .int (0 : Int32), .int (0 : Int32)])))
def hp_129 : pH := (99, 1379239, p_up hp_128.2.2 98 (.inl (0, 80000, p_zero 0)))
def hp_130 : pH := (99, 1379239, p_up hp_129.2.2 70 (.inr (10, [.ref 71, .ref 76, .ref 83, .ref 87, .ref 90, .ref 91, .ref 92, .ref 93, .ref 94, .ref 95, .ref 96, .ref 97, .ref 98, .int (0 : Int32), .int (0 : Int32), .int (0 : Int32), .int (0 : Int32), .int (0 : Int32), .int (0 : Int32), .int (0 : Int32)])))
set_option maxRecDepth 100000 in
set_option maxHeartbeats 4000000 in
theorem ct_X10_init_1 {en : pN} {d : Nat} : pev msL en (d + 2) 176 [.ref 70] hp_73 = some (none, hp_130) := by
  refine x_enter ix_X10_init (Nat.le_of_ble_eq_true rfl) ?_
  show xW _ en none tb_X10_init (0, [(0, .ref 70)], []) hp_73 _
  refine x_L 1 (f' := (1, [(0, .ref 70)], [.ref 70])) rfl ?_
  refine x_obj rfl rfl (Nat.le_of_ble_eq_true rfl) ?_
  show xW _ en none tb_X10_init (4, [(0, .ref 70)], []) hp_73 _
  refine x_L 1 (f' := (5, [(0, .ref 70)], [.ref 70])) rfl ?_
  refine x_H ((8, [(0, .ref 70)], [.ref 71, .ref 70]), hp_74) rfl rfl rfl rfl rfl ?_
  refine x_L 1 (f' := (9, [(0, .ref 70)], [.ref 71, .ref 71, .ref 70])) rfl ?_
  refine x_spec 31 rfl rfl rfl ix_X3_init rfl (Nat.le_of_ble_eq_true rfl) (ct_X3_init_1 (d := d + 0)) ?_
  show xW _ en none tb_X10_init (12, [(0, .ref 70)], [.ref 71, .ref 70]) hp_82 _
  refine x_H ((15, [(0, .ref 70)], []), hp_83) rfl rfl rfl rfl rfl ?_
  refine x_L 1 (f' := (16, [(0, .ref 70)], [.ref 70])) rfl ?_
  refine x_H ((19, [(0, .ref 70)], [.ref 76, .ref 70]), hp_84) rfl rfl rfl rfl rfl ?_
  refine x_L 1 (f' := (20, [(0, .ref 70)], [.ref 76, .ref 76, .ref 70])) rfl ?_
  refine x_spec 0 rfl rfl rfl ix_X0_init rfl (Nat.le_of_ble_eq_true rfl) (ct_X0_init_1 (d := d + 0)) ?_
  show xW _ en none tb_X10_init (23, [(0, .ref 70)], [.ref 76, .ref 70]) hp_96 _
  refine x_H ((26, [(0, .ref 70)], []), hp_97) rfl rfl rfl rfl rfl ?_
  refine x_L 1 (f' := (27, [(0, .ref 70)], [.ref 70])) rfl ?_
  refine x_H ((30, [(0, .ref 70)], [.ref 83, .ref 70]), hp_98) rfl rfl rfl rfl rfl ?_
  refine x_L 1 (f' := (31, [(0, .ref 70)], [.ref 83, .ref 83, .ref 70])) rfl ?_
  refine x_H ((33, [(0, .ref 70)], [.int (740000 : Int32), .ref 83, .ref 83, .ref 70]), hp_98) rfl rfl rfl rfl rfl ?_
  refine x_H ((35, [(0, .ref 70)], [.ref 84, .ref 83, .ref 83, .ref 70]), hp_99) rfl rfl rfl rfl rfl ?_
  refine x_L 1 (f' := (38, [(0, .ref 70)], [.int (20000 : Int32), .ref 84, .ref 83, .ref 83, .ref 70])) rfl ?_
  refine x_H ((40, [(0, .ref 70)], [.int (32768 : Int32), .int (20000 : Int32), .ref 84, .ref 83, .ref 83, .ref 70]), hp_99) rfl rfl rfl rfl rfl ?_
  refine x_spec 145 rfl rfl rfl ix_X7_init rfl (Nat.le_of_ble_eq_true rfl) (ct_X7_init_1 (d := d + 0)) ?_
  show xW _ en none tb_X10_init (43, [(0, .ref 70)], [.ref 83, .ref 70]) hp_104 _
  refine x_H ((46, [(0, .ref 70)], []), hp_105) rfl rfl rfl rfl rfl ?_
  refine x_L 1 (f' := (47, [(0, .ref 70)], [.ref 70])) rfl ?_
  refine x_H ((50, [(0, .ref 70)], [.ref 87, .ref 70]), hp_106) rfl rfl rfl rfl rfl ?_
  refine x_L 2 (f' := (52, [(0, .ref 70)], [.ref 70, .ref 87, .ref 87, .ref 70])) rfl ?_
  refine x_H ((55, [(0, .ref 70)], [.ref 83, .ref 87, .ref 87, .ref 70]), hp_106) rfl rfl rfl rfl rfl ?_
  refine x_H ((58, [(0, .ref 70)], [.ref 84, .ref 87, .ref 87, .ref 70]), hp_106) rfl rfl rfl rfl rfl ?_
  refine x_L 1 (f' := (61, [(0, .ref 70)], [.int (20000 : Int32), .ref 84, .ref 87, .ref 87, .ref 70])) rfl ?_
  refine x_H ((63, [(0, .ref 70)], [.int (32768 : Int32), .int (20000 : Int32), .ref 84, .ref 87, .ref 87, .ref 70]), hp_106) rfl rfl rfl rfl rfl ?_
  refine x_spec 145 rfl rfl rfl ix_X7_init rfl (Nat.le_of_ble_eq_true rfl) (ct_X7_init_2 (d := d + 0)) ?_
  show xW _ en none tb_X10_init (66, [(0, .ref 70)], [.ref 87, .ref 70]) hp_111 _
  refine x_H ((69, [(0, .ref 70)], []), hp_112) rfl rfl rfl rfl rfl ?_
  refine x_L 1 (f' := (70, [(0, .ref 70)], [.ref 70])) rfl ?_
  refine x_H ((72, [(0, .ref 70)], [.int (200000 : Int32), .ref 70]), hp_112) rfl rfl rfl rfl rfl ?_
  refine x_H ((74, [(0, .ref 70)], [.ref 90, .ref 70]), hp_113) rfl rfl rfl rfl rfl ?_
  refine x_H ((77, [(0, .ref 70)], []), hp_114) rfl rfl rfl rfl rfl ?_
  refine x_L 2 (f' := (81, [(0, .ref 70)], [.int (20000 : Int32), .ref 70])) rfl ?_
  refine x_H ((83, [(0, .ref 70)], [.ref 91, .ref 70]), hp_115) rfl rfl rfl rfl rfl ?_
  refine x_H ((86, [(0, .ref 70)], []), hp_116) rfl rfl rfl rfl rfl ?_
  refine x_L 2 (f' := (90, [(0, .ref 70)], [.int (20001 : Int32), .ref 70])) rfl ?_
  refine x_H ((92, [(0, .ref 70)], [.ref 92, .ref 70]), hp_117) rfl rfl rfl rfl rfl ?_
  refine x_H ((95, [(0, .ref 70)], []), hp_118) rfl rfl rfl rfl rfl ?_
  refine x_L 2 (f' := (99, [(0, .ref 70)], [.int (20000 : Int32), .ref 70])) rfl ?_
  refine x_H ((101, [(0, .ref 70)], [.ref 93, .ref 70]), hp_119) rfl rfl rfl rfl rfl ?_
  refine x_H ((104, [(0, .ref 70)], []), hp_120) rfl rfl rfl rfl rfl ?_
  refine x_L 2 (f' := (107, [(0, .ref 70)], [.int (110 : Int32), .ref 70])) rfl ?_
  refine x_H ((109, [(0, .ref 70)], [.ref 94, .ref 70]), hp_121) rfl rfl rfl rfl rfl ?_
  refine x_H ((112, [(0, .ref 70)], []), hp_122) rfl rfl rfl rfl rfl ?_
  refine x_L 2 (f' := (114, [(0, .ref 70)], [.int (4 : Int32), .ref 70])) rfl ?_
  refine x_H ((116, [(0, .ref 70)], [.ref 95, .ref 70]), hp_123) rfl rfl rfl rfl rfl ?_
  refine x_H ((119, [(0, .ref 70)], []), hp_124) rfl rfl rfl rfl rfl ?_
  refine x_L 1 (f' := (120, [(0, .ref 70)], [.ref 70])) rfl ?_
  refine x_H ((122, [(0, .ref 70)], [.int (80000 : Int32), .ref 70]), hp_124) rfl rfl rfl rfl rfl ?_
  refine x_H ((124, [(0, .ref 70)], [.ref 96, .ref 70]), hp_125) rfl rfl rfl rfl rfl ?_
  refine x_H ((127, [(0, .ref 70)], []), hp_126) rfl rfl rfl rfl rfl ?_
  refine x_L 1 (f' := (128, [(0, .ref 70)], [.ref 70])) rfl ?_
  refine x_H ((130, [(0, .ref 70)], [.int (80000 : Int32), .ref 70]), hp_126) rfl rfl rfl rfl rfl ?_
  refine x_H ((132, [(0, .ref 70)], [.ref 97, .ref 70]), hp_127) rfl rfl rfl rfl rfl ?_
  refine x_H ((135, [(0, .ref 70)], []), hp_128) rfl rfl rfl rfl rfl ?_
  refine x_L 1 (f' := (136, [(0, .ref 70)], [.ref 70])) rfl ?_
  refine x_H ((138, [(0, .ref 70)], [.int (80000 : Int32), .ref 70]), hp_128) rfl rfl rfl rfl rfl ?_
  refine x_H ((140, [(0, .ref 70)], [.ref 98, .ref 70]), hp_129) rfl rfl rfl rfl rfl ?_
  refine x_H ((143, [(0, .ref 70)], []), hp_130) rfl rfl rfl rfl rfl ?_
  exact x_ret rfl rfl
def hp_131 : pH := (99, 1379239, p_up hp_130.2.2 0 (.inr (11, [.ref 1, .ref 11, .ref 36, .ref 65, .ref 70, .null, .null, .null, .null, .int (0 : Int32), .int (0 : Int32), .int (0 : Int32), .int (0 : Int32), .int (0 : Int32), .int (0 : Int32)])))
def hp_132 : pH := (100, 1379245, p_up hp_131.2.2 99 (.inr (7, p_dfl 7 6)))
def hp_133 : pH := (101, 1447245, p_up hp_132.2.2 100 (.inl (1, 68000, p_zero 1)))
def hp_134 : pH := (101, 1447245, p_up hp_133.2.2 99 (.inr (7, [.ref 100, .null, .null, .int (0 : Int32), .int (0 : Int32), .int (0 : Int32)])))
def hp_135 : pH := (102, 1451245, p_up hp_134.2.2 101 (.inl (0, 4000, p_zero 0)))
def hp_136 : pH := (102, 1451245, p_up hp_135.2.2 99 (.inr (7, [.ref 100, .ref 101, .null, .int (0 : Int32), .int (0 : Int32), .int (0 : Int32)])))
def hp_137 : pH := (103, 1459437, p_up hp_136.2.2 102 (.inl (0, 8192, p_zero 0)))
def hp_138 : pH := (103, 1459437, p_up hp_137.2.2 99 (.inr (7, [.ref 100, .ref 101, .ref 102, .int (0 : Int32), .int (0 : Int32), .int (0 : Int32)])))
set_option maxRecDepth 100000 in
set_option maxHeartbeats 4000000 in
theorem ct_X7_init_3 {en : pN} {d : Nat} : pev msL en (d + 1) 145 [.ref 99, .ref 100, .int (4000 : Int32), .int (8192 : Int32)] hp_133 = some (none, hp_138) := by
  refine x_enter ix_X7_init (Nat.le_of_ble_eq_true rfl) ?_
  show xW _ en none tb_X7_init (0, [(0, .ref 99), (1, .ref 100), (2, .int (4000 : Int32)), (3, .int (8192 : Int32))], []) hp_133 _
  refine x_L 1 (f' := (1, [(0, .ref 99), (1, .ref 100), (2, .int (4000 : Int32)), (3, .int (8192 : Int32))], [.ref 99])) rfl ?_
  refine x_obj rfl rfl (Nat.le_of_ble_eq_true rfl) ?_
  show xW _ en none tb_X7_init (4, [(0, .ref 99), (1, .ref 100), (2, .int (4000 : Int32)), (3, .int (8192 : Int32))], []) hp_133 _
  refine x_L 2 (f' := (6, [(0, .ref 99), (1, .ref 100), (2, .int (4000 : Int32)), (3, .int (8192 : Int32))], [.ref 100, .ref 99])) rfl ?_
  refine x_H ((9, [(0, .ref 99), (1, .ref 100), (2, .int (4000 : Int32)), (3, .int (8192 : Int32))], []), hp_134) rfl rfl rfl rfl rfl ?_
  refine x_L 2 (f' := (11, [(0, .ref 99), (1, .ref 100), (2, .int (4000 : Int32)), (3, .int (8192 : Int32))], [.int (4000 : Int32), .ref 99])) rfl ?_
  refine x_H ((13, [(0, .ref 99), (1, .ref 100), (2, .int (4000 : Int32)), (3, .int (8192 : Int32))], [.ref 101, .ref 99]), hp_135) rfl rfl rfl rfl rfl ?_
  refine x_H ((16, [(0, .ref 99), (1, .ref 100), (2, .int (4000 : Int32)), (3, .int (8192 : Int32))], []), hp_136) rfl rfl rfl rfl rfl ?_
  refine x_L 2 (f' := (18, [(0, .ref 99), (1, .ref 100), (2, .int (4000 : Int32)), (3, .int (8192 : Int32))], [.int (8192 : Int32), .ref 99])) rfl ?_
  refine x_H ((20, [(0, .ref 99), (1, .ref 100), (2, .int (4000 : Int32)), (3, .int (8192 : Int32))], [.ref 102, .ref 99]), hp_137) rfl rfl rfl rfl rfl ?_
  refine x_H ((23, [(0, .ref 99), (1, .ref 100), (2, .int (4000 : Int32)), (3, .int (8192 : Int32))], []), hp_138) rfl rfl rfl rfl rfl ?_
  exact x_ret rfl rfl
def hp_139 : pH := (103, 1459437, p_up hp_138.2.2 0 (.inr (11, [.ref 1, .ref 11, .ref 36, .ref 65, .ref 70, .ref 99, .null, .null, .null, .int (0 : Int32), .int (0 : Int32), .int (0 : Int32), .int (0 : Int32), .int (0 : Int32), .int (0 : Int32)])))
def hp_140 : pH := (104, 1459451, p_up hp_139.2.2 103 (.inr (2, p_dfl 2 14)))
def hp_141 : pH := (105, 1479451, p_up hp_140.2.2 104 (.inl (0, 20000, p_zero 0)))
def hp_142 : pH := (105, 1479451, p_up hp_141.2.2 103 (.inr (2, [.null, .null, .ref 104, .null, .null, .null, .null, .null, .null, .int (0 : Int32), .int (0 : Int32), .int (0 : Int32), .int (0 : Int32), .int (0 : Int32)])))
def hp_143 : pH := (106, 1499451, p_up hp_142.2.2 105 (.inl (0, 20000, p_zero 0)))
def hp_144 : pH := (106, 1499451, p_up hp_143.2.2 103 (.inr (2, [.null, .null, .ref 104, .ref 105, .null, .null, .null, .null, .null, .int (0 : Int32), .int (0 : Int32), .int (0 : Int32), .int (0 : Int32), .int (0 : Int32)])))
def hp_145 : pH := (107, 1519451, p_up hp_144.2.2 106 (.inl (0, 20000, p_zero 0)))
def hp_146 : pH := (107, 1519451, p_up hp_145.2.2 103 (.inr (2, [.null, .null, .ref 104, .ref 105, .ref 106, .null, .null, .null, .null, .int (0 : Int32), .int (0 : Int32), .int (0 : Int32), .int (0 : Int32), .int (0 : Int32)])))
def hp_147 : pH := (108, 1539451, p_up hp_146.2.2 107 (.inl (0, 20000, p_zero 0)))
def hp_148 : pH := (108, 1539451, p_up hp_147.2.2 103 (.inr (2, [.null, .null, .ref 104, .ref 105, .ref 106, .ref 107, .null, .null, .null, .int (0 : Int32), .int (0 : Int32), .int (0 : Int32), .int (0 : Int32), .int (0 : Int32)])))
def hp_149 : pH := (109, 1559451, p_up hp_148.2.2 108 (.inl (0, 20000, p_zero 0)))
def hp_150 : pH := (109, 1559451, p_up hp_149.2.2 103 (.inr (2, [.null, .null, .ref 104, .ref 105, .ref 106, .ref 107, .ref 108, .null, .null, .int (0 : Int32), .int (0 : Int32), .int (0 : Int32), .int (0 : Int32), .int (0 : Int32)])))
def hp_151 : pH := (110, 1579451, p_up hp_150.2.2 109 (.inl (0, 20000, p_zero 0)))
def hp_152 : pH := (110, 1579451, p_up hp_151.2.2 103 (.inr (2, [.null, .null, .ref 104, .ref 105, .ref 106, .ref 107, .ref 108, .ref 109, .null, .int (0 : Int32), .int (0 : Int32), .int (0 : Int32), .int (0 : Int32), .int (0 : Int32)])))
def hp_153 : pH := (111, 1599451, p_up hp_152.2.2 110 (.inl (0, 20000, p_zero 0)))
def hp_154 : pH := (111, 1599451, p_up hp_153.2.2 103 (.inr (2, [.null, .null, .ref 104, .ref 105, .ref 106, .ref 107, .ref 108, .ref 109, .ref 110, .int (0 : Int32), .int (0 : Int32), .int (0 : Int32), .int (0 : Int32), .int (0 : Int32)])))
def hp_155 : pH := (111, 1599451, p_up hp_154.2.2 103 (.inr (2, [.ref 70, .null, .ref 104, .ref 105, .ref 106, .ref 107, .ref 108, .ref 109, .ref 110, .int (0 : Int32), .int (0 : Int32), .int (0 : Int32), .int (0 : Int32), .int (0 : Int32)])))
def hp_156 : pH := (111, 1599451, p_up hp_155.2.2 103 (.inr (2, [.ref 70, .ref 61, .ref 104, .ref 105, .ref 106, .ref 107, .ref 108, .ref 109, .ref 110, .int (0 : Int32), .int (0 : Int32), .int (0 : Int32), .int (0 : Int32), .int (0 : Int32)])))
set_option maxRecDepth 100000 in
set_option maxHeartbeats 4000000 in
theorem ct_X2_init_1 {en : pN} {d : Nat} : pev msL en (d + 1) 18 [.ref 103, .ref 70, .ref 61] hp_140 = some (none, hp_156) := by
  refine x_enter ix_X2_init (Nat.le_of_ble_eq_true rfl) ?_
  show xW _ en none tb_X2_init (0, [(0, .ref 103), (1, .ref 70), (2, .ref 61)], []) hp_140 _
  refine x_L 1 (f' := (1, [(0, .ref 103), (1, .ref 70), (2, .ref 61)], [.ref 103])) rfl ?_
  refine x_obj rfl rfl (Nat.le_of_ble_eq_true rfl) ?_
  show xW _ en none tb_X2_init (4, [(0, .ref 103), (1, .ref 70), (2, .ref 61)], []) hp_140 _
  refine x_L 2 (f' := (8, [(0, .ref 103), (1, .ref 70), (2, .ref 61)], [.int (20000 : Int32), .ref 103])) rfl ?_
  refine x_H ((10, [(0, .ref 103), (1, .ref 70), (2, .ref 61)], [.ref 104, .ref 103]), hp_141) rfl rfl rfl rfl rfl ?_
  refine x_H ((13, [(0, .ref 103), (1, .ref 70), (2, .ref 61)], []), hp_142) rfl rfl rfl rfl rfl ?_
  refine x_L 2 (f' := (17, [(0, .ref 103), (1, .ref 70), (2, .ref 61)], [.int (20000 : Int32), .ref 103])) rfl ?_
  refine x_H ((19, [(0, .ref 103), (1, .ref 70), (2, .ref 61)], [.ref 105, .ref 103]), hp_143) rfl rfl rfl rfl rfl ?_
  refine x_H ((22, [(0, .ref 103), (1, .ref 70), (2, .ref 61)], []), hp_144) rfl rfl rfl rfl rfl ?_
  refine x_L 2 (f' := (26, [(0, .ref 103), (1, .ref 70), (2, .ref 61)], [.int (20000 : Int32), .ref 103])) rfl ?_
  refine x_H ((28, [(0, .ref 103), (1, .ref 70), (2, .ref 61)], [.ref 106, .ref 103]), hp_145) rfl rfl rfl rfl rfl ?_
  refine x_H ((31, [(0, .ref 103), (1, .ref 70), (2, .ref 61)], []), hp_146) rfl rfl rfl rfl rfl ?_
  refine x_L 2 (f' := (35, [(0, .ref 103), (1, .ref 70), (2, .ref 61)], [.int (20000 : Int32), .ref 103])) rfl ?_
  refine x_H ((37, [(0, .ref 103), (1, .ref 70), (2, .ref 61)], [.ref 107, .ref 103]), hp_147) rfl rfl rfl rfl rfl ?_
  refine x_H ((40, [(0, .ref 103), (1, .ref 70), (2, .ref 61)], []), hp_148) rfl rfl rfl rfl rfl ?_
  refine x_L 2 (f' := (44, [(0, .ref 103), (1, .ref 70), (2, .ref 61)], [.int (20000 : Int32), .ref 103])) rfl ?_
  refine x_H ((46, [(0, .ref 103), (1, .ref 70), (2, .ref 61)], [.ref 108, .ref 103]), hp_149) rfl rfl rfl rfl rfl ?_
  refine x_H ((49, [(0, .ref 103), (1, .ref 70), (2, .ref 61)], []), hp_150) rfl rfl rfl rfl rfl ?_
  refine x_L 2 (f' := (53, [(0, .ref 103), (1, .ref 70), (2, .ref 61)], [.int (20000 : Int32), .ref 103])) rfl ?_
  refine x_H ((55, [(0, .ref 103), (1, .ref 70), (2, .ref 61)], [.ref 109, .ref 103]), hp_151) rfl rfl rfl rfl rfl ?_
  refine x_H ((58, [(0, .ref 103), (1, .ref 70), (2, .ref 61)], []), hp_152) rfl rfl rfl rfl rfl ?_
  refine x_L 2 (f' := (62, [(0, .ref 103), (1, .ref 70), (2, .ref 61)], [.int (20000 : Int32), .ref 103])) rfl ?_
  refine x_H ((64, [(0, .ref 103), (1, .ref 70), (2, .ref 61)], [.ref 110, .ref 103]), hp_153) rfl rfl rfl rfl rfl ?_
  refine x_H ((67, [(0, .ref 103), (1, .ref 70), (2, .ref 61)], []), hp_154) rfl rfl rfl rfl rfl ?_
  refine x_L 2 (f' := (69, [(0, .ref 103), (1, .ref 70), (2, .ref 61)], [.ref 70, .ref 103])) rfl ?_
  refine x_H ((72, [(0, .ref 103), (1, .ref 70), (2, .ref 61)], []), hp_155) rfl rfl rfl rfl rfl ?_
  refine x_L 2 (f' := (74, [(0, .ref 103), (1, .ref 70), (2, .ref 61)], [.ref 61, .ref 103])) rfl ?_
  refine x_H ((77, [(0, .ref 103), (1, .ref 70), (2, .ref 61)], []), hp_156) rfl rfl rfl rfl rfl ?_
  exact x_ret rfl rfl
def hp_157 : pH := (111, 1599451, p_up hp_156.2.2 0 (.inr (11, [.ref 1, .ref 11, .ref 36, .ref 65, .ref 70, .ref 99, .ref 103, .null, .null, .int (0 : Int32), .int (0 : Int32), .int (0 : Int32), .int (0 : Int32), .int (0 : Int32), .int (0 : Int32)])))
def hp_158 : pH := (112, 1599456, p_up hp_157.2.2 111 (.inr (8, p_dfl 8 5)))
def hp_159 : pH := (113, 1599469, p_up hp_158.2.2 112 (.inr (3, p_dfl 3 13)))
def hp_160 : pH := (114, 1599705, p_up hp_159.2.2 113 (.inl (0, 236, p_zero 0)))
def hp_161 : pH := (114, 1599705, p_up hp_160.2.2 112 (.inr (3, [.ref 113, .null, .null, .int (0 : Int32), .null, .int (0 : Int32), .int (0 : Int32), .null, .int (0 : Int32), .int (0 : Int32), .int (0 : Int32), .int (0 : Int32), .int (0 : Int32)])))
def hp_162 : pH := (115, 1599941, p_up hp_161.2.2 114 (.inl (0, 236, p_zero 0)))
def hp_163 : pH := (115, 1599941, p_up hp_162.2.2 112 (.inr (3, [.ref 113, .ref 114, .null, .int (0 : Int32), .null, .int (0 : Int32), .int (0 : Int32), .null, .int (0 : Int32), .int (0 : Int32), .int (0 : Int32), .int (0 : Int32), .int (0 : Int32)])))
def hp_164 : pH := (116, 1599981, p_up hp_163.2.2 115 (.inl (0, 40, p_zero 0)))
def hp_165 : pH := (116, 1599981, p_up hp_164.2.2 112 (.inr (3, [.ref 113, .ref 114, .ref 115, .int (0 : Int32), .null, .int (0 : Int32), .int (0 : Int32), .null, .int (0 : Int32), .int (0 : Int32), .int (0 : Int32), .int (0 : Int32), .int (0 : Int32)])))
def hp_166 : pH := (117, 1600201, p_up hp_165.2.2 116 (.inl (0, 220, p_zero 0)))
def hp_167 : pH := (117, 1600201, p_up hp_166.2.2 112 (.inr (3, [.ref 113, .ref 114, .ref 115, .int (0 : Int32), .ref 116, .int (0 : Int32), .int (0 : Int32), .null, .int (0 : Int32), .int (0 : Int32), .int (0 : Int32), .int (0 : Int32), .int (0 : Int32)])))
set_option maxRecDepth 100000 in
set_option maxHeartbeats 4000000 in
theorem ct_X3_init_2 {en : pN} {d : Nat} : pev msL en (d + 1) 31 [.ref 112] hp_159 = some (none, hp_167) := by
  refine x_enter ix_X3_init (Nat.le_of_ble_eq_true rfl) ?_
  show xW _ en none tb_X3_init (0, [(0, .ref 112)], []) hp_159 _
  refine x_L 1 (f' := (1, [(0, .ref 112)], [.ref 112])) rfl ?_
  refine x_obj rfl rfl (Nat.le_of_ble_eq_true rfl) ?_
  show xW _ en none tb_X3_init (4, [(0, .ref 112)], []) hp_159 _
  refine x_L 2 (f' := (8, [(0, .ref 112)], [.int (236 : Int32), .ref 112])) rfl ?_
  refine x_H ((10, [(0, .ref 112)], [.ref 113, .ref 112]), hp_160) rfl rfl rfl rfl rfl ?_
  refine x_H ((13, [(0, .ref 112)], []), hp_161) rfl rfl rfl rfl rfl ?_
  refine x_L 2 (f' := (17, [(0, .ref 112)], [.int (236 : Int32), .ref 112])) rfl ?_
  refine x_H ((19, [(0, .ref 112)], [.ref 114, .ref 112]), hp_162) rfl rfl rfl rfl rfl ?_
  refine x_H ((22, [(0, .ref 112)], []), hp_163) rfl rfl rfl rfl rfl ?_
  refine x_L 2 (f' := (25, [(0, .ref 112)], [.int (40 : Int32), .ref 112])) rfl ?_
  refine x_H ((27, [(0, .ref 112)], [.ref 115, .ref 112]), hp_164) rfl rfl rfl rfl rfl ?_
  refine x_H ((30, [(0, .ref 112)], []), hp_165) rfl rfl rfl rfl rfl ?_
  refine x_L 2 (f' := (34, [(0, .ref 112)], [.int (220 : Int32), .ref 112])) rfl ?_
  refine x_H ((36, [(0, .ref 112)], [.ref 116, .ref 112]), hp_166) rfl rfl rfl rfl rfl ?_
  refine x_H ((39, [(0, .ref 112)], []), hp_167) rfl rfl rfl rfl rfl ?_
  exact x_ret rfl rfl
def hp_168 : pH := (117, 1600201, p_up hp_167.2.2 111 (.inr (8, [.ref 112, .null, .null, .int (0 : Int32), .int (0 : Int32)])))
def hp_169 : pH := (124, 1601407, (p_mna 6 200 hp_168).2.2)
def hp_170 : pH := (124, 1601407, p_up hp_169.2.2 111 (.inr (8, [.ref 112, .ref 117, .null, .int (0 : Int32), .int (0 : Int32)])))
def hp_171 : pH := (125, 1602207, p_up hp_170.2.2 124 (.inl (1, 800, p_zero 1)))
def hp_172 : pH := (125, 1602207, p_up hp_171.2.2 111 (.inr (8, [.ref 112, .ref 117, .ref 124, .int (0 : Int32), .int (0 : Int32)])))
set_option maxRecDepth 100000 in
set_option maxHeartbeats 4000000 in
theorem ct_X8_init_1 {en : pN} {d : Nat} : pev msL en (d + 2) 153 [.ref 111] hp_158 = some (none, hp_172) := by
  refine x_enter ix_X8_init (Nat.le_of_ble_eq_true rfl) ?_
  show xW _ en none tb_X8_init (0, [(0, .ref 111)], []) hp_158 _
  refine x_L 1 (f' := (1, [(0, .ref 111)], [.ref 111])) rfl ?_
  refine x_obj rfl rfl (Nat.le_of_ble_eq_true rfl) ?_
  show xW _ en none tb_X8_init (4, [(0, .ref 111)], []) hp_158 _
  refine x_L 1 (f' := (5, [(0, .ref 111)], [.ref 111])) rfl ?_
  refine x_H ((8, [(0, .ref 111)], [.ref 112, .ref 111]), hp_159) rfl rfl rfl rfl rfl ?_
  refine x_L 1 (f' := (9, [(0, .ref 111)], [.ref 112, .ref 112, .ref 111])) rfl ?_
  refine x_spec 31 rfl rfl rfl ix_X3_init rfl (Nat.le_of_ble_eq_true rfl) (ct_X3_init_2 (d := d + 0)) ?_
  show xW _ en none tb_X8_init (12, [(0, .ref 111)], [.ref 112, .ref 111]) hp_167 _
  refine x_H ((15, [(0, .ref 111)], []), hp_168) rfl rfl rfl rfl rfl ?_
  refine x_L 3 (f' := (21, [(0, .ref 111)], [.int (200 : Int32), .int (6 : Int32), .ref 111])) rfl ?_
  refine x_H ((25, [(0, .ref 111)], [.ref 117, .ref 111]), hp_169) rfl rfl rfl rfl rfl ?_
  refine x_H ((28, [(0, .ref 111)], []), hp_170) rfl rfl rfl rfl rfl ?_
  refine x_L 2 (f' := (32, [(0, .ref 111)], [.int (800 : Int32), .ref 111])) rfl ?_
  refine x_H ((34, [(0, .ref 111)], [.ref 124, .ref 111]), hp_171) rfl rfl rfl rfl rfl ?_
  refine x_H ((37, [(0, .ref 111)], []), hp_172) rfl rfl rfl rfl rfl ?_
  exact x_ret rfl rfl
def hp_173 : pH := (125, 1602207, p_up hp_172.2.2 0 (.inr (11, [.ref 1, .ref 11, .ref 36, .ref 65, .ref 70, .ref 99, .ref 103, .ref 111, .null, .int (0 : Int32), .int (0 : Int32), .int (0 : Int32), .int (0 : Int32), .int (0 : Int32), .int (0 : Int32)])))
def hp_174 : pH := (126, 1602218, p_up hp_173.2.2 125 (.inr (1, p_dfl 1 11)))
def hp_175 : pH := (133, 1603424, (p_mna 6 200 hp_174).2.2)
def hp_176 : pH := (133, 1603424, p_up hp_175.2.2 125 (.inr (1, [.ref 126, .null, .null, .null, .null, .null, .int (0 : Int32), .int (0 : Int32), .int (0 : Int32), .int (0 : Int32), .int (0 : Int32)])))
def hp_177 : pH := (147, 1603606, (p_mna 13 13 hp_176).2.2)
def hp_178 : pH := (147, 1603606, p_up hp_177.2.2 125 (.inr (1, [.ref 126, .ref 133, .null, .null, .null, .null, .int (0 : Int32), .int (0 : Int32), .int (0 : Int32), .int (0 : Int32), .int (0 : Int32)])))
def hp_179 : pH := (148, 1603619, p_up hp_178.2.2 147 (.inl (0, 13, p_zero 0)))
def hp_180 : pH := (148, 1603619, p_up hp_179.2.2 125 (.inr (1, [.ref 126, .ref 133, .ref 147, .null, .null, .null, .int (0 : Int32), .int (0 : Int32), .int (0 : Int32), .int (0 : Int32), .int (0 : Int32)])))
def hp_181 : pH := (149, 1603623, p_up hp_180.2.2 148 (.inl (0, 4, p_zero 0)))
def hp_182 : pH := (149, 1603623, p_up hp_181.2.2 125 (.inr (1, [.ref 126, .ref 133, .ref 147, .ref 148, .null, .null, .int (0 : Int32), .int (0 : Int32), .int (0 : Int32), .int (0 : Int32), .int (0 : Int32)])))
def hp_183 : pH := (150, 1603635, p_up hp_182.2.2 149 (.inl (0, 12, p_zero 0)))
def hp_184 : pH := (150, 1603635, p_up hp_183.2.2 125 (.inr (1, [.ref 126, .ref 133, .ref 147, .ref 148, .ref 149, .null, .int (0 : Int32), .int (0 : Int32), .int (0 : Int32), .int (0 : Int32), .int (0 : Int32)])))
def hp_185 : pH := (151, 1603647, p_up hp_184.2.2 150 (.inl (0, 12, p_zero 0)))
def hp_186 : pH := (151, 1603647, p_up hp_185.2.2 125 (.inr (1, [.ref 126, .ref 133, .ref 147, .ref 148, .ref 149, .ref 150, .int (0 : Int32), .int (0 : Int32), .int (0 : Int32), .int (0 : Int32), .int (0 : Int32)])))
set_option maxRecDepth 100000 in
set_option maxHeartbeats 4000000 in
theorem ct_X1_init_1 {en : pN} {d : Nat} : pev msL en (d + 1) 10 [.ref 125] hp_174 = some (none, hp_186) := by
  refine x_enter ix_X1_init (Nat.le_of_ble_eq_true rfl) ?_
  show xW _ en none tb_X1_init (0, [(0, .ref 125)], []) hp_174 _
  refine x_L 1 (f' := (1, [(0, .ref 125)], [.ref 125])) rfl ?_
  refine x_obj rfl rfl (Nat.le_of_ble_eq_true rfl) ?_
  show xW _ en none tb_X1_init (4, [(0, .ref 125)], []) hp_174 _
  refine x_L 3 (f' := (10, [(0, .ref 125)], [.int (200 : Int32), .int (6 : Int32), .ref 125])) rfl ?_
  refine x_H ((14, [(0, .ref 125)], [.ref 126, .ref 125]), hp_175) rfl rfl rfl rfl rfl ?_
  refine x_H ((17, [(0, .ref 125)], []), hp_176) rfl rfl rfl rfl rfl ?_
  refine x_L 3 (f' := (22, [(0, .ref 125)], [.int (13 : Int32), .int (13 : Int32), .ref 125])) rfl ?_
  refine x_H ((26, [(0, .ref 125)], [.ref 133, .ref 125]), hp_177) rfl rfl rfl rfl rfl ?_
  refine x_H ((29, [(0, .ref 125)], []), hp_178) rfl rfl rfl rfl rfl ?_
  refine x_L 2 (f' := (32, [(0, .ref 125)], [.int (13 : Int32), .ref 125])) rfl ?_
  refine x_H ((34, [(0, .ref 125)], [.ref 147, .ref 125]), hp_179) rfl rfl rfl rfl rfl ?_
  refine x_H ((37, [(0, .ref 125)], []), hp_180) rfl rfl rfl rfl rfl ?_
  refine x_L 2 (f' := (39, [(0, .ref 125)], [.int (4 : Int32), .ref 125])) rfl ?_
  refine x_H ((41, [(0, .ref 125)], [.ref 148, .ref 125]), hp_181) rfl rfl rfl rfl rfl ?_
  refine x_H ((44, [(0, .ref 125)], []), hp_182) rfl rfl rfl rfl rfl ?_
  refine x_L 2 (f' := (47, [(0, .ref 125)], [.int (12 : Int32), .ref 125])) rfl ?_
  refine x_H ((49, [(0, .ref 125)], [.ref 149, .ref 125]), hp_183) rfl rfl rfl rfl rfl ?_
  refine x_H ((52, [(0, .ref 125)], []), hp_184) rfl rfl rfl rfl rfl ?_
  refine x_L 2 (f' := (55, [(0, .ref 125)], [.int (12 : Int32), .ref 125])) rfl ?_
  refine x_H ((57, [(0, .ref 125)], [.ref 150, .ref 125]), hp_185) rfl rfl rfl rfl rfl ?_
  refine x_H ((60, [(0, .ref 125)], []), hp_186) rfl rfl rfl rfl rfl ?_
  exact x_ret rfl rfl
def hp_187 : pH := (151, 1603647, p_up hp_186.2.2 0 (.inr (11, [.ref 1, .ref 11, .ref 36, .ref 65, .ref 70, .ref 99, .ref 103, .ref 111, .ref 125, .int (0 : Int32), .int (0 : Int32), .int (0 : Int32), .int (0 : Int32), .int (0 : Int32), .int (0 : Int32)])))
def hp_188 : pH := (151, 1603647, p_up hp_187.2.2 0 (.inr (11, [.ref 1, .ref 11, .ref 36, .ref 65, .ref 70, .ref 99, .ref 103, .ref 111, .ref 125, .int (0 : Int32), .int (0 : Int32), .int (0 : Int32), .int (0 : Int32), .int (-2 : Int32), .int (0 : Int32)])))
def hp_189 : pH := (151, 1603647, p_up hp_188.2.2 0 (.inr (11, [.ref 1, .ref 11, .ref 36, .ref 65, .ref 70, .ref 99, .ref 103, .ref 111, .ref 125, .int (0 : Int32), .int (0 : Int32), .int (0 : Int32), .int (0 : Int32), .int (-2 : Int32), .int (-2 : Int32)])))
set_option maxRecDepth 100000 in
set_option maxHeartbeats 4000000 in
theorem ct_X11_init_1 {en : pN} {d : Nat} : pev msL en (d + 7) 201 [.ref 0] hp_1 = some (none, hp_189) := by
  refine x_enter ix_X11_init (Nat.le_of_ble_eq_true rfl) ?_
  show xW _ en none tb_X11_init (0, [(0, .ref 0)], []) hp_1 _
  refine x_L 1 (f' := (1, [(0, .ref 0)], [.ref 0])) rfl ?_
  refine x_obj rfl rfl (Nat.le_of_ble_eq_true rfl) ?_
  show xW _ en none tb_X11_init (4, [(0, .ref 0)], []) hp_1 _
  refine x_L 1 (f' := (5, [(0, .ref 0)], [.ref 0])) rfl ?_
  refine x_H ((8, [(0, .ref 0)], [.ref 1, .ref 0]), hp_2) rfl rfl rfl rfl rfl ?_
  refine x_L 1 (f' := (9, [(0, .ref 0)], [.ref 1, .ref 1, .ref 0])) rfl ?_
  refine x_spec 163 rfl rfl rfl ix_X9_init rfl (Nat.le_of_ble_eq_true rfl) (ct_X9_init_1 (d := d + 0)) ?_
  show xW _ en none tb_X11_init (12, [(0, .ref 0)], [.ref 1, .ref 0]) hp_12 _
  refine x_H ((15, [(0, .ref 0)], []), hp_13) rfl rfl rfl rfl rfl ?_
  refine x_H ((18, [(0, .ref 0)], [.ref 7]), hp_14) rfl rfl rfl rfl rfl ?_
  refine x_L 2 (f' := (22, [(0, .ref 0)], [.int (500 : Int32), .ref 7, .ref 7])) rfl ?_
  refine x_spec 75 rfl rfl rfl ix_X4_init rfl (Nat.le_of_ble_eq_true rfl) (ct_X4_init_1 (d := d + 5)) ?_
  show xW _ en none tb_X11_init (25, [(0, .ref 0)], [.ref 7]) hp_20 _
  refine x_L 2 (f' := (27, [(1, .ref 7), (0, .ref 0)], [.ref 0])) rfl ?_
  refine x_H ((30, [(1, .ref 7), (0, .ref 0)], [.ref 11, .ref 0]), hp_21) rfl rfl rfl rfl rfl ?_
  refine x_L 2 (f' := (32, [(1, .ref 7), (0, .ref 0)], [.ref 7, .ref 11, .ref 11, .ref 0])) rfl ?_
  refine x_spec 80 rfl rfl rfl ix_X5_init rfl (Nat.le_of_ble_eq_true rfl) (ct_X5_init_1 (d := d + 5)) ?_
  show xW _ en none tb_X11_init (35, [(1, .ref 7), (0, .ref 0)], [.ref 11, .ref 0]) hp_34 _
  refine x_H ((38, [(1, .ref 7), (0, .ref 0)], []), hp_35) rfl rfl rfl rfl rfl ?_
  refine x_L 1 (f' := (39, [(1, .ref 7), (0, .ref 0)], [.ref 0])) rfl ?_
  refine x_H ((42, [(1, .ref 7), (0, .ref 0)], [.ref 36, .ref 0]), hp_36) rfl rfl rfl rfl rfl ?_
  refine x_L 2 (f' := (44, [(1, .ref 7), (0, .ref 0)], [.ref 7, .ref 36, .ref 36, .ref 0])) rfl ?_
  refine x_spec 80 rfl rfl rfl ix_X5_init rfl (Nat.le_of_ble_eq_true rfl) (ct_X5_init_2 (d := d + 5)) ?_
  show xW _ en none tb_X11_init (47, [(1, .ref 7), (0, .ref 0)], [.ref 36, .ref 0]) hp_49 _
  refine x_H ((50, [(1, .ref 7), (0, .ref 0)], []), hp_50) rfl rfl rfl rfl rfl ?_
  refine x_H ((53, [(1, .ref 7), (0, .ref 0)], [.ref 61]), hp_51) rfl rfl rfl rfl rfl ?_
  refine x_L 2 (f' := (57, [(1, .ref 7), (0, .ref 0)], [.int (400 : Int32), .ref 61, .ref 61])) rfl ?_
  refine x_spec 75 rfl rfl rfl ix_X4_init rfl (Nat.le_of_ble_eq_true rfl) (ct_X4_init_2 (d := d + 5)) ?_
  show xW _ en none tb_X11_init (60, [(1, .ref 7), (0, .ref 0)], [.ref 61]) hp_57 _
  refine x_L 2 (f' := (62, [(2, .ref 61), (1, .ref 7), (0, .ref 0)], [.ref 0])) rfl ?_
  refine x_H ((65, [(2, .ref 61), (1, .ref 7), (0, .ref 0)], [.ref 65, .ref 0]), hp_58) rfl rfl rfl rfl rfl ?_
  refine x_L 2 (f' := (67, [(2, .ref 61), (1, .ref 7), (0, .ref 0)], [.ref 0, .ref 65, .ref 65, .ref 0])) rfl ?_
  refine x_H ((70, [(2, .ref 61), (1, .ref 7), (0, .ref 0)], [.ref 1, .ref 65, .ref 65, .ref 0]), hp_58) rfl rfl rfl rfl rfl ?_
  refine x_L 1 (f' := (71, [(2, .ref 61), (1, .ref 7), (0, .ref 0)], [.ref 0, .ref 1, .ref 65, .ref 65, .ref 0])) rfl ?_
  refine x_H ((74, [(2, .ref 61), (1, .ref 7), (0, .ref 0)], [.ref 11, .ref 1, .ref 65, .ref 65, .ref 0]), hp_58) rfl rfl rfl rfl rfl ?_
  refine x_L 1 (f' := (75, [(2, .ref 61), (1, .ref 7), (0, .ref 0)], [.ref 61, .ref 11, .ref 1, .ref 65, .ref 65, .ref 0])) rfl ?_
  refine x_spec 112 rfl rfl rfl ix_X6_init rfl (Nat.le_of_ble_eq_true rfl) (ct_X6_init_1 (d := d + 0)) ?_
  show xW _ en none tb_X11_init (78, [(2, .ref 61), (1, .ref 7), (0, .ref 0)], [.ref 65, .ref 0]) hp_71 _
  refine x_H ((81, [(2, .ref 61), (1, .ref 7), (0, .ref 0)], []), hp_72) rfl rfl rfl rfl rfl ?_
  refine x_L 1 (f' := (82, [(2, .ref 61), (1, .ref 7), (0, .ref 0)], [.ref 0])) rfl ?_
  refine x_H ((85, [(2, .ref 61), (1, .ref 7), (0, .ref 0)], [.ref 70, .ref 0]), hp_73) rfl rfl rfl rfl rfl ?_
  refine x_L 1 (f' := (86, [(2, .ref 61), (1, .ref 7), (0, .ref 0)], [.ref 70, .ref 70, .ref 0])) rfl ?_
  refine x_spec 176 rfl rfl rfl ix_X10_init rfl (Nat.le_of_ble_eq_true rfl) (ct_X10_init_1 (d := d + 4)) ?_
  show xW _ en none tb_X11_init (89, [(2, .ref 61), (1, .ref 7), (0, .ref 0)], [.ref 70, .ref 0]) hp_130 _
  refine x_H ((92, [(2, .ref 61), (1, .ref 7), (0, .ref 0)], []), hp_131) rfl rfl rfl rfl rfl ?_
  refine x_L 1 (f' := (93, [(2, .ref 61), (1, .ref 7), (0, .ref 0)], [.ref 0])) rfl ?_
  refine x_H ((96, [(2, .ref 61), (1, .ref 7), (0, .ref 0)], [.ref 99, .ref 0]), hp_132) rfl rfl rfl rfl rfl ?_
  refine x_L 1 (f' := (97, [(2, .ref 61), (1, .ref 7), (0, .ref 0)], [.ref 99, .ref 99, .ref 0])) rfl ?_
  refine x_H ((99, [(2, .ref 61), (1, .ref 7), (0, .ref 0)], [.int (68000 : Int32), .ref 99, .ref 99, .ref 0]), hp_132) rfl rfl rfl rfl rfl ?_
  refine x_H ((101, [(2, .ref 61), (1, .ref 7), (0, .ref 0)], [.ref 100, .ref 99, .ref 99, .ref 0]), hp_133) rfl rfl rfl rfl rfl ?_
  refine x_L 2 (f' := (107, [(2, .ref 61), (1, .ref 7), (0, .ref 0)], [.int (8192 : Int32), .int (4000 : Int32), .ref 100, .ref 99, .ref 99, .ref 0])) rfl ?_
  refine x_spec 145 rfl rfl rfl ix_X7_init rfl (Nat.le_of_ble_eq_true rfl) (ct_X7_init_3 (d := d + 5)) ?_
  show xW _ en none tb_X11_init (110, [(2, .ref 61), (1, .ref 7), (0, .ref 0)], [.ref 99, .ref 0]) hp_138 _
  refine x_H ((113, [(2, .ref 61), (1, .ref 7), (0, .ref 0)], []), hp_139) rfl rfl rfl rfl rfl ?_
  refine x_L 1 (f' := (114, [(2, .ref 61), (1, .ref 7), (0, .ref 0)], [.ref 0])) rfl ?_
  refine x_H ((117, [(2, .ref 61), (1, .ref 7), (0, .ref 0)], [.ref 103, .ref 0]), hp_140) rfl rfl rfl rfl rfl ?_
  refine x_L 2 (f' := (119, [(2, .ref 61), (1, .ref 7), (0, .ref 0)], [.ref 0, .ref 103, .ref 103, .ref 0])) rfl ?_
  refine x_H ((122, [(2, .ref 61), (1, .ref 7), (0, .ref 0)], [.ref 70, .ref 103, .ref 103, .ref 0]), hp_140) rfl rfl rfl rfl rfl ?_
  refine x_L 1 (f' := (123, [(2, .ref 61), (1, .ref 7), (0, .ref 0)], [.ref 61, .ref 70, .ref 103, .ref 103, .ref 0])) rfl ?_
  refine x_spec 18 rfl rfl rfl ix_X2_init rfl (Nat.le_of_ble_eq_true rfl) (ct_X2_init_1 (d := d + 5)) ?_
  show xW _ en none tb_X11_init (126, [(2, .ref 61), (1, .ref 7), (0, .ref 0)], [.ref 103, .ref 0]) hp_156 _
  refine x_H ((129, [(2, .ref 61), (1, .ref 7), (0, .ref 0)], []), hp_157) rfl rfl rfl rfl rfl ?_
  refine x_L 1 (f' := (130, [(2, .ref 61), (1, .ref 7), (0, .ref 0)], [.ref 0])) rfl ?_
  refine x_H ((133, [(2, .ref 61), (1, .ref 7), (0, .ref 0)], [.ref 111, .ref 0]), hp_158) rfl rfl rfl rfl rfl ?_
  refine x_L 1 (f' := (134, [(2, .ref 61), (1, .ref 7), (0, .ref 0)], [.ref 111, .ref 111, .ref 0])) rfl ?_
  refine x_spec 153 rfl rfl rfl ix_X8_init rfl (Nat.le_of_ble_eq_true rfl) (ct_X8_init_1 (d := d + 4)) ?_
  show xW _ en none tb_X11_init (137, [(2, .ref 61), (1, .ref 7), (0, .ref 0)], [.ref 111, .ref 0]) hp_172 _
  refine x_H ((140, [(2, .ref 61), (1, .ref 7), (0, .ref 0)], []), hp_173) rfl rfl rfl rfl rfl ?_
  refine x_L 1 (f' := (141, [(2, .ref 61), (1, .ref 7), (0, .ref 0)], [.ref 0])) rfl ?_
  refine x_H ((144, [(2, .ref 61), (1, .ref 7), (0, .ref 0)], [.ref 125, .ref 0]), hp_174) rfl rfl rfl rfl rfl ?_
  refine x_L 1 (f' := (145, [(2, .ref 61), (1, .ref 7), (0, .ref 0)], [.ref 125, .ref 125, .ref 0])) rfl ?_
  refine x_spec 10 rfl rfl rfl ix_X1_init rfl (Nat.le_of_ble_eq_true rfl) (ct_X1_init_1 (d := d + 5)) ?_
  show xW _ en none tb_X11_init (148, [(2, .ref 61), (1, .ref 7), (0, .ref 0)], [.ref 125, .ref 0]) hp_186 _
  refine x_H ((151, [(2, .ref 61), (1, .ref 7), (0, .ref 0)], []), hp_187) rfl rfl rfl rfl rfl ?_
  refine x_L 2 (f' := (154, [(2, .ref 61), (1, .ref 7), (0, .ref 0)], [.int (-2 : Int32), .ref 0])) rfl ?_
  refine x_H ((157, [(2, .ref 61), (1, .ref 7), (0, .ref 0)], []), hp_188) rfl rfl rfl rfl rfl ?_
  refine x_L 2 (f' := (160, [(2, .ref 61), (1, .ref 7), (0, .ref 0)], [.int (-2 : Int32), .ref 0])) rfl ?_
  refine x_H ((163, [(2, .ref 61), (1, .ref 7), (0, .ref 0)], []), hp_189) rfl rfl rfl rfl rfl ?_
  exact x_ret rfl rfl
def hp_190 : pH := (152, 1603802, p_up hp_189.2.2 151 (.inr (12, p_dfl 12 155)))
def hp_191 : pH := (153, 1607802, p_up hp_190.2.2 152 (.inl (0, 4000, p_zero 0)))
def hp_192 : pH := (153, 1607802, p_up hp_191.2.2 151 (.inr (12, [.ref 152, .int (0 : Int32), .int (0 : Int32), .int (0 : Int32), .int (0 : Int32), .long (0 : Int64), .int (0 : Int32), .int (0 : Int32), .int (0 : Int32), .int (0 : Int32), .int (0 : Int32), .int (0 : Int32), .int (0 : Int32), .null, .null, .null, .int (0 : Int32), .null, .int (0 : Int32), .null, .null, .null, .null, .null, .null, .int (0 : Int32), .int (0 : Int32), .int (0 : Int32), .int (0 : Int32), .int (0 : Int32), .null, .int (0 : Int32), .int (0 : Int32), .null, .null, .null, .null, .null, .null, .null, .null, .null, .null, .null, .null, .null, .null, .null, .null, .null, .null, .null, .null, .null, .null, .null, .int (0 : Int32), .null, .int (0 : Int32), .int (0 : Int32), .int (0 : Int32), .null, .int (0 : Int32), .null, .int (0 : Int32), .null, .int (0 : Int32), .int (0 : Int32), .int (0 : Int32), .int (0 : Int32), .int (0 : Int32), .int (0 : Int32), .long (0 : Int64), .int (0 : Int32), .int (0 : Int32), .null, .int (0 : Int32), .null, .int (0 : Int32), .null, .null, .null, .null, .null, .null, .null, .null, .int (0 : Int32), .null, .null, .null, .null, .null, .null, .null, .null, .int (0 : Int32), .null, .int (0 : Int32), .int (0 : Int32), .int (0 : Int32), .int (0 : Int32), .int (0 : Int32), .int (0 : Int32), .null, .null, .null, .null, .null, .null, .null, .null, .null, .null, .null, .int (0 : Int32), .null, .null, .null, .null, .int (0 : Int32), .int (0 : Int32), .null, .null, .null, .null, .null, .null, .int (0 : Int32), .null, .null, .int (0 : Int32), .null, .null, .null, .null, .null, .null, .null, .null, .null, .null, .null, .int (0 : Int32), .null, .null, .null, .int (0 : Int32), .int (0 : Int32), .int (0 : Int32), .int (0 : Int32), .null, .null, .null, .int (0 : Int32)])))
def hp_193 : pH := (153, 1607802, p_up hp_192.2.2 151 (.inr (12, [.ref 152, .int (0 : Int32), .int (0 : Int32), .int (0 : Int32), .int (0 : Int32), .long (0 : Int64), .int (0 : Int32), .int (0 : Int32), .int (0 : Int32), .int (0 : Int32), .int (-2 : Int32), .int (0 : Int32), .int (0 : Int32), .null, .null, .null, .int (0 : Int32), .null, .int (0 : Int32), .null, .null, .null, .null, .null, .null, .int (0 : Int32), .int (0 : Int32), .int (0 : Int32), .int (0 : Int32), .int (0 : Int32), .null, .int (0 : Int32), .int (0 : Int32), .null, .null, .null, .null, .null, .null, .null, .null, .null, .null, .null, .null, .null, .null, .null, .null, .null, .null, .null, .null, .null, .null, .null, .int (0 : Int32), .null, .int (0 : Int32), .int (0 : Int32), .int (0 : Int32), .null, .int (0 : Int32), .null, .int (0 : Int32), .null, .int (0 : Int32), .int (0 : Int32), .int (0 : Int32), .int (0 : Int32), .int (0 : Int32), .int (0 : Int32), .long (0 : Int64), .int (0 : Int32), .int (0 : Int32), .null, .int (0 : Int32), .null, .int (0 : Int32), .null, .null, .null, .null, .null, .null, .null, .null, .int (0 : Int32), .null, .null, .null, .null, .null, .null, .null, .null, .int (0 : Int32), .null, .int (0 : Int32), .int (0 : Int32), .int (0 : Int32), .int (0 : Int32), .int (0 : Int32), .int (0 : Int32), .null, .null, .null, .null, .null, .null, .null, .null, .null, .null, .null, .int (0 : Int32), .null, .null, .null, .null, .int (0 : Int32), .int (0 : Int32), .null, .null, .null, .null, .null, .null, .int (0 : Int32), .null, .null, .int (0 : Int32), .null, .null, .null, .null, .null, .null, .null, .null, .null, .null, .null, .int (0 : Int32), .null, .null, .null, .int (0 : Int32), .int (0 : Int32), .int (0 : Int32), .int (0 : Int32), .null, .null, .null, .int (0 : Int32)])))
def hp_194 : pH := (154, 1607810, p_up hp_193.2.2 153 (.inl (1, 8, p_zero 1)))
def hp_195 : pH := (154, 1607810, p_up hp_194.2.2 151 (.inr (12, [.ref 152, .int (0 : Int32), .int (0 : Int32), .int (0 : Int32), .int (0 : Int32), .long (0 : Int64), .int (0 : Int32), .int (0 : Int32), .int (0 : Int32), .int (0 : Int32), .int (-2 : Int32), .int (0 : Int32), .int (0 : Int32), .ref 153, .null, .null, .int (0 : Int32), .null, .int (0 : Int32), .null, .null, .null, .null, .null, .null, .int (0 : Int32), .int (0 : Int32), .int (0 : Int32), .int (0 : Int32), .int (0 : Int32), .null, .int (0 : Int32), .int (0 : Int32), .null, .null, .null, .null, .null, .null, .null, .null, .null, .null, .null, .null, .null, .null, .null, .null, .null, .null, .null, .null, .null, .null, .null, .int (0 : Int32), .null, .int (0 : Int32), .int (0 : Int32), .int (0 : Int32), .null, .int (0 : Int32), .null, .int (0 : Int32), .null, .int (0 : Int32), .int (0 : Int32), .int (0 : Int32), .int (0 : Int32), .int (0 : Int32), .int (0 : Int32), .long (0 : Int64), .int (0 : Int32), .int (0 : Int32), .null, .int (0 : Int32), .null, .int (0 : Int32), .null, .null, .null, .null, .null, .null, .null, .null, .int (0 : Int32), .null, .null, .null, .null, .null, .null, .null, .null, .int (0 : Int32), .null, .int (0 : Int32), .int (0 : Int32), .int (0 : Int32), .int (0 : Int32), .int (0 : Int32), .int (0 : Int32), .null, .null, .null, .null, .null, .null, .null, .null, .null, .null, .null, .int (0 : Int32), .null, .null, .null, .null, .int (0 : Int32), .int (0 : Int32), .null, .null, .null, .null, .null, .null, .int (0 : Int32), .null, .null, .int (0 : Int32), .null, .null, .null, .null, .null, .null, .null, .null, .null, .null, .null, .int (0 : Int32), .null, .null, .null, .int (0 : Int32), .int (0 : Int32), .int (0 : Int32), .int (0 : Int32), .null, .null, .null, .int (0 : Int32)])))
def hp_196 : pH := (155, 1607818, p_up hp_195.2.2 154 (.inl (0, 8, p_zero 0)))
def hp_197 : pH := (155, 1607818, p_up hp_196.2.2 151 (.inr (12, [.ref 152, .int (0 : Int32), .int (0 : Int32), .int (0 : Int32), .int (0 : Int32), .long (0 : Int64), .int (0 : Int32), .int (0 : Int32), .int (0 : Int32), .int (0 : Int32), .int (-2 : Int32), .int (0 : Int32), .int (0 : Int32), .ref 153, .ref 154, .null, .int (0 : Int32), .null, .int (0 : Int32), .null, .null, .null, .null, .null, .null, .int (0 : Int32), .int (0 : Int32), .int (0 : Int32), .int (0 : Int32), .int (0 : Int32), .null, .int (0 : Int32), .int (0 : Int32), .null, .null, .null, .null, .null, .null, .null, .null, .null, .null, .null, .null, .null, .null, .null, .null, .null, .null, .null, .null, .null, .null, .null, .int (0 : Int32), .null, .int (0 : Int32), .int (0 : Int32), .int (0 : Int32), .null, .int (0 : Int32), .null, .int (0 : Int32), .null, .int (0 : Int32), .int (0 : Int32), .int (0 : Int32), .int (0 : Int32), .int (0 : Int32), .int (0 : Int32), .long (0 : Int64), .int (0 : Int32), .int (0 : Int32), .null, .int (0 : Int32), .null, .int (0 : Int32), .null, .null, .null, .null, .null, .null, .null, .null, .int (0 : Int32), .null, .null, .null, .null, .null, .null, .null, .null, .int (0 : Int32), .null, .int (0 : Int32), .int (0 : Int32), .int (0 : Int32), .int (0 : Int32), .int (0 : Int32), .int (0 : Int32), .null, .null, .null, .null, .null, .null, .null, .null, .null, .null, .null, .int (0 : Int32), .null, .null, .null, .null, .int (0 : Int32), .int (0 : Int32), .null, .null, .null, .null, .null, .null, .int (0 : Int32), .null, .null, .int (0 : Int32), .null, .null, .null, .null, .null, .null, .null, .null, .null, .null, .null, .int (0 : Int32), .null, .null, .null, .int (0 : Int32), .int (0 : Int32), .int (0 : Int32), .int (0 : Int32), .null, .null, .null, .int (0 : Int32)])))
def hp_198 : pH := (156, 1607826, p_up hp_197.2.2 155 (.inl (2, 8, p_zero 2)))
def hp_199 : pH := (156, 1607826, p_up hp_198.2.2 151 (.inr (12, [.ref 152, .int (0 : Int32), .int (0 : Int32), .int (0 : Int32), .int (0 : Int32), .long (0 : Int64), .int (0 : Int32), .int (0 : Int32), .int (0 : Int32), .int (0 : Int32), .int (-2 : Int32), .int (0 : Int32), .int (0 : Int32), .ref 153, .ref 154, .ref 155, .int (0 : Int32), .null, .int (0 : Int32), .null, .null, .null, .null, .null, .null, .int (0 : Int32), .int (0 : Int32), .int (0 : Int32), .int (0 : Int32), .int (0 : Int32), .null, .int (0 : Int32), .int (0 : Int32), .null, .null, .null, .null, .null, .null, .null, .null, .null, .null, .null, .null, .null, .null, .null, .null, .null, .null, .null, .null, .null, .null, .null, .int (0 : Int32), .null, .int (0 : Int32), .int (0 : Int32), .int (0 : Int32), .null, .int (0 : Int32), .null, .int (0 : Int32), .null, .int (0 : Int32), .int (0 : Int32), .int (0 : Int32), .int (0 : Int32), .int (0 : Int32), .int (0 : Int32), .long (0 : Int64), .int (0 : Int32), .int (0 : Int32), .null, .int (0 : Int32), .null, .int (0 : Int32), .null, .null, .null, .null, .null, .null, .null, .null, .int (0 : Int32), .null, .null, .null, .null, .null, .null, .null, .null, .int (0 : Int32), .null, .int (0 : Int32), .int (0 : Int32), .int (0 : Int32), .int (0 : Int32), .int (0 : Int32), .int (0 : Int32), .null, .null, .null, .null, .null, .null, .null, .null, .null, .null, .null, .int (0 : Int32), .null, .null, .null, .null, .int (0 : Int32), .int (0 : Int32), .null, .null, .null, .null, .null, .null, .int (0 : Int32), .null, .null, .int (0 : Int32), .null, .null, .null, .null, .null, .null, .null, .null, .null, .null, .null, .int (0 : Int32), .null, .null, .null, .int (0 : Int32), .int (0 : Int32), .int (0 : Int32), .int (0 : Int32), .null, .null, .null, .int (0 : Int32)])))
def hp_200 : pH := (157, 1607830, p_up hp_199.2.2 156 (.inl (1, 4, p_zero 1)))
def hp_201 : pH := (157, 1607830, p_up hp_200.2.2 151 (.inr (12, [.ref 152, .int (0 : Int32), .int (0 : Int32), .int (0 : Int32), .int (0 : Int32), .long (0 : Int64), .int (0 : Int32), .int (0 : Int32), .int (0 : Int32), .int (0 : Int32), .int (-2 : Int32), .int (0 : Int32), .int (0 : Int32), .ref 153, .ref 154, .ref 155, .int (0 : Int32), .ref 156, .int (0 : Int32), .null, .null, .null, .null, .null, .null, .int (0 : Int32), .int (0 : Int32), .int (0 : Int32), .int (0 : Int32), .int (0 : Int32), .null, .int (0 : Int32), .int (0 : Int32), .null, .null, .null, .null, .null, .null, .null, .null, .null, .null, .null, .null, .null, .null, .null, .null, .null, .null, .null, .null, .null, .null, .null, .int (0 : Int32), .null, .int (0 : Int32), .int (0 : Int32), .int (0 : Int32), .null, .int (0 : Int32), .null, .int (0 : Int32), .null, .int (0 : Int32), .int (0 : Int32), .int (0 : Int32), .int (0 : Int32), .int (0 : Int32), .int (0 : Int32), .long (0 : Int64), .int (0 : Int32), .int (0 : Int32), .null, .int (0 : Int32), .null, .int (0 : Int32), .null, .null, .null, .null, .null, .null, .null, .null, .int (0 : Int32), .null, .null, .null, .null, .null, .null, .null, .null, .int (0 : Int32), .null, .int (0 : Int32), .int (0 : Int32), .int (0 : Int32), .int (0 : Int32), .int (0 : Int32), .int (0 : Int32), .null, .null, .null, .null, .null, .null, .null, .null, .null, .null, .null, .int (0 : Int32), .null, .null, .null, .null, .int (0 : Int32), .int (0 : Int32), .null, .null, .null, .null, .null, .null, .int (0 : Int32), .null, .null, .int (0 : Int32), .null, .null, .null, .null, .null, .null, .null, .null, .null, .null, .null, .int (0 : Int32), .null, .null, .null, .int (0 : Int32), .int (0 : Int32), .int (0 : Int32), .int (0 : Int32), .null, .null, .null, .int (0 : Int32)])))
def hp_202 : pH := (158, 1607834, p_up hp_201.2.2 157 (.inl (1, 4, p_zero 1)))
def hp_203 : pH := (158, 1607834, p_up hp_202.2.2 151 (.inr (12, [.ref 152, .int (0 : Int32), .int (0 : Int32), .int (0 : Int32), .int (0 : Int32), .long (0 : Int64), .int (0 : Int32), .int (0 : Int32), .int (0 : Int32), .int (0 : Int32), .int (-2 : Int32), .int (0 : Int32), .int (0 : Int32), .ref 153, .ref 154, .ref 155, .int (0 : Int32), .ref 156, .int (0 : Int32), .ref 157, .null, .null, .null, .null, .null, .int (0 : Int32), .int (0 : Int32), .int (0 : Int32), .int (0 : Int32), .int (0 : Int32), .null, .int (0 : Int32), .int (0 : Int32), .null, .null, .null, .null, .null, .null, .null, .null, .null, .null, .null, .null, .null, .null, .null, .null, .null, .null, .null, .null, .null, .null, .null, .int (0 : Int32), .null, .int (0 : Int32), .int (0 : Int32), .int (0 : Int32), .null, .int (0 : Int32), .null, .int (0 : Int32), .null, .int (0 : Int32), .int (0 : Int32), .int (0 : Int32), .int (0 : Int32), .int (0 : Int32), .int (0 : Int32), .long (0 : Int64), .int (0 : Int32), .int (0 : Int32), .null, .int (0 : Int32), .null, .int (0 : Int32), .null, .null, .null, .null, .null, .null, .null, .null, .int (0 : Int32), .null, .null, .null, .null, .null, .null, .null, .null, .int (0 : Int32), .null, .int (0 : Int32), .int (0 : Int32), .int (0 : Int32), .int (0 : Int32), .int (0 : Int32), .int (0 : Int32), .null, .null, .null, .null, .null, .null, .null, .null, .null, .null, .null, .int (0 : Int32), .null, .null, .null, .null, .int (0 : Int32), .int (0 : Int32), .null, .null, .null, .null, .null, .null, .int (0 : Int32), .null, .null, .int (0 : Int32), .null, .null, .null, .null, .null, .null, .null, .null, .null, .null, .null, .int (0 : Int32), .null, .null, .null, .int (0 : Int32), .int (0 : Int32), .int (0 : Int32), .int (0 : Int32), .null, .null, .null, .int (0 : Int32)])))
def hp_204 : pH := (159, 1607838, p_up hp_203.2.2 158 (.inl (2, 4, p_zero 2)))
def hp_205 : pH := (159, 1607838, p_up hp_204.2.2 151 (.inr (12, [.ref 152, .int (0 : Int32), .int (0 : Int32), .int (0 : Int32), .int (0 : Int32), .long (0 : Int64), .int (0 : Int32), .int (0 : Int32), .int (0 : Int32), .int (0 : Int32), .int (-2 : Int32), .int (0 : Int32), .int (0 : Int32), .ref 153, .ref 154, .ref 155, .int (0 : Int32), .ref 156, .int (0 : Int32), .ref 157, .ref 158, .null, .null, .null, .null, .int (0 : Int32), .int (0 : Int32), .int (0 : Int32), .int (0 : Int32), .int (0 : Int32), .null, .int (0 : Int32), .int (0 : Int32), .null, .null, .null, .null, .null, .null, .null, .null, .null, .null, .null, .null, .null, .null, .null, .null, .null, .null, .null, .null, .null, .null, .null, .int (0 : Int32), .null, .int (0 : Int32), .int (0 : Int32), .int (0 : Int32), .null, .int (0 : Int32), .null, .int (0 : Int32), .null, .int (0 : Int32), .int (0 : Int32), .int (0 : Int32), .int (0 : Int32), .int (0 : Int32), .int (0 : Int32), .long (0 : Int64), .int (0 : Int32), .int (0 : Int32), .null, .int (0 : Int32), .null, .int (0 : Int32), .null, .null, .null, .null, .null, .null, .null, .null, .int (0 : Int32), .null, .null, .null, .null, .null, .null, .null, .null, .int (0 : Int32), .null, .int (0 : Int32), .int (0 : Int32), .int (0 : Int32), .int (0 : Int32), .int (0 : Int32), .int (0 : Int32), .null, .null, .null, .null, .null, .null, .null, .null, .null, .null, .null, .int (0 : Int32), .null, .null, .null, .null, .int (0 : Int32), .int (0 : Int32), .null, .null, .null, .null, .null, .null, .int (0 : Int32), .null, .null, .int (0 : Int32), .null, .null, .null, .null, .null, .null, .null, .null, .null, .null, .null, .int (0 : Int32), .null, .null, .null, .int (0 : Int32), .int (0 : Int32), .int (0 : Int32), .int (0 : Int32), .null, .null, .null, .int (0 : Int32)])))
def hp_206 : pH := (160, 1607842, p_up hp_205.2.2 159 (.inl (0, 4, p_zero 0)))
def hp_207 : pH := (160, 1607842, p_up hp_206.2.2 151 (.inr (12, [.ref 152, .int (0 : Int32), .int (0 : Int32), .int (0 : Int32), .int (0 : Int32), .long (0 : Int64), .int (0 : Int32), .int (0 : Int32), .int (0 : Int32), .int (0 : Int32), .int (-2 : Int32), .int (0 : Int32), .int (0 : Int32), .ref 153, .ref 154, .ref 155, .int (0 : Int32), .ref 156, .int (0 : Int32), .ref 157, .ref 158, .ref 159, .null, .null, .null, .int (0 : Int32), .int (0 : Int32), .int (0 : Int32), .int (0 : Int32), .int (0 : Int32), .null, .int (0 : Int32), .int (0 : Int32), .null, .null, .null, .null, .null, .null, .null, .null, .null, .null, .null, .null, .null, .null, .null, .null, .null, .null, .null, .null, .null, .null, .null, .int (0 : Int32), .null, .int (0 : Int32), .int (0 : Int32), .int (0 : Int32), .null, .int (0 : Int32), .null, .int (0 : Int32), .null, .int (0 : Int32), .int (0 : Int32), .int (0 : Int32), .int (0 : Int32), .int (0 : Int32), .int (0 : Int32), .long (0 : Int64), .int (0 : Int32), .int (0 : Int32), .null, .int (0 : Int32), .null, .int (0 : Int32), .null, .null, .null, .null, .null, .null, .null, .null, .int (0 : Int32), .null, .null, .null, .null, .null, .null, .null, .null, .int (0 : Int32), .null, .int (0 : Int32), .int (0 : Int32), .int (0 : Int32), .int (0 : Int32), .int (0 : Int32), .int (0 : Int32), .null, .null, .null, .null, .null, .null, .null, .null, .null, .null, .null, .int (0 : Int32), .null, .null, .null, .null, .int (0 : Int32), .int (0 : Int32), .null, .null, .null, .null, .null, .null, .int (0 : Int32), .null, .null, .int (0 : Int32), .null, .null, .null, .null, .null, .null, .null, .null, .null, .null, .null, .int (0 : Int32), .null, .null, .null, .int (0 : Int32), .int (0 : Int32), .int (0 : Int32), .int (0 : Int32), .null, .null, .null, .int (0 : Int32)])))
def hp_208 : pH := (161, 1607866, p_up hp_207.2.2 160 (.inl (1, 24, p_zero 1)))
def hp_209 : pH := (161, 1607866, p_up hp_208.2.2 151 (.inr (12, [.ref 152, .int (0 : Int32), .int (0 : Int32), .int (0 : Int32), .int (0 : Int32), .long (0 : Int64), .int (0 : Int32), .int (0 : Int32), .int (0 : Int32), .int (0 : Int32), .int (-2 : Int32), .int (0 : Int32), .int (0 : Int32), .ref 153, .ref 154, .ref 155, .int (0 : Int32), .ref 156, .int (0 : Int32), .ref 157, .ref 158, .ref 159, .ref 160, .null, .null, .int (0 : Int32), .int (0 : Int32), .int (0 : Int32), .int (0 : Int32), .int (0 : Int32), .null, .int (0 : Int32), .int (0 : Int32), .null, .null, .null, .null, .null, .null, .null, .null, .null, .null, .null, .null, .null, .null, .null, .null, .null, .null, .null, .null, .null, .null, .null, .int (0 : Int32), .null, .int (0 : Int32), .int (0 : Int32), .int (0 : Int32), .null, .int (0 : Int32), .null, .int (0 : Int32), .null, .int (0 : Int32), .int (0 : Int32), .int (0 : Int32), .int (0 : Int32), .int (0 : Int32), .int (0 : Int32), .long (0 : Int64), .int (0 : Int32), .int (0 : Int32), .null, .int (0 : Int32), .null, .int (0 : Int32), .null, .null, .null, .null, .null, .null, .null, .null, .int (0 : Int32), .null, .null, .null, .null, .null, .null, .null, .null, .int (0 : Int32), .null, .int (0 : Int32), .int (0 : Int32), .int (0 : Int32), .int (0 : Int32), .int (0 : Int32), .int (0 : Int32), .null, .null, .null, .null, .null, .null, .null, .null, .null, .null, .null, .int (0 : Int32), .null, .null, .null, .null, .int (0 : Int32), .int (0 : Int32), .null, .null, .null, .null, .null, .null, .int (0 : Int32), .null, .null, .int (0 : Int32), .null, .null, .null, .null, .null, .null, .null, .null, .null, .null, .null, .int (0 : Int32), .null, .null, .null, .int (0 : Int32), .int (0 : Int32), .int (0 : Int32), .int (0 : Int32), .null, .null, .null, .int (0 : Int32)])))
def hp_210 : pH := (162, 1608766, p_up hp_209.2.2 161 (.inl (0, 900, p_zero 0)))
def hp_211 : pH := (162, 1608766, p_up hp_210.2.2 151 (.inr (12, [.ref 152, .int (0 : Int32), .int (0 : Int32), .int (0 : Int32), .int (0 : Int32), .long (0 : Int64), .int (0 : Int32), .int (0 : Int32), .int (0 : Int32), .int (0 : Int32), .int (-2 : Int32), .int (0 : Int32), .int (0 : Int32), .ref 153, .ref 154, .ref 155, .int (0 : Int32), .ref 156, .int (0 : Int32), .ref 157, .ref 158, .ref 159, .ref 160, .ref 161, .null, .int (0 : Int32), .int (0 : Int32), .int (0 : Int32), .int (0 : Int32), .int (0 : Int32), .null, .int (0 : Int32), .int (0 : Int32), .null, .null, .null, .null, .null, .null, .null, .null, .null, .null, .null, .null, .null, .null, .null, .null, .null, .null, .null, .null, .null, .null, .null, .int (0 : Int32), .null, .int (0 : Int32), .int (0 : Int32), .int (0 : Int32), .null, .int (0 : Int32), .null, .int (0 : Int32), .null, .int (0 : Int32), .int (0 : Int32), .int (0 : Int32), .int (0 : Int32), .int (0 : Int32), .int (0 : Int32), .long (0 : Int64), .int (0 : Int32), .int (0 : Int32), .null, .int (0 : Int32), .null, .int (0 : Int32), .null, .null, .null, .null, .null, .null, .null, .null, .int (0 : Int32), .null, .null, .null, .null, .null, .null, .null, .null, .int (0 : Int32), .null, .int (0 : Int32), .int (0 : Int32), .int (0 : Int32), .int (0 : Int32), .int (0 : Int32), .int (0 : Int32), .null, .null, .null, .null, .null, .null, .null, .null, .null, .null, .null, .int (0 : Int32), .null, .null, .null, .null, .int (0 : Int32), .int (0 : Int32), .null, .null, .null, .null, .null, .null, .int (0 : Int32), .null, .null, .int (0 : Int32), .null, .null, .null, .null, .null, .null, .null, .null, .null, .null, .null, .int (0 : Int32), .null, .null, .null, .int (0 : Int32), .int (0 : Int32), .int (0 : Int32), .int (0 : Int32), .null, .null, .null, .int (0 : Int32)])))
def hp_212 : pH := (163, 1609666, p_up hp_211.2.2 162 (.inl (0, 900, p_zero 0)))
def hp_213 : pH := (163, 1609666, p_up hp_212.2.2 151 (.inr (12, [.ref 152, .int (0 : Int32), .int (0 : Int32), .int (0 : Int32), .int (0 : Int32), .long (0 : Int64), .int (0 : Int32), .int (0 : Int32), .int (0 : Int32), .int (0 : Int32), .int (-2 : Int32), .int (0 : Int32), .int (0 : Int32), .ref 153, .ref 154, .ref 155, .int (0 : Int32), .ref 156, .int (0 : Int32), .ref 157, .ref 158, .ref 159, .ref 160, .ref 161, .ref 162, .int (0 : Int32), .int (0 : Int32), .int (0 : Int32), .int (0 : Int32), .int (0 : Int32), .null, .int (0 : Int32), .int (0 : Int32), .null, .null, .null, .null, .null, .null, .null, .null, .null, .null, .null, .null, .null, .null, .null, .null, .null, .null, .null, .null, .null, .null, .null, .int (0 : Int32), .null, .int (0 : Int32), .int (0 : Int32), .int (0 : Int32), .null, .int (0 : Int32), .null, .int (0 : Int32), .null, .int (0 : Int32), .int (0 : Int32), .int (0 : Int32), .int (0 : Int32), .int (0 : Int32), .int (0 : Int32), .long (0 : Int64), .int (0 : Int32), .int (0 : Int32), .null, .int (0 : Int32), .null, .int (0 : Int32), .null, .null, .null, .null, .null, .null, .null, .null, .int (0 : Int32), .null, .null, .null, .null, .null, .null, .null, .null, .int (0 : Int32), .null, .int (0 : Int32), .int (0 : Int32), .int (0 : Int32), .int (0 : Int32), .int (0 : Int32), .int (0 : Int32), .null, .null, .null, .null, .null, .null, .null, .null, .null, .null, .null, .int (0 : Int32), .null, .null, .null, .null, .int (0 : Int32), .int (0 : Int32), .null, .null, .null, .null, .null, .null, .int (0 : Int32), .null, .null, .int (0 : Int32), .null, .null, .null, .null, .null, .null, .null, .null, .null, .null, .null, .int (0 : Int32), .null, .null, .null, .int (0 : Int32), .int (0 : Int32), .int (0 : Int32), .int (0 : Int32), .null, .null, .null, .int (0 : Int32)])))
def hp_214 : pH := (164, 1611666, p_up hp_213.2.2 163 (.inl (0, 2000, p_zero 0)))
def hp_215 : pH := (164, 1611666, p_up hp_214.2.2 151 (.inr (12, [.ref 152, .int (0 : Int32), .int (0 : Int32), .int (0 : Int32), .int (0 : Int32), .long (0 : Int64), .int (0 : Int32), .int (0 : Int32), .int (0 : Int32), .int (0 : Int32), .int (-2 : Int32), .int (0 : Int32), .int (0 : Int32), .ref 153, .ref 154, .ref 155, .int (0 : Int32), .ref 156, .int (0 : Int32), .ref 157, .ref 158, .ref 159, .ref 160, .ref 161, .ref 162, .int (0 : Int32), .int (0 : Int32), .int (0 : Int32), .int (0 : Int32), .int (0 : Int32), .ref 163, .int (0 : Int32), .int (0 : Int32), .null, .null, .null, .null, .null, .null, .null, .null, .null, .null, .null, .null, .null, .null, .null, .null, .null, .null, .null, .null, .null, .null, .null, .int (0 : Int32), .null, .int (0 : Int32), .int (0 : Int32), .int (0 : Int32), .null, .int (0 : Int32), .null, .int (0 : Int32), .null, .int (0 : Int32), .int (0 : Int32), .int (0 : Int32), .int (0 : Int32), .int (0 : Int32), .int (0 : Int32), .long (0 : Int64), .int (0 : Int32), .int (0 : Int32), .null, .int (0 : Int32), .null, .int (0 : Int32), .null, .null, .null, .null, .null, .null, .null, .null, .int (0 : Int32), .null, .null, .null, .null, .null, .null, .null, .null, .int (0 : Int32), .null, .int (0 : Int32), .int (0 : Int32), .int (0 : Int32), .int (0 : Int32), .int (0 : Int32), .int (0 : Int32), .null, .null, .null, .null, .null, .null, .null, .null, .null, .null, .null, .int (0 : Int32), .null, .null, .null, .null, .int (0 : Int32), .int (0 : Int32), .null, .null, .null, .null, .null, .null, .int (0 : Int32), .null, .null, .int (0 : Int32), .null, .null, .null, .null, .null, .null, .null, .null, .null, .null, .null, .int (0 : Int32), .null, .null, .null, .int (0 : Int32), .int (0 : Int32), .int (0 : Int32), .int (0 : Int32), .null, .null, .null, .int (0 : Int32)])))
def hp_216 : pH := (165, 1612066, p_up hp_215.2.2 164 (.inl (0, 400, p_zero 0)))
def hp_217 : pH := (165, 1612066, p_up hp_216.2.2 151 (.inr (12, [.ref 152, .int (0 : Int32), .int (0 : Int32), .int (0 : Int32), .int (0 : Int32), .long (0 : Int64), .int (0 : Int32), .int (0 : Int32), .int (0 : Int32), .int (0 : Int32), .int (-2 : Int32), .int (0 : Int32), .int (0 : Int32), .ref 153, .ref 154, .ref 155, .int (0 : Int32), .ref 156, .int (0 : Int32), .ref 157, .ref 158, .ref 159, .ref 160, .ref 161, .ref 162, .int (0 : Int32), .int (0 : Int32), .int (0 : Int32), .int (0 : Int32), .int (0 : Int32), .ref 163, .int (0 : Int32), .int (0 : Int32), .ref 164, .null, .null, .null, .null, .null, .null, .null, .null, .null, .null, .null, .null, .null, .null, .null, .null, .null, .null, .null, .null, .null, .null, .int (0 : Int32), .null, .int (0 : Int32), .int (0 : Int32), .int (0 : Int32), .null, .int (0 : Int32), .null, .int (0 : Int32), .null, .int (0 : Int32), .int (0 : Int32), .int (0 : Int32), .int (0 : Int32), .int (0 : Int32), .int (0 : Int32), .long (0 : Int64), .int (0 : Int32), .int (0 : Int32), .null, .int (0 : Int32), .null, .int (0 : Int32), .null, .null, .null, .null, .null, .null, .null, .null, .int (0 : Int32), .null, .null, .null, .null, .null, .null, .null, .null, .int (0 : Int32), .null, .int (0 : Int32), .int (0 : Int32), .int (0 : Int32), .int (0 : Int32), .int (0 : Int32), .int (0 : Int32), .null, .null, .null, .null, .null, .null, .null, .null, .null, .null, .null, .int (0 : Int32), .null, .null, .null, .null, .int (0 : Int32), .int (0 : Int32), .null, .null, .null, .null, .null, .null, .int (0 : Int32), .null, .null, .int (0 : Int32), .null, .null, .null, .null, .null, .null, .null, .null, .null, .null, .null, .int (0 : Int32), .null, .null, .null, .int (0 : Int32), .int (0 : Int32), .int (0 : Int32), .int (0 : Int32), .null, .null, .null, .int (0 : Int32)])))
def hp_218 : pH := (166, 1612466, p_up hp_217.2.2 165 (.inl (0, 400, p_zero 0)))
def hp_219 : pH := (166, 1612466, p_up hp_218.2.2 151 (.inr (12, [.ref 152, .int (0 : Int32), .int (0 : Int32), .int (0 : Int32), .int (0 : Int32), .long (0 : Int64), .int (0 : Int32), .int (0 : Int32), .int (0 : Int32), .int (0 : Int32), .int (-2 : Int32), .int (0 : Int32), .int (0 : Int32), .ref 153, .ref 154, .ref 155, .int (0 : Int32), .ref 156, .int (0 : Int32), .ref 157, .ref 158, .ref 159, .ref 160, .ref 161, .ref 162, .int (0 : Int32), .int (0 : Int32), .int (0 : Int32), .int (0 : Int32), .int (0 : Int32), .ref 163, .int (0 : Int32), .int (0 : Int32), .ref 164, .ref 165, .null, .null, .null, .null, .null, .null, .null, .null, .null, .null, .null, .null, .null, .null, .null, .null, .null, .null, .null, .null, .null, .int (0 : Int32), .null, .int (0 : Int32), .int (0 : Int32), .int (0 : Int32), .null, .int (0 : Int32), .null, .int (0 : Int32), .null, .int (0 : Int32), .int (0 : Int32), .int (0 : Int32), .int (0 : Int32), .int (0 : Int32), .int (0 : Int32), .long (0 : Int64), .int (0 : Int32), .int (0 : Int32), .null, .int (0 : Int32), .null, .int (0 : Int32), .null, .null, .null, .null, .null, .null, .null, .null, .int (0 : Int32), .null, .null, .null, .null, .null, .null, .null, .null, .int (0 : Int32), .null, .int (0 : Int32), .int (0 : Int32), .int (0 : Int32), .int (0 : Int32), .int (0 : Int32), .int (0 : Int32), .null, .null, .null, .null, .null, .null, .null, .null, .null, .null, .null, .int (0 : Int32), .null, .null, .null, .null, .int (0 : Int32), .int (0 : Int32), .null, .null, .null, .null, .null, .null, .int (0 : Int32), .null, .null, .int (0 : Int32), .null, .null, .null, .null, .null, .null, .null, .null, .null, .null, .null, .int (0 : Int32), .null, .null, .null, .int (0 : Int32), .int (0 : Int32), .int (0 : Int32), .int (0 : Int32), .null, .null, .null, .int (0 : Int32)])))
def hp_220 : pH := (167, 1612866, p_up hp_219.2.2 166 (.inl (0, 400, p_zero 0)))
def hp_221 : pH := (167, 1612866, p_up hp_220.2.2 151 (.inr (12, [.ref 152, .int (0 : Int32), .int (0 : Int32), .int (0 : Int32), .int (0 : Int32), .long (0 : Int64), .int (0 : Int32), .int (0 : Int32), .int (0 : Int32), .int (0 : Int32), .int (-2 : Int32), .int (0 : Int32), .int (0 : Int32), .ref 153, .ref 154, .ref 155, .int (0 : Int32), .ref 156, .int (0 : Int32), .ref 157, .ref 158, .ref 159, .ref 160, .ref 161, .ref 162, .int (0 : Int32), .int (0 : Int32), .int (0 : Int32), .int (0 : Int32), .int (0 : Int32), .ref 163, .int (0 : Int32), .int (0 : Int32), .ref 164, .ref 165, .ref 166, .null, .null, .null, .null, .null, .null, .null, .null, .null, .null, .null, .null, .null, .null, .null, .null, .null, .null, .null, .null, .int (0 : Int32), .null, .int (0 : Int32), .int (0 : Int32), .int (0 : Int32), .null, .int (0 : Int32), .null, .int (0 : Int32), .null, .int (0 : Int32), .int (0 : Int32), .int (0 : Int32), .int (0 : Int32), .int (0 : Int32), .int (0 : Int32), .long (0 : Int64), .int (0 : Int32), .int (0 : Int32), .null, .int (0 : Int32), .null, .int (0 : Int32), .null, .null, .null, .null, .null, .null, .null, .null, .int (0 : Int32), .null, .null, .null, .null, .null, .null, .null, .null, .int (0 : Int32), .null, .int (0 : Int32), .int (0 : Int32), .int (0 : Int32), .int (0 : Int32), .int (0 : Int32), .int (0 : Int32), .null, .null, .null, .null, .null, .null, .null, .null, .null, .null, .null, .int (0 : Int32), .null, .null, .null, .null, .int (0 : Int32), .int (0 : Int32), .null, .null, .null, .null, .null, .null, .int (0 : Int32), .null, .null, .int (0 : Int32), .null, .null, .null, .null, .null, .null, .null, .null, .null, .null, .null, .int (0 : Int32), .null, .null, .null, .int (0 : Int32), .int (0 : Int32), .int (0 : Int32), .int (0 : Int32), .null, .null, .null, .int (0 : Int32)])))
def hp_222 : pH := (168, 1613266, p_up hp_221.2.2 167 (.inl (0, 400, p_zero 0)))
def hp_223 : pH := (168, 1613266, p_up hp_222.2.2 151 (.inr (12, [.ref 152, .int (0 : Int32), .int (0 : Int32), .int (0 : Int32), .int (0 : Int32), .long (0 : Int64), .int (0 : Int32), .int (0 : Int32), .int (0 : Int32), .int (0 : Int32), .int (-2 : Int32), .int (0 : Int32), .int (0 : Int32), .ref 153, .ref 154, .ref 155, .int (0 : Int32), .ref 156, .int (0 : Int32), .ref 157, .ref 158, .ref 159, .ref 160, .ref 161, .ref 162, .int (0 : Int32), .int (0 : Int32), .int (0 : Int32), .int (0 : Int32), .int (0 : Int32), .ref 163, .int (0 : Int32), .int (0 : Int32), .ref 164, .ref 165, .ref 166, .ref 167, .null, .null, .null, .null, .null, .null, .null, .null, .null, .null, .null, .null, .null, .null, .null, .null, .null, .null, .null, .int (0 : Int32), .null, .int (0 : Int32), .int (0 : Int32), .int (0 : Int32), .null, .int (0 : Int32), .null, .int (0 : Int32), .null, .int (0 : Int32), .int (0 : Int32), .int (0 : Int32), .int (0 : Int32), .int (0 : Int32), .int (0 : Int32), .long (0 : Int64), .int (0 : Int32), .int (0 : Int32), .null, .int (0 : Int32), .null, .int (0 : Int32), .null, .null, .null, .null, .null, .null, .null, .null, .int (0 : Int32), .null, .null, .null, .null, .null, .null, .null, .null, .int (0 : Int32), .null, .int (0 : Int32), .int (0 : Int32), .int (0 : Int32), .int (0 : Int32), .int (0 : Int32), .int (0 : Int32), .null, .null, .null, .null, .null, .null, .null, .null, .null, .null, .null, .int (0 : Int32), .null, .null, .null, .null, .int (0 : Int32), .int (0 : Int32), .null, .null, .null, .null, .null, .null, .int (0 : Int32), .null, .null, .int (0 : Int32), .null, .null, .null, .null, .null, .null, .null, .null, .null, .null, .null, .int (0 : Int32), .null, .null, .null, .int (0 : Int32), .int (0 : Int32), .int (0 : Int32), .int (0 : Int32), .null, .null, .null, .int (0 : Int32)])))
def hp_224 : pH := (169, 1613666, p_up hp_223.2.2 168 (.inl (0, 400, p_zero 0)))
def hp_225 : pH := (169, 1613666, p_up hp_224.2.2 151 (.inr (12, [.ref 152, .int (0 : Int32), .int (0 : Int32), .int (0 : Int32), .int (0 : Int32), .long (0 : Int64), .int (0 : Int32), .int (0 : Int32), .int (0 : Int32), .int (0 : Int32), .int (-2 : Int32), .int (0 : Int32), .int (0 : Int32), .ref 153, .ref 154, .ref 155, .int (0 : Int32), .ref 156, .int (0 : Int32), .ref 157, .ref 158, .ref 159, .ref 160, .ref 161, .ref 162, .int (0 : Int32), .int (0 : Int32), .int (0 : Int32), .int (0 : Int32), .int (0 : Int32), .ref 163, .int (0 : Int32), .int (0 : Int32), .ref 164, .ref 165, .ref 166, .ref 167, .ref 168, .null, .null, .null, .null, .null, .null, .null, .null, .null, .null, .null, .null, .null, .null, .null, .null, .null, .null, .int (0 : Int32), .null, .int (0 : Int32), .int (0 : Int32), .int (0 : Int32), .null, .int (0 : Int32), .null, .int (0 : Int32), .null, .int (0 : Int32), .int (0 : Int32), .int (0 : Int32), .int (0 : Int32), .int (0 : Int32), .int (0 : Int32), .long (0 : Int64), .int (0 : Int32), .int (0 : Int32), .null, .int (0 : Int32), .null, .int (0 : Int32), .null, .null, .null, .null, .null, .null, .null, .null, .int (0 : Int32), .null, .null, .null, .null, .null, .null, .null, .null, .int (0 : Int32), .null, .int (0 : Int32), .int (0 : Int32), .int (0 : Int32), .int (0 : Int32), .int (0 : Int32), .int (0 : Int32), .null, .null, .null, .null, .null, .null, .null, .null, .null, .null, .null, .int (0 : Int32), .null, .null, .null, .null, .int (0 : Int32), .int (0 : Int32), .null, .null, .null, .null, .null, .null, .int (0 : Int32), .null, .null, .int (0 : Int32), .null, .null, .null, .null, .null, .null, .null, .null, .null, .null, .null, .int (0 : Int32), .null, .null, .null, .int (0 : Int32), .int (0 : Int32), .int (0 : Int32), .int (0 : Int32), .null, .null, .null, .int (0 : Int32)])))
def hp_226 : pH := (170, 1614066, p_up hp_225.2.2 169 (.inl (0, 400, p_zero 0)))
def hp_227 : pH := (170, 1614066, p_up hp_226.2.2 151 (.inr (12, [.ref 152, .int (0 : Int32), .int (0 : Int32), .int (0 : Int32), .int (0 : Int32), .long (0 : Int64), .int (0 : Int32), .int (0 : Int32), .int (0 : Int32), .int (0 : Int32), .int (-2 : Int32), .int (0 : Int32), .int (0 : Int32), .ref 153, .ref 154, .ref 155, .int (0 : Int32), .ref 156, .int (0 : Int32), .ref 157, .ref 158, .ref 159, .ref 160, .ref 161, .ref 162, .int (0 : Int32), .int (0 : Int32), .int (0 : Int32), .int (0 : Int32), .int (0 : Int32), .ref 163, .int (0 : Int32), .int (0 : Int32), .ref 164, .ref 165, .ref 166, .ref 167, .ref 168, .ref 169, .null, .null, .null, .null, .null, .null, .null, .null, .null, .null, .null, .null, .null, .null, .null, .null, .null, .int (0 : Int32), .null, .int (0 : Int32), .int (0 : Int32), .int (0 : Int32), .null, .int (0 : Int32), .null, .int (0 : Int32), .null, .int (0 : Int32), .int (0 : Int32), .int (0 : Int32), .int (0 : Int32), .int (0 : Int32), .int (0 : Int32), .long (0 : Int64), .int (0 : Int32), .int (0 : Int32), .null, .int (0 : Int32), .null, .int (0 : Int32), .null, .null, .null, .null, .null, .null, .null, .null, .int (0 : Int32), .null, .null, .null, .null, .null, .null, .null, .null, .int (0 : Int32), .null, .int (0 : Int32), .int (0 : Int32), .int (0 : Int32), .int (0 : Int32), .int (0 : Int32), .int (0 : Int32), .null, .null, .null, .null, .null, .null, .null, .null, .null, .null, .null, .int (0 : Int32), .null, .null, .null, .null, .int (0 : Int32), .int (0 : Int32), .null, .null, .null, .null, .null, .null, .int (0 : Int32), .null, .null, .int (0 : Int32), .null, .null, .null, .null, .null, .null, .null, .null, .null, .null, .null, .int (0 : Int32), .null, .null, .null, .int (0 : Int32), .int (0 : Int32), .int (0 : Int32), .int (0 : Int32), .null, .null, .null, .int (0 : Int32)])))
def hp_228 : pH := (171, 1614466, p_up hp_227.2.2 170 (.inl (0, 400, p_zero 0)))
def hp_229 : pH := (171, 1614466, p_up hp_228.2.2 151 (.inr (12, [.ref 152, .int (0 : Int32), .int (0 : Int32), .int (0 : Int32), .int (0 : Int32), .long (0 : Int64), .int (0 : Int32), .int (0 : Int32), .int (0 : Int32), .int (0 : Int32), .int (-2 : Int32), .int (0 : Int32), .int (0 : Int32), .ref 153, .ref 154, .ref 155, .int (0 : Int32), .ref 156, .int (0 : Int32), .ref 157, .ref 158, .ref 159, .ref 160, .ref 161, .ref 162, .int (0 : Int32), .int (0 : Int32), .int (0 : Int32), .int (0 : Int32), .int (0 : Int32), .ref 163, .int (0 : Int32), .int (0 : Int32), .ref 164, .ref 165, .ref 166, .ref 167, .ref 168, .ref 169, .ref 170, .null, .null, .null, .null, .null, .null, .null, .null, .null, .null, .null, .null, .null, .null, .null, .null, .int (0 : Int32), .null, .int (0 : Int32), .int (0 : Int32), .int (0 : Int32), .null, .int (0 : Int32), .null, .int (0 : Int32), .null, .int (0 : Int32), .int (0 : Int32), .int (0 : Int32), .int (0 : Int32), .int (0 : Int32), .int (0 : Int32), .long (0 : Int64), .int (0 : Int32), .int (0 : Int32), .null, .int (0 : Int32), .null, .int (0 : Int32), .null, .null, .null, .null, .null, .null, .null, .null, .int (0 : Int32), .null, .null, .null, .null, .null, .null, .null, .null, .int (0 : Int32), .null, .int (0 : Int32), .int (0 : Int32), .int (0 : Int32), .int (0 : Int32), .int (0 : Int32), .int (0 : Int32), .null, .null, .null, .null, .null, .null, .null, .null, .null, .null, .null, .int (0 : Int32), .null, .null, .null, .null, .int (0 : Int32), .int (0 : Int32), .null, .null, .null, .null, .null, .null, .int (0 : Int32), .null, .null, .int (0 : Int32), .null, .null, .null, .null, .null, .null, .null, .null, .null, .null, .null, .int (0 : Int32), .null, .null, .null, .int (0 : Int32), .int (0 : Int32), .int (0 : Int32), .int (0 : Int32), .null, .null, .null, .int (0 : Int32)])))
def hp_230 : pH := (172, 1614866, p_up hp_229.2.2 171 (.inl (0, 400, p_zero 0)))
def hp_231 : pH := (172, 1614866, p_up hp_230.2.2 151 (.inr (12, [.ref 152, .int (0 : Int32), .int (0 : Int32), .int (0 : Int32), .int (0 : Int32), .long (0 : Int64), .int (0 : Int32), .int (0 : Int32), .int (0 : Int32), .int (0 : Int32), .int (-2 : Int32), .int (0 : Int32), .int (0 : Int32), .ref 153, .ref 154, .ref 155, .int (0 : Int32), .ref 156, .int (0 : Int32), .ref 157, .ref 158, .ref 159, .ref 160, .ref 161, .ref 162, .int (0 : Int32), .int (0 : Int32), .int (0 : Int32), .int (0 : Int32), .int (0 : Int32), .ref 163, .int (0 : Int32), .int (0 : Int32), .ref 164, .ref 165, .ref 166, .ref 167, .ref 168, .ref 169, .ref 170, .ref 171, .null, .null, .null, .null, .null, .null, .null, .null, .null, .null, .null, .null, .null, .null, .null, .int (0 : Int32), .null, .int (0 : Int32), .int (0 : Int32), .int (0 : Int32), .null, .int (0 : Int32), .null, .int (0 : Int32), .null, .int (0 : Int32), .int (0 : Int32), .int (0 : Int32), .int (0 : Int32), .int (0 : Int32), .int (0 : Int32), .long (0 : Int64), .int (0 : Int32), .int (0 : Int32), .null, .int (0 : Int32), .null, .int (0 : Int32), .null, .null, .null, .null, .null, .null, .null, .null, .int (0 : Int32), .null, .null, .null, .null, .null, .null, .null, .null, .int (0 : Int32), .null, .int (0 : Int32), .int (0 : Int32), .int (0 : Int32), .int (0 : Int32), .int (0 : Int32), .int (0 : Int32), .null, .null, .null, .null, .null, .null, .null, .null, .null, .null, .null, .int (0 : Int32), .null, .null, .null, .null, .int (0 : Int32), .int (0 : Int32), .null, .null, .null, .null, .null, .null, .int (0 : Int32), .null, .null, .int (0 : Int32), .null, .null, .null, .null, .null, .null, .null, .null, .null, .null, .null, .int (0 : Int32), .null, .null, .null, .int (0 : Int32), .int (0 : Int32), .int (0 : Int32), .int (0 : Int32), .null, .null, .null, .int (0 : Int32)])))
def hp_232 : pH := (173, 1615266, p_up hp_231.2.2 172 (.inl (0, 400, p_zero 0)))
def hp_233 : pH := (173, 1615266, p_up hp_232.2.2 151 (.inr (12, [.ref 152, .int (0 : Int32), .int (0 : Int32), .int (0 : Int32), .int (0 : Int32), .long (0 : Int64), .int (0 : Int32), .int (0 : Int32), .int (0 : Int32), .int (0 : Int32), .int (-2 : Int32), .int (0 : Int32), .int (0 : Int32), .ref 153, .ref 154, .ref 155, .int (0 : Int32), .ref 156, .int (0 : Int32), .ref 157, .ref 158, .ref 159, .ref 160, .ref 161, .ref 162, .int (0 : Int32), .int (0 : Int32), .int (0 : Int32), .int (0 : Int32), .int (0 : Int32), .ref 163, .int (0 : Int32), .int (0 : Int32), .ref 164, .ref 165, .ref 166, .ref 167, .ref 168, .ref 169, .ref 170, .ref 171, .ref 172, .null, .null, .null, .null, .null, .null, .null, .null, .null, .null, .null, .null, .null, .null, .int (0 : Int32), .null, .int (0 : Int32), .int (0 : Int32), .int (0 : Int32), .null, .int (0 : Int32), .null, .int (0 : Int32), .null, .int (0 : Int32), .int (0 : Int32), .int (0 : Int32), .int (0 : Int32), .int (0 : Int32), .int (0 : Int32), .long (0 : Int64), .int (0 : Int32), .int (0 : Int32), .null, .int (0 : Int32), .null, .int (0 : Int32), .null, .null, .null, .null, .null, .null, .null, .null, .int (0 : Int32), .null, .null, .null, .null, .null, .null, .null, .null, .int (0 : Int32), .null, .int (0 : Int32), .int (0 : Int32), .int (0 : Int32), .int (0 : Int32), .int (0 : Int32), .int (0 : Int32), .null, .null, .null, .null, .null, .null, .null, .null, .null, .null, .null, .int (0 : Int32), .null, .null, .null, .null, .int (0 : Int32), .int (0 : Int32), .null, .null, .null, .null, .null, .null, .int (0 : Int32), .null, .null, .int (0 : Int32), .null, .null, .null, .null, .null, .null, .null, .null, .null, .null, .null, .int (0 : Int32), .null, .null, .null, .int (0 : Int32), .int (0 : Int32), .int (0 : Int32), .int (0 : Int32), .null, .null, .null, .int (0 : Int32)])))
def hp_234 : pH := (174, 1615666, p_up hp_233.2.2 173 (.inl (0, 400, p_zero 0)))
def hp_235 : pH := (174, 1615666, p_up hp_234.2.2 151 (.inr (12, [.ref 152, .int (0 : Int32), .int (0 : Int32), .int (0 : Int32), .int (0 : Int32), .long (0 : Int64), .int (0 : Int32), .int (0 : Int32), .int (0 : Int32), .int (0 : Int32), .int (-2 : Int32), .int (0 : Int32), .int (0 : Int32), .ref 153, .ref 154, .ref 155, .int (0 : Int32), .ref 156, .int (0 : Int32), .ref 157, .ref 158, .ref 159, .ref 160, .ref 161, .ref 162, .int (0 : Int32), .int (0 : Int32), .int (0 : Int32), .int (0 : Int32), .int (0 : Int32), .ref 163, .int (0 : Int32), .int (0 : Int32), .ref 164, .ref 165, .ref 166, .ref 167, .ref 168, .ref 169, .ref 170, .ref 171, .ref 172, .ref 173, .null, .null, .null, .null, .null, .null, .null, .null, .null, .null, .null, .null, .null, .int (0 : Int32), .null, .int (0 : Int32), .int (0 : Int32), .int (0 : Int32), .null, .int (0 : Int32), .null, .int (0 : Int32), .null, .int (0 : Int32), .int (0 : Int32), .int (0 : Int32), .int (0 : Int32), .int (0 : Int32), .int (0 : Int32), .long (0 : Int64), .int (0 : Int32), .int (0 : Int32), .null, .int (0 : Int32), .null, .int (0 : Int32), .null, .null, .null, .null, .null, .null, .null, .null, .int (0 : Int32), .null, .null, .null, .null, .null, .null, .null, .null, .int (0 : Int32), .null, .int (0 : Int32), .int (0 : Int32), .int (0 : Int32), .int (0 : Int32), .int (0 : Int32), .int (0 : Int32), .null, .null, .null, .null, .null, .null, .null, .null, .null, .null, .null, .int (0 : Int32), .null, .null, .null, .null, .int (0 : Int32), .int (0 : Int32), .null, .null, .null, .null, .null, .null, .int (0 : Int32), .null, .null, .int (0 : Int32), .null, .null, .null, .null, .null, .null, .null, .null, .null, .null, .null, .int (0 : Int32), .null, .null, .null, .int (0 : Int32), .int (0 : Int32), .int (0 : Int32), .int (0 : Int32), .null, .null, .null, .int (0 : Int32)])))
def hp_236 : pH := (175, 1616066, p_up hp_235.2.2 174 (.inl (0, 400, p_zero 0)))
def hp_237 : pH := (175, 1616066, p_up hp_236.2.2 151 (.inr (12, [.ref 152, .int (0 : Int32), .int (0 : Int32), .int (0 : Int32), .int (0 : Int32), .long (0 : Int64), .int (0 : Int32), .int (0 : Int32), .int (0 : Int32), .int (0 : Int32), .int (-2 : Int32), .int (0 : Int32), .int (0 : Int32), .ref 153, .ref 154, .ref 155, .int (0 : Int32), .ref 156, .int (0 : Int32), .ref 157, .ref 158, .ref 159, .ref 160, .ref 161, .ref 162, .int (0 : Int32), .int (0 : Int32), .int (0 : Int32), .int (0 : Int32), .int (0 : Int32), .ref 163, .int (0 : Int32), .int (0 : Int32), .ref 164, .ref 165, .ref 166, .ref 167, .ref 168, .ref 169, .ref 170, .ref 171, .ref 172, .ref 173, .ref 174, .null, .null, .null, .null, .null, .null, .null, .null, .null, .null, .null, .null, .int (0 : Int32), .null, .int (0 : Int32), .int (0 : Int32), .int (0 : Int32), .null, .int (0 : Int32), .null, .int (0 : Int32), .null, .int (0 : Int32), .int (0 : Int32), .int (0 : Int32), .int (0 : Int32), .int (0 : Int32), .int (0 : Int32), .long (0 : Int64), .int (0 : Int32), .int (0 : Int32), .null, .int (0 : Int32), .null, .int (0 : Int32), .null, .null, .null, .null, .null, .null, .null, .null, .int (0 : Int32), .null, .null, .null, .null, .null, .null, .null, .null, .int (0 : Int32), .null, .int (0 : Int32), .int (0 : Int32), .int (0 : Int32), .int (0 : Int32), .int (0 : Int32), .int (0 : Int32), .null, .null, .null, .null, .null, .null, .null, .null, .null, .null, .null, .int (0 : Int32), .null, .null, .null, .null, .int (0 : Int32), .int (0 : Int32), .null, .null, .null, .null, .null, .null, .int (0 : Int32), .null, .null, .int (0 : Int32), .null, .null, .null, .null, .null, .null, .null, .null, .null, .null, .null, .int (0 : Int32), .null, .null, .null, .int (0 : Int32), .int (0 : Int32), .int (0 : Int32), .int (0 : Int32), .null, .null, .null, .int (0 : Int32)])))
def hp_238 : pH := (176, 1616466, p_up hp_237.2.2 175 (.inl (2, 400, p_zero 2)))
def hp_239 : pH := (176, 1616466, p_up hp_238.2.2 151 (.inr (12, [.ref 152, .int (0 : Int32), .int (0 : Int32), .int (0 : Int32), .int (0 : Int32), .long (0 : Int64), .int (0 : Int32), .int (0 : Int32), .int (0 : Int32), .int (0 : Int32), .int (-2 : Int32), .int (0 : Int32), .int (0 : Int32), .ref 153, .ref 154, .ref 155, .int (0 : Int32), .ref 156, .int (0 : Int32), .ref 157, .ref 158, .ref 159, .ref 160, .ref 161, .ref 162, .int (0 : Int32), .int (0 : Int32), .int (0 : Int32), .int (0 : Int32), .int (0 : Int32), .ref 163, .int (0 : Int32), .int (0 : Int32), .ref 164, .ref 165, .ref 166, .ref 167, .ref 168, .ref 169, .ref 170, .ref 171, .ref 172, .ref 173, .ref 174, .ref 175, .null, .null, .null, .null, .null, .null, .null, .null, .null, .null, .null, .int (0 : Int32), .null, .int (0 : Int32), .int (0 : Int32), .int (0 : Int32), .null, .int (0 : Int32), .null, .int (0 : Int32), .null, .int (0 : Int32), .int (0 : Int32), .int (0 : Int32), .int (0 : Int32), .int (0 : Int32), .int (0 : Int32), .long (0 : Int64), .int (0 : Int32), .int (0 : Int32), .null, .int (0 : Int32), .null, .int (0 : Int32), .null, .null, .null, .null, .null, .null, .null, .null, .int (0 : Int32), .null, .null, .null, .null, .null, .null, .null, .null, .int (0 : Int32), .null, .int (0 : Int32), .int (0 : Int32), .int (0 : Int32), .int (0 : Int32), .int (0 : Int32), .int (0 : Int32), .null, .null, .null, .null, .null, .null, .null, .null, .null, .null, .null, .int (0 : Int32), .null, .null, .null, .null, .int (0 : Int32), .int (0 : Int32), .null, .null, .null, .null, .null, .null, .int (0 : Int32), .null, .null, .int (0 : Int32), .null, .null, .null, .null, .null, .null, .null, .null, .null, .null, .null, .int (0 : Int32), .null, .null, .null, .int (0 : Int32), .int (0 : Int32), .int (0 : Int32), .int (0 : Int32), .null, .null, .null, .int (0 : Int32)])))
def hp_240 : pH := (177, 1616866, p_up hp_239.2.2 176 (.inl (0, 400, p_zero 0)))
def hp_241 : pH := (177, 1616866, p_up hp_240.2.2 151 (.inr (12, [.ref 152, .int (0 : Int32), .int (0 : Int32), .int (0 : Int32), .int (0 : Int32), .long (0 : Int64), .int (0 : Int32), .int (0 : Int32), .int (0 : Int32), .int (0 : Int32), .int (-2 : Int32), .int (0 : Int32), .int (0 : Int32), .ref 153, .ref 154, .ref 155, .int (0 : Int32), .ref 156, .int (0 : Int32), .ref 157, .ref 158, .ref 159, .ref 160, .ref 161, .ref 162, .int (0 : Int32), .int (0 : Int32), .int (0 : Int32), .int (0 : Int32), .int (0 : Int32), .ref 163, .int (0 : Int32), .int (0 : Int32), .ref 164, .ref 165, .ref 166, .ref 167, .ref 168, .ref 169, .ref 170, .ref 171, .ref 172, .ref 173, .ref 174, .ref 175, .ref 176, .null, .null, .null, .null, .null, .null, .null, .null, .null, .null, .int (0 : Int32), .null, .int (0 : Int32), .int (0 : Int32), .int (0 : Int32), .null, .int (0 : Int32), .null, .int (0 : Int32), .null, .int (0 : Int32), .int (0 : Int32), .int (0 : Int32), .int (0 : Int32), .int (0 : Int32), .int (0 : Int32), .long (0 : Int64), .int (0 : Int32), .int (0 : Int32), .null, .int (0 : Int32), .null, .int (0 : Int32), .null, .null, .null, .null, .null, .null, .null, .null, .int (0 : Int32), .null, .null, .null, .null, .null, .null, .null, .null, .int (0 : Int32), .null, .int (0 : Int32), .int (0 : Int32), .int (0 : Int32), .int (0 : Int32), .int (0 : Int32), .int (0 : Int32), .null, .null, .null, .null, .null, .null, .null, .null, .null, .null, .null, .int (0 : Int32), .null, .null, .null, .null, .int (0 : Int32), .int (0 : Int32), .null, .null, .null, .null, .null, .null, .int (0 : Int32), .null, .null, .int (0 : Int32), .null, .null, .null, .null, .null, .null, .null, .null, .null, .null, .null, .int (0 : Int32), .null, .null, .null, .int (0 : Int32), .int (0 : Int32), .int (0 : Int32), .int (0 : Int32), .null, .null, .null, .int (0 : Int32)])))
def hp_242 : pH := (178, 1617266, p_up hp_241.2.2 177 (.inl (0, 400, p_zero 0)))
def hp_243 : pH := (178, 1617266, p_up hp_242.2.2 151 (.inr (12, [.ref 152, .int (0 : Int32), .int (0 : Int32), .int (0 : Int32), .int (0 : Int32), .long (0 : Int64), .int (0 : Int32), .int (0 : Int32), .int (0 : Int32), .int (0 : Int32), .int (-2 : Int32), .int (0 : Int32), .int (0 : Int32), .ref 153, .ref 154, .ref 155, .int (0 : Int32), .ref 156, .int (0 : Int32), .ref 157, .ref 158, .ref 159, .ref 160, .ref 161, .ref 162, .int (0 : Int32), .int (0 : Int32), .int (0 : Int32), .int (0 : Int32), .int (0 : Int32), .ref 163, .int (0 : Int32), .int (0 : Int32), .ref 164, .ref 165, .ref 166, .ref 167, .ref 168, .ref 169, .ref 170, .ref 171, .ref 172, .ref 173, .ref 174, .ref 175, .ref 176, .ref 177, .null, .null, .null, .null, .null, .null, .null, .null, .null, .int (0 : Int32), .null, .int (0 : Int32), .int (0 : Int32), .int (0 : Int32), .null, .int (0 : Int32), .null, .int (0 : Int32), .null, .int (0 : Int32), .int (0 : Int32), .int (0 : Int32), .int (0 : Int32), .int (0 : Int32), .int (0 : Int32), .long (0 : Int64), .int (0 : Int32), .int (0 : Int32), .null, .int (0 : Int32), .null, .int (0 : Int32), .null, .null, .null, .null, .null, .null, .null, .null, .int (0 : Int32), .null, .null, .null, .null, .null, .null, .null, .null, .int (0 : Int32), .null, .int (0 : Int32), .int (0 : Int32), .int (0 : Int32), .int (0 : Int32), .int (0 : Int32), .int (0 : Int32), .null, .null, .null, .null, .null, .null, .null, .null, .null, .null, .null, .int (0 : Int32), .null, .null, .null, .null, .int (0 : Int32), .int (0 : Int32), .null, .null, .null, .null, .null, .null, .int (0 : Int32), .null, .null, .int (0 : Int32), .null, .null, .null, .null, .null, .null, .null, .null, .null, .null, .null, .int (0 : Int32), .null, .null, .null, .int (0 : Int32), .int (0 : Int32), .int (0 : Int32), .int (0 : Int32), .null, .null, .null, .int (0 : Int32)])))
def hp_244 : pH := (179, 1617666, p_up hp_243.2.2 178 (.inl (0, 400, p_zero 0)))
def hp_245 : pH := (179, 1617666, p_up hp_244.2.2 151 (.inr (12, [.ref 152, .int (0 : Int32), .int (0 : Int32), .int (0 : Int32), .int (0 : Int32), .long (0 : Int64), .int (0 : Int32), .int (0 : Int32), .int (0 : Int32), .int (0 : Int32), .int (-2 : Int32), .int (0 : Int32), .int (0 : Int32), .ref 153, .ref 154, .ref 155, .int (0 : Int32), .ref 156, .int (0 : Int32), .ref 157, .ref 158, .ref 159, .ref 160, .ref 161, .ref 162, .int (0 : Int32), .int (0 : Int32), .int (0 : Int32), .int (0 : Int32), .int (0 : Int32), .ref 163, .int (0 : Int32), .int (0 : Int32), .ref 164, .ref 165, .ref 166, .ref 167, .ref 168, .ref 169, .ref 170, .ref 171, .ref 172, .ref 173, .ref 174, .ref 175, .ref 176, .ref 177, .ref 178, .null, .null, .null, .null, .null, .null, .null, .null, .int (0 : Int32), .null, .int (0 : Int32), .int (0 : Int32), .int (0 : Int32), .null, .int (0 : Int32), .null, .int (0 : Int32), .null, .int (0 : Int32), .int (0 : Int32), .int (0 : Int32), .int (0 : Int32), .int (0 : Int32), .int (0 : Int32), .long (0 : Int64), .int (0 : Int32), .int (0 : Int32), .null, .int (0 : Int32), .null, .int (0 : Int32), .null, .null, .null, .null, .null, .null, .null, .null, .int (0 : Int32), .null, .null, .null, .null, .null, .null, .null, .null, .int (0 : Int32), .null, .int (0 : Int32), .int (0 : Int32), .int (0 : Int32), .int (0 : Int32), .int (0 : Int32), .int (0 : Int32), .null, .null, .null, .null, .null, .null, .null, .null, .null, .null, .null, .int (0 : Int32), .null, .null, .null, .null, .int (0 : Int32), .int (0 : Int32), .null, .null, .null, .null, .null, .null, .int (0 : Int32), .null, .null, .int (0 : Int32), .null, .null, .null, .null, .null, .null, .null, .null, .null, .null, .null, .int (0 : Int32), .null, .null, .null, .int (0 : Int32), .int (0 : Int32), .int (0 : Int32), .int (0 : Int32), .null, .null, .null, .int (0 : Int32)])))
def hp_246 : pH := (180, 1618066, p_up hp_245.2.2 179 (.inl (0, 400, p_zero 0)))
def hp_247 : pH := (180, 1618066, p_up hp_246.2.2 151 (.inr (12, [.ref 152, .int (0 : Int32), .int (0 : Int32), .int (0 : Int32), .int (0 : Int32), .long (0 : Int64), .int (0 : Int32), .int (0 : Int32), .int (0 : Int32), .int (0 : Int32), .int (-2 : Int32), .int (0 : Int32), .int (0 : Int32), .ref 153, .ref 154, .ref 155, .int (0 : Int32), .ref 156, .int (0 : Int32), .ref 157, .ref 158, .ref 159, .ref 160, .ref 161, .ref 162, .int (0 : Int32), .int (0 : Int32), .int (0 : Int32), .int (0 : Int32), .int (0 : Int32), .ref 163, .int (0 : Int32), .int (0 : Int32), .ref 164, .ref 165, .ref 166, .ref 167, .ref 168, .ref 169, .ref 170, .ref 171, .ref 172, .ref 173, .ref 174, .ref 175, .ref 176, .ref 177, .ref 178, .ref 179, .null, .null, .null, .null, .null, .null, .null, .int (0 : Int32), .null, .int (0 : Int32), .int (0 : Int32), .int (0 : Int32), .null, .int (0 : Int32), .null, .int (0 : Int32), .null, .int (0 : Int32), .int (0 : Int32), .int (0 : Int32), .int (0 : Int32), .int (0 : Int32), .int (0 : Int32), .long (0 : Int64), .int (0 : Int32), .int (0 : Int32), .null, .int (0 : Int32), .null, .int (0 : Int32), .null, .null, .null, .null, .null, .null, .null, .null, .int (0 : Int32), .null, .null, .null, .null, .null, .null, .null, .null, .int (0 : Int32), .null, .int (0 : Int32), .int (0 : Int32), .int (0 : Int32), .int (0 : Int32), .int (0 : Int32), .int (0 : Int32), .null, .null, .null, .null, .null, .null, .null, .null, .null, .null, .null, .int (0 : Int32), .null, .null, .null, .null, .int (0 : Int32), .int (0 : Int32), .null, .null, .null, .null, .null, .null, .int (0 : Int32), .null, .null, .int (0 : Int32), .null, .null, .null, .null, .null, .null, .null, .null, .null, .null, .null, .int (0 : Int32), .null, .null, .null, .int (0 : Int32), .int (0 : Int32), .int (0 : Int32), .int (0 : Int32), .null, .null, .null, .int (0 : Int32)])))
def hp_248 : pH := (181, 1618466, p_up hp_247.2.2 180 (.inl (1, 400, p_zero 1)))
def hp_249 : pH := (181, 1618466, p_up hp_248.2.2 151 (.inr (12, [.ref 152, .int (0 : Int32), .int (0 : Int32), .int (0 : Int32), .int (0 : Int32), .long (0 : Int64), .int (0 : Int32), .int (0 : Int32), .int (0 : Int32), .int (0 : Int32), .int (-2 : Int32), .int (0 : Int32), .int (0 : Int32), .ref 153, .ref 154, .ref 155, .int (0 : Int32), .ref 156, .int (0 : Int32), .ref 157, .ref 158, .ref 159, .ref 160, .ref 161, .ref 162, .int (0 : Int32), .int (0 : Int32), .int (0 : Int32), .int (0 : Int32), .int (0 : Int32), .ref 163, .int (0 : Int32), .int (0 : Int32), .ref 164, .ref 165, .ref 166, .ref 167, .ref 168, .ref 169, .ref 170, .ref 171, .ref 172, .ref 173, .ref 174, .ref 175, .ref 176, .ref 177, .ref 178, .ref 179, .ref 180, .null, .null, .null, .null, .null, .null, .int (0 : Int32), .null, .int (0 : Int32), .int (0 : Int32), .int (0 : Int32), .null, .int (0 : Int32), .null, .int (0 : Int32), .null, .int (0 : Int32), .int (0 : Int32), .int (0 : Int32), .int (0 : Int32), .int (0 : Int32), .int (0 : Int32), .long (0 : Int64), .int (0 : Int32), .int (0 : Int32), .null, .int (0 : Int32), .null, .int (0 : Int32), .null, .null, .null, .null, .null, .null, .null, .null, .int (0 : Int32), .null, .null, .null, .null, .null, .null, .null, .null, .int (0 : Int32), .null, .int (0 : Int32), .int (0 : Int32), .int (0 : Int32), .int (0 : Int32), .int (0 : Int32), .int (0 : Int32), .null, .null, .null, .null, .null, .null, .null, .null, .null, .null, .null, .int (0 : Int32), .null, .null, .null, .null, .int (0 : Int32), .int (0 : Int32), .null, .null, .null, .null, .null, .null, .int (0 : Int32), .null, .null, .int (0 : Int32), .null, .null, .null, .null, .null, .null, .null, .null, .null, .null, .null, .int (0 : Int32), .null, .null, .null, .int (0 : Int32), .int (0 : Int32), .int (0 : Int32), .int (0 : Int32), .null, .null, .null, .int (0 : Int32)])))
def hp_250 : pH := (182, 1618482, p_up hp_249.2.2 181 (.inl (0, 16, p_zero 0)))
def hp_251 : pH := (182, 1618482, p_up hp_250.2.2 151 (.inr (12, [.ref 152, .int (0 : Int32), .int (0 : Int32), .int (0 : Int32), .int (0 : Int32), .long (0 : Int64), .int (0 : Int32), .int (0 : Int32), .int (0 : Int32), .int (0 : Int32), .int (-2 : Int32), .int (0 : Int32), .int (0 : Int32), .ref 153, .ref 154, .ref 155, .int (0 : Int32), .ref 156, .int (0 : Int32), .ref 157, .ref 158, .ref 159, .ref 160, .ref 161, .ref 162, .int (0 : Int32), .int (0 : Int32), .int (0 : Int32), .int (0 : Int32), .int (0 : Int32), .ref 163, .int (0 : Int32), .int (0 : Int32), .ref 164, .ref 165, .ref 166, .ref 167, .ref 168, .ref 169, .ref 170, .ref 171, .ref 172, .ref 173, .ref 174, .ref 175, .ref 176, .ref 177, .ref 178, .ref 179, .ref 180, .ref 181, .null, .null, .null, .null, .null, .int (0 : Int32), .null, .int (0 : Int32), .int (0 : Int32), .int (0 : Int32), .null, .int (0 : Int32), .null, .int (0 : Int32), .null, .int (0 : Int32), .int (0 : Int32), .int (0 : Int32), .int (0 : Int32), .int (0 : Int32), .int (0 : Int32), .long (0 : Int64), .int (0 : Int32), .int (0 : Int32), .null, .int (0 : Int32), .null, .int (0 : Int32), .null, .null, .null, .null, .null, .null, .null, .null, .int (0 : Int32), .null, .null, .null, .null, .null, .null, .null, .null, .int (0 : Int32), .null, .int (0 : Int32), .int (0 : Int32), .int (0 : Int32), .int (0 : Int32), .int (0 : Int32), .int (0 : Int32), .null, .null, .null, .null, .null, .null, .null, .null, .null, .null, .null, .int (0 : Int32), .null, .null, .null, .null, .int (0 : Int32), .int (0 : Int32), .null, .null, .null, .null, .null, .null, .int (0 : Int32), .null, .null, .int (0 : Int32), .null, .null, .null, .null, .null, .null, .null, .null, .null, .null, .null, .int (0 : Int32), .null, .null, .null, .int (0 : Int32), .int (0 : Int32), .int (0 : Int32), .int (0 : Int32), .null, .null, .null, .int (0 : Int32)])))
def hp_252 : pH := (183, 1618582, p_up hp_251.2.2 182 (.inl (1, 100, p_zero 1)))
def hp_253 : pH := (183, 1618582, p_up hp_252.2.2 151 (.inr (12, [.ref 152, .int (0 : Int32), .int (0 : Int32), .int (0 : Int32), .int (0 : Int32), .long (0 : Int64), .int (0 : Int32), .int (0 : Int32), .int (0 : Int32), .int (0 : Int32), .int (-2 : Int32), .int (0 : Int32), .int (0 : Int32), .ref 153, .ref 154, .ref 155, .int (0 : Int32), .ref 156, .int (0 : Int32), .ref 157, .ref 158, .ref 159, .ref 160, .ref 161, .ref 162, .int (0 : Int32), .int (0 : Int32), .int (0 : Int32), .int (0 : Int32), .int (0 : Int32), .ref 163, .int (0 : Int32), .int (0 : Int32), .ref 164, .ref 165, .ref 166, .ref 167, .ref 168, .ref 169, .ref 170, .ref 171, .ref 172, .ref 173, .ref 174, .ref 175, .ref 176, .ref 177, .ref 178, .ref 179, .ref 180, .ref 181, .ref 182, .null, .null, .null, .null, .int (0 : Int32), .null, .int (0 : Int32), .int (0 : Int32), .int (0 : Int32), .null, .int (0 : Int32), .null, .int (0 : Int32), .null, .int (0 : Int32), .int (0 : Int32), .int (0 : Int32), .int (0 : Int32), .int (0 : Int32), .int (0 : Int32), .long (0 : Int64), .int (0 : Int32), .int (0 : Int32), .null, .int (0 : Int32), .null, .int (0 : Int32), .null, .null, .null, .null, .null, .null, .null, .null, .int (0 : Int32), .null, .null, .null, .null, .null, .null, .null, .null, .int (0 : Int32), .null, .int (0 : Int32), .int (0 : Int32), .int (0 : Int32), .int (0 : Int32), .int (0 : Int32), .int (0 : Int32), .null, .null, .null, .null, .null, .null, .null, .null, .null, .null, .null, .int (0 : Int32), .null, .null, .null, .null, .int (0 : Int32), .int (0 : Int32), .null, .null, .null, .null, .null, .null, .int (0 : Int32), .null, .null, .int (0 : Int32), .null, .null, .null, .null, .null, .null, .null, .null, .null, .null, .null, .int (0 : Int32), .null, .null, .null, .int (0 : Int32), .int (0 : Int32), .int (0 : Int32), .int (0 : Int32), .null, .null, .null, .int (0 : Int32)])))
def hp_254 : pH := (184, 1618682, p_up hp_253.2.2 183 (.inl (0, 100, p_zero 0)))
def hp_255 : pH := (184, 1618682, p_up hp_254.2.2 151 (.inr (12, [.ref 152, .int (0 : Int32), .int (0 : Int32), .int (0 : Int32), .int (0 : Int32), .long (0 : Int64), .int (0 : Int32), .int (0 : Int32), .int (0 : Int32), .int (0 : Int32), .int (-2 : Int32), .int (0 : Int32), .int (0 : Int32), .ref 153, .ref 154, .ref 155, .int (0 : Int32), .ref 156, .int (0 : Int32), .ref 157, .ref 158, .ref 159, .ref 160, .ref 161, .ref 162, .int (0 : Int32), .int (0 : Int32), .int (0 : Int32), .int (0 : Int32), .int (0 : Int32), .ref 163, .int (0 : Int32), .int (0 : Int32), .ref 164, .ref 165, .ref 166, .ref 167, .ref 168, .ref 169, .ref 170, .ref 171, .ref 172, .ref 173, .ref 174, .ref 175, .ref 176, .ref 177, .ref 178, .ref 179, .ref 180, .ref 181, .ref 182, .ref 183, .null, .null, .null, .int (0 : Int32), .null, .int (0 : Int32), .int (0 : Int32), .int (0 : Int32), .null, .int (0 : Int32), .null, .int (0 : Int32), .null, .int (0 : Int32), .int (0 : Int32), .int (0 : Int32), .int (0 : Int32), .int (0 : Int32), .int (0 : Int32), .long (0 : Int64), .int (0 : Int32), .int (0 : Int32), .null, .int (0 : Int32), .null, .int (0 : Int32), .null, .null, .null, .null, .null, .null, .null, .null, .int (0 : Int32), .null, .null, .null, .null, .null, .null, .null, .null, .int (0 : Int32), .null, .int (0 : Int32), .int (0 : Int32), .int (0 : Int32), .int (0 : Int32), .int (0 : Int32), .int (0 : Int32), .null, .null, .null, .null, .null, .null, .null, .null, .null, .null, .null, .int (0 : Int32), .null, .null, .null, .null, .int (0 : Int32), .int (0 : Int32), .null, .null, .null, .null, .null, .null, .int (0 : Int32), .null, .null, .int (0 : Int32), .null, .null, .null, .null, .null, .null, .null, .null, .null, .null, .null, .int (0 : Int32), .null, .null, .null, .int (0 : Int32), .int (0 : Int32), .int (0 : Int32), .int (0 : Int32), .null, .null, .null, .int (0 : Int32)])))
def hp_256 : pH := (185, 1618694, p_up hp_255.2.2 184 (.inl (0, 12, p_zero 0)))
def hp_257 : pH := (185, 1618694, p_up hp_256.2.2 151 (.inr (12, [.ref 152, .int (0 : Int32), .int (0 : Int32), .int (0 : Int32), .int (0 : Int32), .long (0 : Int64), .int (0 : Int32), .int (0 : Int32), .int (0 : Int32), .int (0 : Int32), .int (-2 : Int32), .int (0 : Int32), .int (0 : Int32), .ref 153, .ref 154, .ref 155, .int (0 : Int32), .ref 156, .int (0 : Int32), .ref 157, .ref 158, .ref 159, .ref 160, .ref 161, .ref 162, .int (0 : Int32), .int (0 : Int32), .int (0 : Int32), .int (0 : Int32), .int (0 : Int32), .ref 163, .int (0 : Int32), .int (0 : Int32), .ref 164, .ref 165, .ref 166, .ref 167, .ref 168, .ref 169, .ref 170, .ref 171, .ref 172, .ref 173, .ref 174, .ref 175, .ref 176, .ref 177, .ref 178, .ref 179, .ref 180, .ref 181, .ref 182, .ref 183, .ref 184, .null, .null, .int (0 : Int32), .null, .int (0 : Int32), .int (0 : Int32), .int (0 : Int32), .null, .int (0 : Int32), .null, .int (0 : Int32), .null, .int (0 : Int32), .int (0 : Int32), .int (0 : Int32), .int (0 : Int32), .int (0 : Int32), .int (0 : Int32), .long (0 : Int64), .int (0 : Int32), .int (0 : Int32), .null, .int (0 : Int32), .null, .int (0 : Int32), .null, .null, .null, .null, .null, .null, .null, .null, .int (0 : Int32), .null, .null, .null, .null, .null, .null, .null, .null, .int (0 : Int32), .null, .int (0 : Int32), .int (0 : Int32), .int (0 : Int32), .int (0 : Int32), .int (0 : Int32), .int (0 : Int32), .null, .null, .null, .null, .null, .null, .null, .null, .null, .null, .null, .int (0 : Int32), .null, .null, .null, .null, .int (0 : Int32), .int (0 : Int32), .null, .null, .null, .null, .null, .null, .int (0 : Int32), .null, .null, .int (0 : Int32), .null, .null, .null, .null, .null, .null, .null, .null, .null, .null, .null, .int (0 : Int32), .null, .null, .null, .int (0 : Int32), .int (0 : Int32), .int (0 : Int32), .int (0 : Int32), .null, .null, .null, .int (0 : Int32)])))
def hp_258 : pH := (186, 1618706, p_up hp_257.2.2 185 (.inl (0, 12, p_zero 0)))
def hp_259 : pH := (186, 1618706, p_up hp_258.2.2 151 (.inr (12, [.ref 152, .int (0 : Int32), .int (0 : Int32), .int (0 : Int32), .int (0 : Int32), .long (0 : Int64), .int (0 : Int32), .int (0 : Int32), .int (0 : Int32), .int (0 : Int32), .int (-2 : Int32), .int (0 : Int32), .int (0 : Int32), .ref 153, .ref 154, .ref 155, .int (0 : Int32), .ref 156, .int (0 : Int32), .ref 157, .ref 158, .ref 159, .ref 160, .ref 161, .ref 162, .int (0 : Int32), .int (0 : Int32), .int (0 : Int32), .int (0 : Int32), .int (0 : Int32), .ref 163, .int (0 : Int32), .int (0 : Int32), .ref 164, .ref 165, .ref 166, .ref 167, .ref 168, .ref 169, .ref 170, .ref 171, .ref 172, .ref 173, .ref 174, .ref 175, .ref 176, .ref 177, .ref 178, .ref 179, .ref 180, .ref 181, .ref 182, .ref 183, .ref 184, .ref 185, .null, .int (0 : Int32), .null, .int (0 : Int32), .int (0 : Int32), .int (0 : Int32), .null, .int (0 : Int32), .null, .int (0 : Int32), .null, .int (0 : Int32), .int (0 : Int32), .int (0 : Int32), .int (0 : Int32), .int (0 : Int32), .int (0 : Int32), .long (0 : Int64), .int (0 : Int32), .int (0 : Int32), .null, .int (0 : Int32), .null, .int (0 : Int32), .null, .null, .null, .null, .null, .null, .null, .null, .int (0 : Int32), .null, .null, .null, .null, .null, .null, .null, .null, .int (0 : Int32), .null, .int (0 : Int32), .int (0 : Int32), .int (0 : Int32), .int (0 : Int32), .int (0 : Int32), .int (0 : Int32), .null, .null, .null, .null, .null, .null, .null, .null, .null, .null, .null, .int (0 : Int32), .null, .null, .null, .null, .int (0 : Int32), .int (0 : Int32), .null, .null, .null, .null, .null, .null, .int (0 : Int32), .null, .null, .int (0 : Int32), .null, .null, .null, .null, .null, .null, .null, .null, .null, .null, .null, .int (0 : Int32), .null, .null, .null, .int (0 : Int32), .int (0 : Int32), .int (0 : Int32), .int (0 : Int32), .null, .null, .null, .int (0 : Int32)])))
def hp_260 : pH := (187, 1618718, p_up hp_259.2.2 186 (.inl (0, 12, p_zero 0)))
def hp_261 : pH := (187, 1618718, p_up hp_260.2.2 151 (.inr (12, [.ref 152, .int (0 : Int32), .int (0 : Int32), .int (0 : Int32), .int (0 : Int32), .long (0 : Int64), .int (0 : Int32), .int (0 : Int32), .int (0 : Int32), .int (0 : Int32), .int (-2 : Int32), .int (0 : Int32), .int (0 : Int32), .ref 153, .ref 154, .ref 155, .int (0 : Int32), .ref 156, .int (0 : Int32), .ref 157, .ref 158, .ref 159, .ref 160, .ref 161, .ref 162, .int (0 : Int32), .int (0 : Int32), .int (0 : Int32), .int (0 : Int32), .int (0 : Int32), .ref 163, .int (0 : Int32), .int (0 : Int32), .ref 164, .ref 165, .ref 166, .ref 167, .ref 168, .ref 169, .ref 170, .ref 171, .ref 172, .ref 173, .ref 174, .ref 175, .ref 176, .ref 177, .ref 178, .ref 179, .ref 180, .ref 181, .ref 182, .ref 183, .ref 184, .ref 185, .ref 186, .int (0 : Int32), .null, .int (0 : Int32), .int (0 : Int32), .int (0 : Int32), .null, .int (0 : Int32), .null, .int (0 : Int32), .null, .int (0 : Int32), .int (0 : Int32), .int (0 : Int32), .int (0 : Int32), .int (0 : Int32), .int (0 : Int32), .long (0 : Int64), .int (0 : Int32), .int (0 : Int32), .null, .int (0 : Int32), .null, .int (0 : Int32), .null, .null, .null, .null, .null, .null, .null, .null, .int (0 : Int32), .null, .null, .null, .null, .null, .null, .null, .null, .int (0 : Int32), .null, .int (0 : Int32), .int (0 : Int32), .int (0 : Int32), .int (0 : Int32), .int (0 : Int32), .int (0 : Int32), .null, .null, .null, .null, .null, .null, .null, .null, .null, .null, .null, .int (0 : Int32), .null, .null, .null, .null, .int (0 : Int32), .int (0 : Int32), .null, .null, .null, .null, .null, .null, .int (0 : Int32), .null, .null, .int (0 : Int32), .null, .null, .null, .null, .null, .null, .null, .null, .null, .null, .null, .int (0 : Int32), .null, .null, .null, .int (0 : Int32), .int (0 : Int32), .int (0 : Int32), .int (0 : Int32), .null, .null, .null, .int (0 : Int32)])))
def hp_262 : pH := (188, 1618934, p_up hp_261.2.2 187 (.inl (0, 216, p_zero 0)))
def hp_263 : pH := (188, 1618934, p_up hp_262.2.2 151 (.inr (12, [.ref 152, .int (0 : Int32), .int (0 : Int32), .int (0 : Int32), .int (0 : Int32), .long (0 : Int64), .int (0 : Int32), .int (0 : Int32), .int (0 : Int32), .int (0 : Int32), .int (-2 : Int32), .int (0 : Int32), .int (0 : Int32), .ref 153, .ref 154, .ref 155, .int (0 : Int32), .ref 156, .int (0 : Int32), .ref 157, .ref 158, .ref 159, .ref 160, .ref 161, .ref 162, .int (0 : Int32), .int (0 : Int32), .int (0 : Int32), .int (0 : Int32), .int (0 : Int32), .ref 163, .int (0 : Int32), .int (0 : Int32), .ref 164, .ref 165, .ref 166, .ref 167, .ref 168, .ref 169, .ref 170, .ref 171, .ref 172, .ref 173, .ref 174, .ref 175, .ref 176, .ref 177, .ref 178, .ref 179, .ref 180, .ref 181, .ref 182, .ref 183, .ref 184, .ref 185, .ref 186, .int (0 : Int32), .ref 187, .int (0 : Int32), .int (0 : Int32), .int (0 : Int32), .null, .int (0 : Int32), .null, .int (0 : Int32), .null, .int (0 : Int32), .int (0 : Int32), .int (0 : Int32), .int (0 : Int32), .int (0 : Int32), .int (0 : Int32), .long (0 : Int64), .int (0 : Int32), .int (0 : Int32), .null, .int (0 : Int32), .null, .int (0 : Int32), .null, .null, .null, .null, .null, .null, .null, .null, .int (0 : Int32), .null, .null, .null, .null, .null, .null, .null, .null, .int (0 : Int32), .null, .int (0 : Int32), .int (0 : Int32), .int (0 : Int32), .int (0 : Int32), .int (0 : Int32), .int (0 : Int32), .null, .null, .null, .null, .null, .null, .null, .null, .null, .null, .null, .int (0 : Int32), .null, .null, .null, .null, .int (0 : Int32), .int (0 : Int32), .null, .null, .null, .null, .null, .null, .int (0 : Int32), .null, .null, .int (0 : Int32), .null, .null, .null, .null, .null, .null, .null, .null, .null, .null, .null, .int (0 : Int32), .null, .null, .null, .int (0 : Int32), .int (0 : Int32), .int (0 : Int32), .int (0 : Int32), .null, .null, .null, .int (0 : Int32)])))
def hp_264 : pH := (189, 1618938, p_up hp_263.2.2 188 (.inl (0, 4, p_zero 0)))
def hp_265 : pH := (189, 1618938, p_up hp_264.2.2 151 (.inr (12, [.ref 152, .int (0 : Int32), .int (0 : Int32), .int (0 : Int32), .int (0 : Int32), .long (0 : Int64), .int (0 : Int32), .int (0 : Int32), .int (0 : Int32), .int (0 : Int32), .int (-2 : Int32), .int (0 : Int32), .int (0 : Int32), .ref 153, .ref 154, .ref 155, .int (0 : Int32), .ref 156, .int (0 : Int32), .ref 157, .ref 158, .ref 159, .ref 160, .ref 161, .ref 162, .int (0 : Int32), .int (0 : Int32), .int (0 : Int32), .int (0 : Int32), .int (0 : Int32), .ref 163, .int (0 : Int32), .int (0 : Int32), .ref 164, .ref 165, .ref 166, .ref 167, .ref 168, .ref 169, .ref 170, .ref 171, .ref 172, .ref 173, .ref 174, .ref 175, .ref 176, .ref 177, .ref 178, .ref 179, .ref 180, .ref 181, .ref 182, .ref 183, .ref 184, .ref 185, .ref 186, .int (0 : Int32), .ref 187, .int (0 : Int32), .int (0 : Int32), .int (0 : Int32), .ref 188, .int (0 : Int32), .null, .int (0 : Int32), .null, .int (0 : Int32), .int (0 : Int32), .int (0 : Int32), .int (0 : Int32), .int (0 : Int32), .int (0 : Int32), .long (0 : Int64), .int (0 : Int32), .int (0 : Int32), .null, .int (0 : Int32), .null, .int (0 : Int32), .null, .null, .null, .null, .null, .null, .null, .null, .int (0 : Int32), .null, .null, .null, .null, .null, .null, .null, .null, .int (0 : Int32), .null, .int (0 : Int32), .int (0 : Int32), .int (0 : Int32), .int (0 : Int32), .int (0 : Int32), .int (0 : Int32), .null, .null, .null, .null, .null, .null, .null, .null, .null, .null, .null, .int (0 : Int32), .null, .null, .null, .null, .int (0 : Int32), .int (0 : Int32), .null, .null, .null, .null, .null, .null, .int (0 : Int32), .null, .null, .int (0 : Int32), .null, .null, .null, .null, .null, .null, .null, .null, .null, .null, .null, .int (0 : Int32), .null, .null, .null, .int (0 : Int32), .int (0 : Int32), .int (0 : Int32), .int (0 : Int32), .null, .null, .null, .int (0 : Int32)])))
def hp_266 : pH := (190, 1619358, p_up hp_265.2.2 189 (.inl (0, 420, p_zero 0)))
def hp_267 : pH := (190, 1619358, p_up hp_266.2.2 151 (.inr (12, [.ref 152, .int (0 : Int32), .int (0 : Int32), .int (0 : Int32), .int (0 : Int32), .long (0 : Int64), .int (0 : Int32), .int (0 : Int32), .int (0 : Int32), .int (0 : Int32), .int (-2 : Int32), .int (0 : Int32), .int (0 : Int32), .ref 153, .ref 154, .ref 155, .int (0 : Int32), .ref 156, .int (0 : Int32), .ref 157, .ref 158, .ref 159, .ref 160, .ref 161, .ref 162, .int (0 : Int32), .int (0 : Int32), .int (0 : Int32), .int (0 : Int32), .int (0 : Int32), .ref 163, .int (0 : Int32), .int (0 : Int32), .ref 164, .ref 165, .ref 166, .ref 167, .ref 168, .ref 169, .ref 170, .ref 171, .ref 172, .ref 173, .ref 174, .ref 175, .ref 176, .ref 177, .ref 178, .ref 179, .ref 180, .ref 181, .ref 182, .ref 183, .ref 184, .ref 185, .ref 186, .int (0 : Int32), .ref 187, .int (0 : Int32), .int (0 : Int32), .int (0 : Int32), .ref 188, .int (0 : Int32), .ref 189, .int (0 : Int32), .null, .int (0 : Int32), .int (0 : Int32), .int (0 : Int32), .int (0 : Int32), .int (0 : Int32), .int (0 : Int32), .long (0 : Int64), .int (0 : Int32), .int (0 : Int32), .null, .int (0 : Int32), .null, .int (0 : Int32), .null, .null, .null, .null, .null, .null, .null, .null, .int (0 : Int32), .null, .null, .null, .null, .null, .null, .null, .null, .int (0 : Int32), .null, .int (0 : Int32), .int (0 : Int32), .int (0 : Int32), .int (0 : Int32), .int (0 : Int32), .int (0 : Int32), .null, .null, .null, .null, .null, .null, .null, .null, .null, .null, .null, .int (0 : Int32), .null, .null, .null, .null, .int (0 : Int32), .int (0 : Int32), .null, .null, .null, .null, .null, .null, .int (0 : Int32), .null, .null, .int (0 : Int32), .null, .null, .null, .null, .null, .null, .null, .null, .null, .null, .null, .int (0 : Int32), .null, .null, .null, .int (0 : Int32), .int (0 : Int32), .int (0 : Int32), .int (0 : Int32), .null, .null, .null, .int (0 : Int32)])))
def hp_268 : pH := (191, 1619406, p_up hp_267.2.2 190 (.inl (0, 48, p_zero 0)))
def hp_269 : pH := (191, 1619406, p_up hp_268.2.2 151 (.inr (12, [.ref 152, .int (0 : Int32), .int (0 : Int32), .int (0 : Int32), .int (0 : Int32), .long (0 : Int64), .int (0 : Int32), .int (0 : Int32), .int (0 : Int32), .int (0 : Int32), .int (-2 : Int32), .int (0 : Int32), .int (0 : Int32), .ref 153, .ref 154, .ref 155, .int (0 : Int32), .ref 156, .int (0 : Int32), .ref 157, .ref 158, .ref 159, .ref 160, .ref 161, .ref 162, .int (0 : Int32), .int (0 : Int32), .int (0 : Int32), .int (0 : Int32), .int (0 : Int32), .ref 163, .int (0 : Int32), .int (0 : Int32), .ref 164, .ref 165, .ref 166, .ref 167, .ref 168, .ref 169, .ref 170, .ref 171, .ref 172, .ref 173, .ref 174, .ref 175, .ref 176, .ref 177, .ref 178, .ref 179, .ref 180, .ref 181, .ref 182, .ref 183, .ref 184, .ref 185, .ref 186, .int (0 : Int32), .ref 187, .int (0 : Int32), .int (0 : Int32), .int (0 : Int32), .ref 188, .int (0 : Int32), .ref 189, .int (0 : Int32), .ref 190, .int (0 : Int32), .int (0 : Int32), .int (0 : Int32), .int (0 : Int32), .int (0 : Int32), .int (0 : Int32), .long (0 : Int64), .int (0 : Int32), .int (0 : Int32), .null, .int (0 : Int32), .null, .int (0 : Int32), .null, .null, .null, .null, .null, .null, .null, .null, .int (0 : Int32), .null, .null, .null, .null, .null, .null, .null, .null, .int (0 : Int32), .null, .int (0 : Int32), .int (0 : Int32), .int (0 : Int32), .int (0 : Int32), .int (0 : Int32), .int (0 : Int32), .null, .null, .null, .null, .null, .null, .null, .null, .null, .null, .null, .int (0 : Int32), .null, .null, .null, .null, .int (0 : Int32), .int (0 : Int32), .null, .null, .null, .null, .null, .null, .int (0 : Int32), .null, .null, .int (0 : Int32), .null, .null, .null, .null, .null, .null, .null, .null, .null, .null, .null, .int (0 : Int32), .null, .null, .null, .int (0 : Int32), .int (0 : Int32), .int (0 : Int32), .int (0 : Int32), .null, .null, .null, .int (0 : Int32)])))
def hp_270 : pH := (192, 1619622, p_up hp_269.2.2 191 (.inl (0, 216, p_zero 0)))
def hp_271 : pH := (192, 1619622, p_up hp_270.2.2 151 (.inr (12, [.ref 152, .int (0 : Int32), .int (0 : Int32), .int (0 : Int32), .int (0 : Int32), .long (0 : Int64), .int (0 : Int32), .int (0 : Int32), .int (0 : Int32), .int (0 : Int32), .int (-2 : Int32), .int (0 : Int32), .int (0 : Int32), .ref 153, .ref 154, .ref 155, .int (0 : Int32), .ref 156, .int (0 : Int32), .ref 157, .ref 158, .ref 159, .ref 160, .ref 161, .ref 162, .int (0 : Int32), .int (0 : Int32), .int (0 : Int32), .int (0 : Int32), .int (0 : Int32), .ref 163, .int (0 : Int32), .int (0 : Int32), .ref 164, .ref 165, .ref 166, .ref 167, .ref 168, .ref 169, .ref 170, .ref 171, .ref 172, .ref 173, .ref 174, .ref 175, .ref 176, .ref 177, .ref 178, .ref 179, .ref 180, .ref 181, .ref 182, .ref 183, .ref 184, .ref 185, .ref 186, .int (0 : Int32), .ref 187, .int (0 : Int32), .int (0 : Int32), .int (0 : Int32), .ref 188, .int (0 : Int32), .ref 189, .int (0 : Int32), .ref 190, .int (0 : Int32), .int (0 : Int32), .int (0 : Int32), .int (0 : Int32), .int (0 : Int32), .int (0 : Int32), .long (0 : Int64), .int (0 : Int32), .int (0 : Int32), .ref 191, .int (0 : Int32), .null, .int (0 : Int32), .null, .null, .null, .null, .null, .null, .null, .null, .int (0 : Int32), .null, .null, .null, .null, .null, .null, .null, .null, .int (0 : Int32), .null, .int (0 : Int32), .int (0 : Int32), .int (0 : Int32), .int (0 : Int32), .int (0 : Int32), .int (0 : Int32), .null, .null, .null, .null, .null, .null, .null, .null, .null, .null, .null, .int (0 : Int32), .null, .null, .null, .null, .int (0 : Int32), .int (0 : Int32), .null, .null, .null, .null, .null, .null, .int (0 : Int32), .null, .null, .int (0 : Int32), .null, .null, .null, .null, .null, .null, .null, .null, .null, .null, .null, .int (0 : Int32), .null, .null, .null, .int (0 : Int32), .int (0 : Int32), .int (0 : Int32), .int (0 : Int32), .null, .null, .null, .int (0 : Int32)])))
def hp_272 : pH := (193, 1619626, p_up hp_271.2.2 192 (.inl (0, 4, p_zero 0)))
def hp_273 : pH := (193, 1619626, p_up hp_272.2.2 151 (.inr (12, [.ref 152, .int (0 : Int32), .int (0 : Int32), .int (0 : Int32), .int (0 : Int32), .long (0 : Int64), .int (0 : Int32), .int (0 : Int32), .int (0 : Int32), .int (0 : Int32), .int (-2 : Int32), .int (0 : Int32), .int (0 : Int32), .ref 153, .ref 154, .ref 155, .int (0 : Int32), .ref 156, .int (0 : Int32), .ref 157, .ref 158, .ref 159, .ref 160, .ref 161, .ref 162, .int (0 : Int32), .int (0 : Int32), .int (0 : Int32), .int (0 : Int32), .int (0 : Int32), .ref 163, .int (0 : Int32), .int (0 : Int32), .ref 164, .ref 165, .ref 166, .ref 167, .ref 168, .ref 169, .ref 170, .ref 171, .ref 172, .ref 173, .ref 174, .ref 175, .ref 176, .ref 177, .ref 178, .ref 179, .ref 180, .ref 181, .ref 182, .ref 183, .ref 184, .ref 185, .ref 186, .int (0 : Int32), .ref 187, .int (0 : Int32), .int (0 : Int32), .int (0 : Int32), .ref 188, .int (0 : Int32), .ref 189, .int (0 : Int32), .ref 190, .int (0 : Int32), .int (0 : Int32), .int (0 : Int32), .int (0 : Int32), .int (0 : Int32), .int (0 : Int32), .long (0 : Int64), .int (0 : Int32), .int (0 : Int32), .ref 191, .int (0 : Int32), .ref 192, .int (0 : Int32), .null, .null, .null, .null, .null, .null, .null, .null, .int (0 : Int32), .null, .null, .null, .null, .null, .null, .null, .null, .int (0 : Int32), .null, .int (0 : Int32), .int (0 : Int32), .int (0 : Int32), .int (0 : Int32), .int (0 : Int32), .int (0 : Int32), .null, .null, .null, .null, .null, .null, .null, .null, .null, .null, .null, .int (0 : Int32), .null, .null, .null, .null, .int (0 : Int32), .int (0 : Int32), .null, .null, .null, .null, .null, .null, .int (0 : Int32), .null, .null, .int (0 : Int32), .null, .null, .null, .null, .null, .null, .null, .null, .null, .null, .null, .int (0 : Int32), .null, .null, .null, .int (0 : Int32), .int (0 : Int32), .int (0 : Int32), .int (0 : Int32), .null, .null, .null, .int (0 : Int32)])))
def hp_274 : pH := (194, 1619826, p_up hp_273.2.2 193 (.inl (0, 200, p_zero 0)))
def hp_275 : pH := (194, 1619826, p_up hp_274.2.2 151 (.inr (12, [.ref 152, .int (0 : Int32), .int (0 : Int32), .int (0 : Int32), .int (0 : Int32), .long (0 : Int64), .int (0 : Int32), .int (0 : Int32), .int (0 : Int32), .int (0 : Int32), .int (-2 : Int32), .int (0 : Int32), .int (0 : Int32), .ref 153, .ref 154, .ref 155, .int (0 : Int32), .ref 156, .int (0 : Int32), .ref 157, .ref 158, .ref 159, .ref 160, .ref 161, .ref 162, .int (0 : Int32), .int (0 : Int32), .int (0 : Int32), .int (0 : Int32), .int (0 : Int32), .ref 163, .int (0 : Int32), .int (0 : Int32), .ref 164, .ref 165, .ref 166, .ref 167, .ref 168, .ref 169, .ref 170, .ref 171, .ref 172, .ref 173, .ref 174, .ref 175, .ref 176, .ref 177, .ref 178, .ref 179, .ref 180, .ref 181, .ref 182, .ref 183, .ref 184, .ref 185, .ref 186, .int (0 : Int32), .ref 187, .int (0 : Int32), .int (0 : Int32), .int (0 : Int32), .ref 188, .int (0 : Int32), .ref 189, .int (0 : Int32), .ref 190, .int (0 : Int32), .int (0 : Int32), .int (0 : Int32), .int (0 : Int32), .int (0 : Int32), .int (0 : Int32), .long (0 : Int64), .int (0 : Int32), .int (0 : Int32), .ref 191, .int (0 : Int32), .ref 192, .int (0 : Int32), .ref 193, .null, .null, .null, .null, .null, .null, .null, .int (0 : Int32), .null, .null, .null, .null, .null, .null, .null, .null, .int (0 : Int32), .null, .int (0 : Int32), .int (0 : Int32), .int (0 : Int32), .int (0 : Int32), .int (0 : Int32), .int (0 : Int32), .null, .null, .null, .null, .null, .null, .null, .null, .null, .null, .null, .int (0 : Int32), .null, .null, .null, .null, .int (0 : Int32), .int (0 : Int32), .null, .null, .null, .null, .null, .null, .int (0 : Int32), .null, .null, .int (0 : Int32), .null, .null, .null, .null, .null, .null, .null, .null, .null, .null, .null, .int (0 : Int32), .null, .null, .null, .int (0 : Int32), .int (0 : Int32), .int (0 : Int32), .int (0 : Int32), .null, .null, .null, .int (0 : Int32)])))
def hp_276 : pH := (195, 1620026, p_up hp_275.2.2 194 (.inl (0, 200, p_zero 0)))
def hp_277 : pH := (195, 1620026, p_up hp_276.2.2 151 (.inr (12, [.ref 152, .int (0 : Int32), .int (0 : Int32), .int (0 : Int32), .int (0 : Int32), .long (0 : Int64), .int (0 : Int32), .int (0 : Int32), .int (0 : Int32), .int (0 : Int32), .int (-2 : Int32), .int (0 : Int32), .int (0 : Int32), .ref 153, .ref 154, .ref 155, .int (0 : Int32), .ref 156, .int (0 : Int32), .ref 157, .ref 158, .ref 159, .ref 160, .ref 161, .ref 162, .int (0 : Int32), .int (0 : Int32), .int (0 : Int32), .int (0 : Int32), .int (0 : Int32), .ref 163, .int (0 : Int32), .int (0 : Int32), .ref 164, .ref 165, .ref 166, .ref 167, .ref 168, .ref 169, .ref 170, .ref 171, .ref 172, .ref 173, .ref 174, .ref 175, .ref 176, .ref 177, .ref 178, .ref 179, .ref 180, .ref 181, .ref 182, .ref 183, .ref 184, .ref 185, .ref 186, .int (0 : Int32), .ref 187, .int (0 : Int32), .int (0 : Int32), .int (0 : Int32), .ref 188, .int (0 : Int32), .ref 189, .int (0 : Int32), .ref 190, .int (0 : Int32), .int (0 : Int32), .int (0 : Int32), .int (0 : Int32), .int (0 : Int32), .int (0 : Int32), .long (0 : Int64), .int (0 : Int32), .int (0 : Int32), .ref 191, .int (0 : Int32), .ref 192, .int (0 : Int32), .ref 193, .ref 194, .null, .null, .null, .null, .null, .null, .int (0 : Int32), .null, .null, .null, .null, .null, .null, .null, .null, .int (0 : Int32), .null, .int (0 : Int32), .int (0 : Int32), .int (0 : Int32), .int (0 : Int32), .int (0 : Int32), .int (0 : Int32), .null, .null, .null, .null, .null, .null, .null, .null, .null, .null, .null, .int (0 : Int32), .null, .null, .null, .null, .int (0 : Int32), .int (0 : Int32), .null, .null, .null, .null, .null, .null, .int (0 : Int32), .null, .null, .int (0 : Int32), .null, .null, .null, .null, .null, .null, .null, .null, .null, .null, .null, .int (0 : Int32), .null, .null, .null, .int (0 : Int32), .int (0 : Int32), .int (0 : Int32), .int (0 : Int32), .null, .null, .null, .int (0 : Int32)])))
def hp_278 : pH := (196, 1620226, p_up hp_277.2.2 195 (.inl (0, 200, p_zero 0)))
def hp_279 : pH := (196, 1620226, p_up hp_278.2.2 151 (.inr (12, [.ref 152, .int (0 : Int32), .int (0 : Int32), .int (0 : Int32), .int (0 : Int32), .long (0 : Int64), .int (0 : Int32), .int (0 : Int32), .int (0 : Int32), .int (0 : Int32), .int (-2 : Int32), .int (0 : Int32), .int (0 : Int32), .ref 153, .ref 154, .ref 155, .int (0 : Int32), .ref 156, .int (0 : Int32), .ref 157, .ref 158, .ref 159, .ref 160, .ref 161, .ref 162, .int (0 : Int32), .int (0 : Int32), .int (0 : Int32), .int (0 : Int32), .int (0 : Int32), .ref 163, .int (0 : Int32), .int (0 : Int32), .ref 164, .ref 165, .ref 166, .ref 167, .ref 168, .ref 169, .ref 170, .ref 171, .ref 172, .ref 173, .ref 174, .ref 175, .ref 176, .ref 177, .ref 178, .ref 179, .ref 180, .ref 181, .ref 182, .ref 183, .ref 184, .ref 185, .ref 186, .int (0 : Int32), .ref 187, .int (0 : Int32), .int (0 : Int32), .int (0 : Int32), .ref 188, .int (0 : Int32), .ref 189, .int (0 : Int32), .ref 190, .int (0 : Int32), .int (0 : Int32), .int (0 : Int32), .int (0 : Int32), .int (0 : Int32), .int (0 : Int32), .long (0 : Int64), .int (0 : Int32), .int (0 : Int32), .ref 191, .int (0 : Int32), .ref 192, .int (0 : Int32), .ref 193, .ref 194, .ref 195, .null, .null, .null, .null, .null, .int (0 : Int32), .null, .null, .null, .null, .null, .null, .null, .null, .int (0 : Int32), .null, .int (0 : Int32), .int (0 : Int32), .int (0 : Int32), .int (0 : Int32), .int (0 : Int32), .int (0 : Int32), .null, .null, .null, .null, .null, .null, .null, .null, .null, .null, .null, .int (0 : Int32), .null, .null, .null, .null, .int (0 : Int32), .int (0 : Int32), .null, .null, .null, .null, .null, .null, .int (0 : Int32), .null, .null, .int (0 : Int32), .null, .null, .null, .null, .null, .null, .null, .null, .null, .null, .null, .int (0 : Int32), .null, .null, .null, .int (0 : Int32), .int (0 : Int32), .int (0 : Int32), .int (0 : Int32), .null, .null, .null, .int (0 : Int32)])))
def hp_280 : pH := (197, 1620426, p_up hp_279.2.2 196 (.inl (0, 200, p_zero 0)))
def hp_281 : pH := (197, 1620426, p_up hp_280.2.2 151 (.inr (12, [.ref 152, .int (0 : Int32), .int (0 : Int32), .int (0 : Int32), .int (0 : Int32), .long (0 : Int64), .int (0 : Int32), .int (0 : Int32), .int (0 : Int32), .int (0 : Int32), .int (-2 : Int32), .int (0 : Int32), .int (0 : Int32), .ref 153, .ref 154, .ref 155, .int (0 : Int32), .ref 156, .int (0 : Int32), .ref 157, .ref 158, .ref 159, .ref 160, .ref 161, .ref 162, .int (0 : Int32), .int (0 : Int32), .int (0 : Int32), .int (0 : Int32), .int (0 : Int32), .ref 163, .int (0 : Int32), .int (0 : Int32), .ref 164, .ref 165, .ref 166, .ref 167, .ref 168, .ref 169, .ref 170, .ref 171, .ref 172, .ref 173, .ref 174, .ref 175, .ref 176, .ref 177, .ref 178, .ref 179, .ref 180, .ref 181, .ref 182, .ref 183, .ref 184, .ref 185, .ref 186, .int (0 : Int32), .ref 187, .int (0 : Int32), .int (0 : Int32), .int (0 : Int32), .ref 188, .int (0 : Int32), .ref 189, .int (0 : Int32), .ref 190, .int (0 : Int32), .int (0 : Int32), .int (0 : Int32), .int (0 : Int32), .int (0 : Int32), .int (0 : Int32), .long (0 : Int64), .int (0 : Int32), .int (0 : Int32), .ref 191, .int (0 : Int32), .ref 192, .int (0 : Int32), .ref 193, .ref 194, .ref 195, .ref 196, .null, .null, .null, .null, .int (0 : Int32), .null, .null, .null, .null, .null, .null, .null, .null, .int (0 : Int32), .null, .int (0 : Int32), .int (0 : Int32), .int (0 : Int32), .int (0 : Int32), .int (0 : Int32), .int (0 : Int32), .null, .null, .null, .null, .null, .null, .null, .null, .null, .null, .null, .int (0 : Int32), .null, .null, .null, .null, .int (0 : Int32), .int (0 : Int32), .null, .null, .null, .null, .null, .null, .int (0 : Int32), .null, .null, .int (0 : Int32), .null, .null, .null, .null, .null, .null, .null, .null, .null, .null, .null, .int (0 : Int32), .null, .null, .null, .int (0 : Int32), .int (0 : Int32), .int (0 : Int32), .int (0 : Int32), .null, .null, .null, .int (0 : Int32)])))
def hp_282 : pH := (198, 1620626, p_up hp_281.2.2 197 (.inl (0, 200, p_zero 0)))
def hp_283 : pH := (198, 1620626, p_up hp_282.2.2 151 (.inr (12, [.ref 152, .int (0 : Int32), .int (0 : Int32), .int (0 : Int32), .int (0 : Int32), .long (0 : Int64), .int (0 : Int32), .int (0 : Int32), .int (0 : Int32), .int (0 : Int32), .int (-2 : Int32), .int (0 : Int32), .int (0 : Int32), .ref 153, .ref 154, .ref 155, .int (0 : Int32), .ref 156, .int (0 : Int32), .ref 157, .ref 158, .ref 159, .ref 160, .ref 161, .ref 162, .int (0 : Int32), .int (0 : Int32), .int (0 : Int32), .int (0 : Int32), .int (0 : Int32), .ref 163, .int (0 : Int32), .int (0 : Int32), .ref 164, .ref 165, .ref 166, .ref 167, .ref 168, .ref 169, .ref 170, .ref 171, .ref 172, .ref 173, .ref 174, .ref 175, .ref 176, .ref 177, .ref 178, .ref 179, .ref 180, .ref 181, .ref 182, .ref 183, .ref 184, .ref 185, .ref 186, .int (0 : Int32), .ref 187, .int (0 : Int32), .int (0 : Int32), .int (0 : Int32), .ref 188, .int (0 : Int32), .ref 189, .int (0 : Int32), .ref 190, .int (0 : Int32), .int (0 : Int32), .int (0 : Int32), .int (0 : Int32), .int (0 : Int32), .int (0 : Int32), .long (0 : Int64), .int (0 : Int32), .int (0 : Int32), .ref 191, .int (0 : Int32), .ref 192, .int (0 : Int32), .ref 193, .ref 194, .ref 195, .ref 196, .ref 197, .null, .null, .null, .int (0 : Int32), .null, .null, .null, .null, .null, .null, .null, .null, .int (0 : Int32), .null, .int (0 : Int32), .int (0 : Int32), .int (0 : Int32), .int (0 : Int32), .int (0 : Int32), .int (0 : Int32), .null, .null, .null, .null, .null, .null, .null, .null, .null, .null, .null, .int (0 : Int32), .null, .null, .null, .null, .int (0 : Int32), .int (0 : Int32), .null, .null, .null, .null, .null, .null, .int (0 : Int32), .null, .null, .int (0 : Int32), .null, .null, .null, .null, .null, .null, .null, .null, .null, .null, .null, .int (0 : Int32), .null, .null, .null, .int (0 : Int32), .int (0 : Int32), .int (0 : Int32), .int (0 : Int32), .null, .null, .null, .int (0 : Int32)])))
def hp_284 : pH := (199, 1620826, p_up hp_283.2.2 198 (.inl (0, 200, p_zero 0)))
def hp_285 : pH := (199, 1620826, p_up hp_284.2.2 151 (.inr (12, [.ref 152, .int (0 : Int32), .int (0 : Int32), .int (0 : Int32), .int (0 : Int32), .long (0 : Int64), .int (0 : Int32), .int (0 : Int32), .int (0 : Int32), .int (0 : Int32), .int (-2 : Int32), .int (0 : Int32), .int (0 : Int32), .ref 153, .ref 154, .ref 155, .int (0 : Int32), .ref 156, .int (0 : Int32), .ref 157, .ref 158, .ref 159, .ref 160, .ref 161, .ref 162, .int (0 : Int32), .int (0 : Int32), .int (0 : Int32), .int (0 : Int32), .int (0 : Int32), .ref 163, .int (0 : Int32), .int (0 : Int32), .ref 164, .ref 165, .ref 166, .ref 167, .ref 168, .ref 169, .ref 170, .ref 171, .ref 172, .ref 173, .ref 174, .ref 175, .ref 176, .ref 177, .ref 178, .ref 179, .ref 180, .ref 181, .ref 182, .ref 183, .ref 184, .ref 185, .ref 186, .int (0 : Int32), .ref 187, .int (0 : Int32), .int (0 : Int32), .int (0 : Int32), .ref 188, .int (0 : Int32), .ref 189, .int (0 : Int32), .ref 190, .int (0 : Int32), .int (0 : Int32), .int (0 : Int32), .int (0 : Int32), .int (0 : Int32), .int (0 : Int32), .long (0 : Int64), .int (0 : Int32), .int (0 : Int32), .ref 191, .int (0 : Int32), .ref 192, .int (0 : Int32), .ref 193, .ref 194, .ref 195, .ref 196, .ref 197, .ref 198, .null, .null, .int (0 : Int32), .null, .null, .null, .null, .null, .null, .null, .null, .int (0 : Int32), .null, .int (0 : Int32), .int (0 : Int32), .int (0 : Int32), .int (0 : Int32), .int (0 : Int32), .int (0 : Int32), .null, .null, .null, .null, .null, .null, .null, .null, .null, .null, .null, .int (0 : Int32), .null, .null, .null, .null, .int (0 : Int32), .int (0 : Int32), .null, .null, .null, .null, .null, .null, .int (0 : Int32), .null, .null, .int (0 : Int32), .null, .null, .null, .null, .null, .null, .null, .null, .null, .null, .null, .int (0 : Int32), .null, .null, .null, .int (0 : Int32), .int (0 : Int32), .int (0 : Int32), .int (0 : Int32), .null, .null, .null, .int (0 : Int32)])))
def hp_286 : pH := (200, 1621026, p_up hp_285.2.2 199 (.inl (1, 200, p_zero 1)))
def hp_287 : pH := (200, 1621026, p_up hp_286.2.2 151 (.inr (12, [.ref 152, .int (0 : Int32), .int (0 : Int32), .int (0 : Int32), .int (0 : Int32), .long (0 : Int64), .int (0 : Int32), .int (0 : Int32), .int (0 : Int32), .int (0 : Int32), .int (-2 : Int32), .int (0 : Int32), .int (0 : Int32), .ref 153, .ref 154, .ref 155, .int (0 : Int32), .ref 156, .int (0 : Int32), .ref 157, .ref 158, .ref 159, .ref 160, .ref 161, .ref 162, .int (0 : Int32), .int (0 : Int32), .int (0 : Int32), .int (0 : Int32), .int (0 : Int32), .ref 163, .int (0 : Int32), .int (0 : Int32), .ref 164, .ref 165, .ref 166, .ref 167, .ref 168, .ref 169, .ref 170, .ref 171, .ref 172, .ref 173, .ref 174, .ref 175, .ref 176, .ref 177, .ref 178, .ref 179, .ref 180, .ref 181, .ref 182, .ref 183, .ref 184, .ref 185, .ref 186, .int (0 : Int32), .ref 187, .int (0 : Int32), .int (0 : Int32), .int (0 : Int32), .ref 188, .int (0 : Int32), .ref 189, .int (0 : Int32), .ref 190, .int (0 : Int32), .int (0 : Int32), .int (0 : Int32), .int (0 : Int32), .int (0 : Int32), .int (0 : Int32), .long (0 : Int64), .int (0 : Int32), .int (0 : Int32), .ref 191, .int (0 : Int32), .ref 192, .int (0 : Int32), .ref 193, .ref 194, .ref 195, .ref 196, .ref 197, .ref 198, .ref 199, .null, .int (0 : Int32), .null, .null, .null, .null, .null, .null, .null, .null, .int (0 : Int32), .null, .int (0 : Int32), .int (0 : Int32), .int (0 : Int32), .int (0 : Int32), .int (0 : Int32), .int (0 : Int32), .null, .null, .null, .null, .null, .null, .null, .null, .null, .null, .null, .int (0 : Int32), .null, .null, .null, .null, .int (0 : Int32), .int (0 : Int32), .null, .null, .null, .null, .null, .null, .int (0 : Int32), .null, .null, .int (0 : Int32), .null, .null, .null, .null, .null, .null, .null, .null, .null, .null, .null, .int (0 : Int32), .null, .null, .null, .int (0 : Int32), .int (0 : Int32), .int (0 : Int32), .int (0 : Int32), .null, .null, .null, .int (0 : Int32)])))
def hp_288 : pH := (201, 1661026, p_up hp_287.2.2 200 (.inl (2, 40000, p_zero 2)))
def hp_289 : pH := (201, 1661026, p_up hp_288.2.2 151 (.inr (12, [.ref 152, .int (0 : Int32), .int (0 : Int32), .int (0 : Int32), .int (0 : Int32), .long (0 : Int64), .int (0 : Int32), .int (0 : Int32), .int (0 : Int32), .int (0 : Int32), .int (-2 : Int32), .int (0 : Int32), .int (0 : Int32), .ref 153, .ref 154, .ref 155, .int (0 : Int32), .ref 156, .int (0 : Int32), .ref 157, .ref 158, .ref 159, .ref 160, .ref 161, .ref 162, .int (0 : Int32), .int (0 : Int32), .int (0 : Int32), .int (0 : Int32), .int (0 : Int32), .ref 163, .int (0 : Int32), .int (0 : Int32), .ref 164, .ref 165, .ref 166, .ref 167, .ref 168, .ref 169, .ref 170, .ref 171, .ref 172, .ref 173, .ref 174, .ref 175, .ref 176, .ref 177, .ref 178, .ref 179, .ref 180, .ref 181, .ref 182, .ref 183, .ref 184, .ref 185, .ref 186, .int (0 : Int32), .ref 187, .int (0 : Int32), .int (0 : Int32), .int (0 : Int32), .ref 188, .int (0 : Int32), .ref 189, .int (0 : Int32), .ref 190, .int (0 : Int32), .int (0 : Int32), .int (0 : Int32), .int (0 : Int32), .int (0 : Int32), .int (0 : Int32), .long (0 : Int64), .int (0 : Int32), .int (0 : Int32), .ref 191, .int (0 : Int32), .ref 192, .int (0 : Int32), .ref 193, .ref 194, .ref 195, .ref 196, .ref 197, .ref 198, .ref 199, .ref 200, .int (0 : Int32), .null, .null, .null, .null, .null, .null, .null, .null, .int (0 : Int32), .null, .int (0 : Int32), .int (0 : Int32), .int (0 : Int32), .int (0 : Int32), .int (0 : Int32), .int (0 : Int32), .null, .null, .null, .null, .null, .null, .null, .null, .null, .null, .null, .int (0 : Int32), .null, .null, .null, .null, .int (0 : Int32), .int (0 : Int32), .null, .null, .null, .null, .null, .null, .int (0 : Int32), .null, .null, .int (0 : Int32), .null, .null, .null, .null, .null, .null, .null, .null, .null, .null, .null, .int (0 : Int32), .null, .null, .null, .int (0 : Int32), .int (0 : Int32), .int (0 : Int32), .int (0 : Int32), .null, .null, .null, .int (0 : Int32)])))
def hp_290 : pH := (202, 1661226, p_up hp_289.2.2 201 (.inl (0, 200, p_zero 0)))
def hp_291 : pH := (202, 1661226, p_up hp_290.2.2 151 (.inr (12, [.ref 152, .int (0 : Int32), .int (0 : Int32), .int (0 : Int32), .int (0 : Int32), .long (0 : Int64), .int (0 : Int32), .int (0 : Int32), .int (0 : Int32), .int (0 : Int32), .int (-2 : Int32), .int (0 : Int32), .int (0 : Int32), .ref 153, .ref 154, .ref 155, .int (0 : Int32), .ref 156, .int (0 : Int32), .ref 157, .ref 158, .ref 159, .ref 160, .ref 161, .ref 162, .int (0 : Int32), .int (0 : Int32), .int (0 : Int32), .int (0 : Int32), .int (0 : Int32), .ref 163, .int (0 : Int32), .int (0 : Int32), .ref 164, .ref 165, .ref 166, .ref 167, .ref 168, .ref 169, .ref 170, .ref 171, .ref 172, .ref 173, .ref 174, .ref 175, .ref 176, .ref 177, .ref 178, .ref 179, .ref 180, .ref 181, .ref 182, .ref 183, .ref 184, .ref 185, .ref 186, .int (0 : Int32), .ref 187, .int (0 : Int32), .int (0 : Int32), .int (0 : Int32), .ref 188, .int (0 : Int32), .ref 189, .int (0 : Int32), .ref 190, .int (0 : Int32), .int (0 : Int32), .int (0 : Int32), .int (0 : Int32), .int (0 : Int32), .int (0 : Int32), .long (0 : Int64), .int (0 : Int32), .int (0 : Int32), .ref 191, .int (0 : Int32), .ref 192, .int (0 : Int32), .ref 193, .ref 194, .ref 195, .ref 196, .ref 197, .ref 198, .ref 199, .ref 200, .int (0 : Int32), .ref 201, .null, .null, .null, .null, .null, .null, .null, .int (0 : Int32), .null, .int (0 : Int32), .int (0 : Int32), .int (0 : Int32), .int (0 : Int32), .int (0 : Int32), .int (0 : Int32), .null, .null, .null, .null, .null, .null, .null, .null, .null, .null, .null, .int (0 : Int32), .null, .null, .null, .null, .int (0 : Int32), .int (0 : Int32), .null, .null, .null, .null, .null, .null, .int (0 : Int32), .null, .null, .int (0 : Int32), .null, .null, .null, .null, .null, .null, .null, .null, .null, .null, .null, .int (0 : Int32), .null, .null, .null, .int (0 : Int32), .int (0 : Int32), .int (0 : Int32), .int (0 : Int32), .null, .null, .null, .int (0 : Int32)])))
def hp_292 : pH := (203, 1661426, p_up hp_291.2.2 202 (.inl (0, 200, p_zero 0)))
def hp_293 : pH := (203, 1661426, p_up hp_292.2.2 151 (.inr (12, [.ref 152, .int (0 : Int32), .int (0 : Int32), .int (0 : Int32), .int (0 : Int32), .long (0 : Int64), .int (0 : Int32), .int (0 : Int32), .int (0 : Int32), .int (0 : Int32), .int (-2 : Int32), .int (0 : Int32), .int (0 : Int32), .ref 153, .ref 154, .ref 155, .int (0 : Int32), .ref 156, .int (0 : Int32), .ref 157, .ref 158, .ref 159, .ref 160, .ref 161, .ref 162, .int (0 : Int32), .int (0 : Int32), .int (0 : Int32), .int (0 : Int32), .int (0 : Int32), .ref 163, .int (0 : Int32), .int (0 : Int32), .ref 164, .ref 165, .ref 166, .ref 167, .ref 168, .ref 169, .ref 170, .ref 171, .ref 172, .ref 173, .ref 174, .ref 175, .ref 176, .ref 177, .ref 178, .ref 179, .ref 180, .ref 181, .ref 182, .ref 183, .ref 184, .ref 185, .ref 186, .int (0 : Int32), .ref 187, .int (0 : Int32), .int (0 : Int32), .int (0 : Int32), .ref 188, .int (0 : Int32), .ref 189, .int (0 : Int32), .ref 190, .int (0 : Int32), .int (0 : Int32), .int (0 : Int32), .int (0 : Int32), .int (0 : Int32), .int (0 : Int32), .long (0 : Int64), .int (0 : Int32), .int (0 : Int32), .ref 191, .int (0 : Int32), .ref 192, .int (0 : Int32), .ref 193, .ref 194, .ref 195, .ref 196, .ref 197, .ref 198, .ref 199, .ref 200, .int (0 : Int32), .ref 201, .ref 202, .null, .null, .null, .null, .null, .null, .int (0 : Int32), .null, .int (0 : Int32), .int (0 : Int32), .int (0 : Int32), .int (0 : Int32), .int (0 : Int32), .int (0 : Int32), .null, .null, .null, .null, .null, .null, .null, .null, .null, .null, .null, .int (0 : Int32), .null, .null, .null, .null, .int (0 : Int32), .int (0 : Int32), .null, .null, .null, .null, .null, .null, .int (0 : Int32), .null, .null, .int (0 : Int32), .null, .null, .null, .null, .null, .null, .null, .null, .null, .null, .null, .int (0 : Int32), .null, .null, .null, .int (0 : Int32), .int (0 : Int32), .int (0 : Int32), .int (0 : Int32), .null, .null, .null, .int (0 : Int32)])))
def hp_294 : pH := (204, 1661626, p_up hp_293.2.2 203 (.inl (0, 200, p_zero 0)))
def hp_295 : pH := (204, 1661626, p_up hp_294.2.2 151 (.inr (12, [.ref 152, .int (0 : Int32), .int (0 : Int32), .int (0 : Int32), .int (0 : Int32), .long (0 : Int64), .int (0 : Int32), .int (0 : Int32), .int (0 : Int32), .int (0 : Int32), .int (-2 : Int32), .int (0 : Int32), .int (0 : Int32), .ref 153, .ref 154, .ref 155, .int (0 : Int32), .ref 156, .int (0 : Int32), .ref 157, .ref 158, .ref 159, .ref 160, .ref 161, .ref 162, .int (0 : Int32), .int (0 : Int32), .int (0 : Int32), .int (0 : Int32), .int (0 : Int32), .ref 163, .int (0 : Int32), .int (0 : Int32), .ref 164, .ref 165, .ref 166, .ref 167, .ref 168, .ref 169, .ref 170, .ref 171, .ref 172, .ref 173, .ref 174, .ref 175, .ref 176, .ref 177, .ref 178, .ref 179, .ref 180, .ref 181, .ref 182, .ref 183, .ref 184, .ref 185, .ref 186, .int (0 : Int32), .ref 187, .int (0 : Int32), .int (0 : Int32), .int (0 : Int32), .ref 188, .int (0 : Int32), .ref 189, .int (0 : Int32), .ref 190, .int (0 : Int32), .int (0 : Int32), .int (0 : Int32), .int (0 : Int32), .int (0 : Int32), .int (0 : Int32), .long (0 : Int64), .int (0 : Int32), .int (0 : Int32), .ref 191, .int (0 : Int32), .ref 192, .int (0 : Int32), .ref 193, .ref 194, .ref 195, .ref 196, .ref 197, .ref 198, .ref 199, .ref 200, .int (0 : Int32), .ref 201, .ref 202, .ref 203, .null, .null, .null, .null, .null, .int (0 : Int32), .null, .int (0 : Int32), .int (0 : Int32), .int (0 : Int32), .int (0 : Int32), .int (0 : Int32), .int (0 : Int32), .null, .null, .null, .null, .null, .null, .null, .null, .null, .null, .null, .int (0 : Int32), .null, .null, .null, .null, .int (0 : Int32), .int (0 : Int32), .null, .null, .null, .null, .null, .null, .int (0 : Int32), .null, .null, .int (0 : Int32), .null, .null, .null, .null, .null, .null, .null, .null, .null, .null, .null, .int (0 : Int32), .null, .null, .null, .int (0 : Int32), .int (0 : Int32), .int (0 : Int32), .int (0 : Int32), .null, .null, .null, .int (0 : Int32)])))
def hp_296 : pH := (205, 1661826, p_up hp_295.2.2 204 (.inl (0, 200, p_zero 0)))
def hp_297 : pH := (205, 1661826, p_up hp_296.2.2 151 (.inr (12, [.ref 152, .int (0 : Int32), .int (0 : Int32), .int (0 : Int32), .int (0 : Int32), .long (0 : Int64), .int (0 : Int32), .int (0 : Int32), .int (0 : Int32), .int (0 : Int32), .int (-2 : Int32), .int (0 : Int32), .int (0 : Int32), .ref 153, .ref 154, .ref 155, .int (0 : Int32), .ref 156, .int (0 : Int32), .ref 157, .ref 158, .ref 159, .ref 160, .ref 161, .ref 162, .int (0 : Int32), .int (0 : Int32), .int (0 : Int32), .int (0 : Int32), .int (0 : Int32), .ref 163, .int (0 : Int32), .int (0 : Int32), .ref 164, .ref 165, .ref 166, .ref 167, .ref 168, .ref 169, .ref 170, .ref 171, .ref 172, .ref 173, .ref 174, .ref 175, .ref 176, .ref 177, .ref 178, .ref 179, .ref 180, .ref 181, .ref 182, .ref 183, .ref 184, .ref 185, .ref 186, .int (0 : Int32), .ref 187, .int (0 : Int32), .int (0 : Int32), .int (0 : Int32), .ref 188, .int (0 : Int32), .ref 189, .int (0 : Int32), .ref 190, .int (0 : Int32), .int (0 : Int32), .int (0 : Int32), .int (0 : Int32), .int (0 : Int32), .int (0 : Int32), .long (0 : Int64), .int (0 : Int32), .int (0 : Int32), .ref 191, .int (0 : Int32), .ref 192, .int (0 : Int32), .ref 193, .ref 194, .ref 195, .ref 196, .ref 197, .ref 198, .ref 199, .ref 200, .int (0 : Int32), .ref 201, .ref 202, .ref 203, .ref 204, .null, .null, .null, .null, .int (0 : Int32), .null, .int (0 : Int32), .int (0 : Int32), .int (0 : Int32), .int (0 : Int32), .int (0 : Int32), .int (0 : Int32), .null, .null, .null, .null, .null, .null, .null, .null, .null, .null, .null, .int (0 : Int32), .null, .null, .null, .null, .int (0 : Int32), .int (0 : Int32), .null, .null, .null, .null, .null, .null, .int (0 : Int32), .null, .null, .int (0 : Int32), .null, .null, .null, .null, .null, .null, .null, .null, .null, .null, .null, .int (0 : Int32), .null, .null, .null, .int (0 : Int32), .int (0 : Int32), .int (0 : Int32), .int (0 : Int32), .null, .null, .null, .int (0 : Int32)])))
def hp_298 : pH := (206, 1662026, p_up hp_297.2.2 205 (.inl (0, 200, p_zero 0)))
def hp_299 : pH := (206, 1662026, p_up hp_298.2.2 151 (.inr (12, [.ref 152, .int (0 : Int32), .int (0 : Int32), .int (0 : Int32), .int (0 : Int32), .long (0 : Int64), .int (0 : Int32), .int (0 : Int32), .int (0 : Int32), .int (0 : Int32), .int (-2 : Int32), .int (0 : Int32), .int (0 : Int32), .ref 153, .ref 154, .ref 155, .int (0 : Int32), .ref 156, .int (0 : Int32), .ref 157, .ref 158, .ref 159, .ref 160, .ref 161, .ref 162, .int (0 : Int32), .int (0 : Int32), .int (0 : Int32), .int (0 : Int32), .int (0 : Int32), .ref 163, .int (0 : Int32), .int (0 : Int32), .ref 164, .ref 165, .ref 166, .ref 167, .ref 168, .ref 169, .ref 170, .ref 171, .ref 172, .ref 173, .ref 174, .ref 175, .ref 176, .ref 177, .ref 178, .ref 179, .ref 180, .ref 181, .ref 182, .ref 183, .ref 184, .ref 185, .ref 186, .int (0 : Int32), .ref 187, .int (0 : Int32), .int (0 : Int32), .int (0 : Int32), .ref 188, .int (0 : Int32), .ref 189, .int (0 : Int32), .ref 190, .int (0 : Int32), .int (0 : Int32), .int (0 : Int32), .int (0 : Int32), .int (0 : Int32), .int (0 : Int32), .long (0 : Int64), .int (0 : Int32), .int (0 : Int32), .ref 191, .int (0 : Int32), .ref 192, .int (0 : Int32), .ref 193, .ref 194, .ref 195, .ref 196, .ref 197, .ref 198, .ref 199, .ref 200, .int (0 : Int32), .ref 201, .ref 202, .ref 203, .ref 204, .ref 205, .null, .null, .null, .int (0 : Int32), .null, .int (0 : Int32), .int (0 : Int32), .int (0 : Int32), .int (0 : Int32), .int (0 : Int32), .int (0 : Int32), .null, .null, .null, .null, .null, .null, .null, .null, .null, .null, .null, .int (0 : Int32), .null, .null, .null, .null, .int (0 : Int32), .int (0 : Int32), .null, .null, .null, .null, .null, .null, .int (0 : Int32), .null, .null, .int (0 : Int32), .null, .null, .null, .null, .null, .null, .null, .null, .null, .null, .null, .int (0 : Int32), .null, .null, .null, .int (0 : Int32), .int (0 : Int32), .int (0 : Int32), .int (0 : Int32), .null, .null, .null, .int (0 : Int32)])))
def hp_300 : pH := (207, 1662030, p_up hp_299.2.2 206 (.inl (0, 4, p_zero 0)))
def hp_301 : pH := (207, 1662030, p_up hp_300.2.2 151 (.inr (12, [.ref 152, .int (0 : Int32), .int (0 : Int32), .int (0 : Int32), .int (0 : Int32), .long (0 : Int64), .int (0 : Int32), .int (0 : Int32), .int (0 : Int32), .int (0 : Int32), .int (-2 : Int32), .int (0 : Int32), .int (0 : Int32), .ref 153, .ref 154, .ref 155, .int (0 : Int32), .ref 156, .int (0 : Int32), .ref 157, .ref 158, .ref 159, .ref 160, .ref 161, .ref 162, .int (0 : Int32), .int (0 : Int32), .int (0 : Int32), .int (0 : Int32), .int (0 : Int32), .ref 163, .int (0 : Int32), .int (0 : Int32), .ref 164, .ref 165, .ref 166, .ref 167, .ref 168, .ref 169, .ref 170, .ref 171, .ref 172, .ref 173, .ref 174, .ref 175, .ref 176, .ref 177, .ref 178, .ref 179, .ref 180, .ref 181, .ref 182, .ref 183, .ref 184, .ref 185, .ref 186, .int (0 : Int32), .ref 187, .int (0 : Int32), .int (0 : Int32), .int (0 : Int32), .ref 188, .int (0 : Int32), .ref 189, .int (0 : Int32), .ref 190, .int (0 : Int32), .int (0 : Int32), .int (0 : Int32), .int (0 : Int32), .int (0 : Int32), .int (0 : Int32), .long (0 : Int64), .int (0 : Int32), .int (0 : Int32), .ref 191, .int (0 : Int32), .ref 192, .int (0 : Int32), .ref 193, .ref 194, .ref 195, .ref 196, .ref 197, .ref 198, .ref 199, .ref 200, .int (0 : Int32), .ref 201, .ref 202, .ref 203, .ref 204, .ref 205, .ref 206, .null, .null, .int (0 : Int32), .null, .int (0 : Int32), .int (0 : Int32), .int (0 : Int32), .int (0 : Int32), .int (0 : Int32), .int (0 : Int32), .null, .null, .null, .null, .null, .null, .null, .null, .null, .null, .null, .int (0 : Int32), .null, .null, .null, .null, .int (0 : Int32), .int (0 : Int32), .null, .null, .null, .null, .null, .null, .int (0 : Int32), .null, .null, .int (0 : Int32), .null, .null, .null, .null, .null, .null, .null, .null, .null, .null, .null, .int (0 : Int32), .null, .null, .null, .int (0 : Int32), .int (0 : Int32), .int (0 : Int32), .int (0 : Int32), .null, .null, .null, .int (0 : Int32)])))
def hp_302 : pH := (208, 1662043, p_up hp_301.2.2 207 (.inl (0, 13, p_zero 0)))
def hp_303 : pH := (208, 1662043, p_up hp_302.2.2 151 (.inr (12, [.ref 152, .int (0 : Int32), .int (0 : Int32), .int (0 : Int32), .int (0 : Int32), .long (0 : Int64), .int (0 : Int32), .int (0 : Int32), .int (0 : Int32), .int (0 : Int32), .int (-2 : Int32), .int (0 : Int32), .int (0 : Int32), .ref 153, .ref 154, .ref 155, .int (0 : Int32), .ref 156, .int (0 : Int32), .ref 157, .ref 158, .ref 159, .ref 160, .ref 161, .ref 162, .int (0 : Int32), .int (0 : Int32), .int (0 : Int32), .int (0 : Int32), .int (0 : Int32), .ref 163, .int (0 : Int32), .int (0 : Int32), .ref 164, .ref 165, .ref 166, .ref 167, .ref 168, .ref 169, .ref 170, .ref 171, .ref 172, .ref 173, .ref 174, .ref 175, .ref 176, .ref 177, .ref 178, .ref 179, .ref 180, .ref 181, .ref 182, .ref 183, .ref 184, .ref 185, .ref 186, .int (0 : Int32), .ref 187, .int (0 : Int32), .int (0 : Int32), .int (0 : Int32), .ref 188, .int (0 : Int32), .ref 189, .int (0 : Int32), .ref 190, .int (0 : Int32), .int (0 : Int32), .int (0 : Int32), .int (0 : Int32), .int (0 : Int32), .int (0 : Int32), .long (0 : Int64), .int (0 : Int32), .int (0 : Int32), .ref 191, .int (0 : Int32), .ref 192, .int (0 : Int32), .ref 193, .ref 194, .ref 195, .ref 196, .ref 197, .ref 198, .ref 199, .ref 200, .int (0 : Int32), .ref 201, .ref 202, .ref 203, .ref 204, .ref 205, .ref 206, .ref 207, .null, .int (0 : Int32), .null, .int (0 : Int32), .int (0 : Int32), .int (0 : Int32), .int (0 : Int32), .int (0 : Int32), .int (0 : Int32), .null, .null, .null, .null, .null, .null, .null, .null, .null, .null, .null, .int (0 : Int32), .null, .null, .null, .null, .int (0 : Int32), .int (0 : Int32), .null, .null, .null, .null, .null, .null, .int (0 : Int32), .null, .null, .int (0 : Int32), .null, .null, .null, .null, .null, .null, .null, .null, .null, .null, .null, .int (0 : Int32), .null, .null, .null, .int (0 : Int32), .int (0 : Int32), .int (0 : Int32), .int (0 : Int32), .null, .null, .null, .int (0 : Int32)])))
def hp_304 : pH := (209, 1662055, p_up hp_303.2.2 208 (.inl (0, 12, p_zero 0)))
def hp_305 : pH := (209, 1662055, p_up hp_304.2.2 151 (.inr (12, [.ref 152, .int (0 : Int32), .int (0 : Int32), .int (0 : Int32), .int (0 : Int32), .long (0 : Int64), .int (0 : Int32), .int (0 : Int32), .int (0 : Int32), .int (0 : Int32), .int (-2 : Int32), .int (0 : Int32), .int (0 : Int32), .ref 153, .ref 154, .ref 155, .int (0 : Int32), .ref 156, .int (0 : Int32), .ref 157, .ref 158, .ref 159, .ref 160, .ref 161, .ref 162, .int (0 : Int32), .int (0 : Int32), .int (0 : Int32), .int (0 : Int32), .int (0 : Int32), .ref 163, .int (0 : Int32), .int (0 : Int32), .ref 164, .ref 165, .ref 166, .ref 167, .ref 168, .ref 169, .ref 170, .ref 171, .ref 172, .ref 173, .ref 174, .ref 175, .ref 176, .ref 177, .ref 178, .ref 179, .ref 180, .ref 181, .ref 182, .ref 183, .ref 184, .ref 185, .ref 186, .int (0 : Int32), .ref 187, .int (0 : Int32), .int (0 : Int32), .int (0 : Int32), .ref 188, .int (0 : Int32), .ref 189, .int (0 : Int32), .ref 190, .int (0 : Int32), .int (0 : Int32), .int (0 : Int32), .int (0 : Int32), .int (0 : Int32), .int (0 : Int32), .long (0 : Int64), .int (0 : Int32), .int (0 : Int32), .ref 191, .int (0 : Int32), .ref 192, .int (0 : Int32), .ref 193, .ref 194, .ref 195, .ref 196, .ref 197, .ref 198, .ref 199, .ref 200, .int (0 : Int32), .ref 201, .ref 202, .ref 203, .ref 204, .ref 205, .ref 206, .ref 207, .ref 208, .int (0 : Int32), .null, .int (0 : Int32), .int (0 : Int32), .int (0 : Int32), .int (0 : Int32), .int (0 : Int32), .int (0 : Int32), .null, .null, .null, .null, .null, .null, .null, .null, .null, .null, .null, .int (0 : Int32), .null, .null, .null, .null, .int (0 : Int32), .int (0 : Int32), .null, .null, .null, .null, .null, .null, .int (0 : Int32), .null, .null, .int (0 : Int32), .null, .null, .null, .null, .null, .null, .null, .null, .null, .null, .null, .int (0 : Int32), .null, .null, .null, .int (0 : Int32), .int (0 : Int32), .int (0 : Int32), .int (0 : Int32), .null, .null, .null, .int (0 : Int32)])))
def hp_306 : pH := (210, 1662071, p_up hp_305.2.2 209 (.inl (0, 16, p_zero 0)))
def hp_307 : pH := (210, 1662071, p_up hp_306.2.2 151 (.inr (12, [.ref 152, .int (0 : Int32), .int (0 : Int32), .int (0 : Int32), .int (0 : Int32), .long (0 : Int64), .int (0 : Int32), .int (0 : Int32), .int (0 : Int32), .int (0 : Int32), .int (-2 : Int32), .int (0 : Int32), .int (0 : Int32), .ref 153, .ref 154, .ref 155, .int (0 : Int32), .ref 156, .int (0 : Int32), .ref 157, .ref 158, .ref 159, .ref 160, .ref 161, .ref 162, .int (0 : Int32), .int (0 : Int32), .int (0 : Int32), .int (0 : Int32), .int (0 : Int32), .ref 163, .int (0 : Int32), .int (0 : Int32), .ref 164, .ref 165, .ref 166, .ref 167, .ref 168, .ref 169, .ref 170, .ref 171, .ref 172, .ref 173, .ref 174, .ref 175, .ref 176, .ref 177, .ref 178, .ref 179, .ref 180, .ref 181, .ref 182, .ref 183, .ref 184, .ref 185, .ref 186, .int (0 : Int32), .ref 187, .int (0 : Int32), .int (0 : Int32), .int (0 : Int32), .ref 188, .int (0 : Int32), .ref 189, .int (0 : Int32), .ref 190, .int (0 : Int32), .int (0 : Int32), .int (0 : Int32), .int (0 : Int32), .int (0 : Int32), .int (0 : Int32), .long (0 : Int64), .int (0 : Int32), .int (0 : Int32), .ref 191, .int (0 : Int32), .ref 192, .int (0 : Int32), .ref 193, .ref 194, .ref 195, .ref 196, .ref 197, .ref 198, .ref 199, .ref 200, .int (0 : Int32), .ref 201, .ref 202, .ref 203, .ref 204, .ref 205, .ref 206, .ref 207, .ref 208, .int (0 : Int32), .ref 209, .int (0 : Int32), .int (0 : Int32), .int (0 : Int32), .int (0 : Int32), .int (0 : Int32), .int (0 : Int32), .null, .null, .null, .null, .null, .null, .null, .null, .null, .null, .null, .int (0 : Int32), .null, .null, .null, .null, .int (0 : Int32), .int (0 : Int32), .null, .null, .null, .null, .null, .null, .int (0 : Int32), .null, .null, .int (0 : Int32), .null, .null, .null, .null, .null, .null, .null, .null, .null, .null, .null, .int (0 : Int32), .null, .null, .null, .int (0 : Int32), .int (0 : Int32), .int (0 : Int32), .int (0 : Int32), .null, .null, .null, .int (0 : Int32)])))
def hp_308 : pH := (211, 3272071, p_up hp_307.2.2 210 (.inl (0, 1610000, p_zero 0)))
def hp_309 : pH := (211, 3272071, p_up hp_308.2.2 151 (.inr (12, [.ref 152, .int (0 : Int32), .int (0 : Int32), .int (0 : Int32), .int (0 : Int32), .long (0 : Int64), .int (0 : Int32), .int (0 : Int32), .int (0 : Int32), .int (0 : Int32), .int (-2 : Int32), .int (0 : Int32), .int (0 : Int32), .ref 153, .ref 154, .ref 155, .int (0 : Int32), .ref 156, .int (0 : Int32), .ref 157, .ref 158, .ref 159, .ref 160, .ref 161, .ref 162, .int (0 : Int32), .int (0 : Int32), .int (0 : Int32), .int (0 : Int32), .int (0 : Int32), .ref 163, .int (0 : Int32), .int (0 : Int32), .ref 164, .ref 165, .ref 166, .ref 167, .ref 168, .ref 169, .ref 170, .ref 171, .ref 172, .ref 173, .ref 174, .ref 175, .ref 176, .ref 177, .ref 178, .ref 179, .ref 180, .ref 181, .ref 182, .ref 183, .ref 184, .ref 185, .ref 186, .int (0 : Int32), .ref 187, .int (0 : Int32), .int (0 : Int32), .int (0 : Int32), .ref 188, .int (0 : Int32), .ref 189, .int (0 : Int32), .ref 190, .int (0 : Int32), .int (0 : Int32), .int (0 : Int32), .int (0 : Int32), .int (0 : Int32), .int (0 : Int32), .long (0 : Int64), .int (0 : Int32), .int (0 : Int32), .ref 191, .int (0 : Int32), .ref 192, .int (0 : Int32), .ref 193, .ref 194, .ref 195, .ref 196, .ref 197, .ref 198, .ref 199, .ref 200, .int (0 : Int32), .ref 201, .ref 202, .ref 203, .ref 204, .ref 205, .ref 206, .ref 207, .ref 208, .int (0 : Int32), .ref 209, .int (0 : Int32), .int (0 : Int32), .int (0 : Int32), .int (0 : Int32), .int (0 : Int32), .int (0 : Int32), .ref 210, .null, .null, .null, .null, .null, .null, .null, .null, .null, .null, .int (0 : Int32), .null, .null, .null, .null, .int (0 : Int32), .int (0 : Int32), .null, .null, .null, .null, .null, .null, .int (0 : Int32), .null, .null, .int (0 : Int32), .null, .null, .null, .null, .null, .null, .null, .null, .null, .null, .null, .int (0 : Int32), .null, .null, .null, .int (0 : Int32), .int (0 : Int32), .int (0 : Int32), .int (0 : Int32), .null, .null, .null, .int (0 : Int32)])))
def hp_310 : pH := (212, 3337607, p_up hp_309.2.2 211 (.inl (0, 65536, p_zero 0)))
def hp_311 : pH := (212, 3337607, p_up hp_310.2.2 151 (.inr (12, [.ref 152, .int (0 : Int32), .int (0 : Int32), .int (0 : Int32), .int (0 : Int32), .long (0 : Int64), .int (0 : Int32), .int (0 : Int32), .int (0 : Int32), .int (0 : Int32), .int (-2 : Int32), .int (0 : Int32), .int (0 : Int32), .ref 153, .ref 154, .ref 155, .int (0 : Int32), .ref 156, .int (0 : Int32), .ref 157, .ref 158, .ref 159, .ref 160, .ref 161, .ref 162, .int (0 : Int32), .int (0 : Int32), .int (0 : Int32), .int (0 : Int32), .int (0 : Int32), .ref 163, .int (0 : Int32), .int (0 : Int32), .ref 164, .ref 165, .ref 166, .ref 167, .ref 168, .ref 169, .ref 170, .ref 171, .ref 172, .ref 173, .ref 174, .ref 175, .ref 176, .ref 177, .ref 178, .ref 179, .ref 180, .ref 181, .ref 182, .ref 183, .ref 184, .ref 185, .ref 186, .int (0 : Int32), .ref 187, .int (0 : Int32), .int (0 : Int32), .int (0 : Int32), .ref 188, .int (0 : Int32), .ref 189, .int (0 : Int32), .ref 190, .int (0 : Int32), .int (0 : Int32), .int (0 : Int32), .int (0 : Int32), .int (0 : Int32), .int (0 : Int32), .long (0 : Int64), .int (0 : Int32), .int (0 : Int32), .ref 191, .int (0 : Int32), .ref 192, .int (0 : Int32), .ref 193, .ref 194, .ref 195, .ref 196, .ref 197, .ref 198, .ref 199, .ref 200, .int (0 : Int32), .ref 201, .ref 202, .ref 203, .ref 204, .ref 205, .ref 206, .ref 207, .ref 208, .int (0 : Int32), .ref 209, .int (0 : Int32), .int (0 : Int32), .int (0 : Int32), .int (0 : Int32), .int (0 : Int32), .int (0 : Int32), .ref 210, .ref 211, .null, .null, .null, .null, .null, .null, .null, .null, .null, .int (0 : Int32), .null, .null, .null, .null, .int (0 : Int32), .int (0 : Int32), .null, .null, .null, .null, .null, .null, .int (0 : Int32), .null, .null, .int (0 : Int32), .null, .null, .null, .null, .null, .null, .null, .null, .null, .null, .null, .int (0 : Int32), .null, .null, .null, .int (0 : Int32), .int (0 : Int32), .int (0 : Int32), .int (0 : Int32), .null, .null, .null, .int (0 : Int32)])))
def hp_312 : pH := (213, 3357608, p_up hp_311.2.2 212 (.inl (0, 20001, p_zero 0)))
def hp_313 : pH := (213, 3357608, p_up hp_312.2.2 151 (.inr (12, [.ref 152, .int (0 : Int32), .int (0 : Int32), .int (0 : Int32), .int (0 : Int32), .long (0 : Int64), .int (0 : Int32), .int (0 : Int32), .int (0 : Int32), .int (0 : Int32), .int (-2 : Int32), .int (0 : Int32), .int (0 : Int32), .ref 153, .ref 154, .ref 155, .int (0 : Int32), .ref 156, .int (0 : Int32), .ref 157, .ref 158, .ref 159, .ref 160, .ref 161, .ref 162, .int (0 : Int32), .int (0 : Int32), .int (0 : Int32), .int (0 : Int32), .int (0 : Int32), .ref 163, .int (0 : Int32), .int (0 : Int32), .ref 164, .ref 165, .ref 166, .ref 167, .ref 168, .ref 169, .ref 170, .ref 171, .ref 172, .ref 173, .ref 174, .ref 175, .ref 176, .ref 177, .ref 178, .ref 179, .ref 180, .ref 181, .ref 182, .ref 183, .ref 184, .ref 185, .ref 186, .int (0 : Int32), .ref 187, .int (0 : Int32), .int (0 : Int32), .int (0 : Int32), .ref 188, .int (0 : Int32), .ref 189, .int (0 : Int32), .ref 190, .int (0 : Int32), .int (0 : Int32), .int (0 : Int32), .int (0 : Int32), .int (0 : Int32), .int (0 : Int32), .long (0 : Int64), .int (0 : Int32), .int (0 : Int32), .ref 191, .int (0 : Int32), .ref 192, .int (0 : Int32), .ref 193, .ref 194, .ref 195, .ref 196, .ref 197, .ref 198, .ref 199, .ref 200, .int (0 : Int32), .ref 201, .ref 202, .ref 203, .ref 204, .ref 205, .ref 206, .ref 207, .ref 208, .int (0 : Int32), .ref 209, .int (0 : Int32), .int (0 : Int32), .int (0 : Int32), .int (0 : Int32), .int (0 : Int32), .int (0 : Int32), .ref 210, .ref 211, .ref 212, .null, .null, .null, .null, .null, .null, .null, .null, .int (0 : Int32), .null, .null, .null, .null, .int (0 : Int32), .int (0 : Int32), .null, .null, .null, .null, .null, .null, .int (0 : Int32), .null, .null, .int (0 : Int32), .null, .null, .null, .null, .null, .null, .null, .null, .null, .null, .null, .int (0 : Int32), .null, .null, .null, .int (0 : Int32), .int (0 : Int32), .int (0 : Int32), .int (0 : Int32), .null, .null, .null, .int (0 : Int32)])))
def hp_314 : pH := (214, 3377609, p_up hp_313.2.2 213 (.inl (0, 20001, p_zero 0)))
def hp_315 : pH := (214, 3377609, p_up hp_314.2.2 151 (.inr (12, [.ref 152, .int (0 : Int32), .int (0 : Int32), .int (0 : Int32), .int (0 : Int32), .long (0 : Int64), .int (0 : Int32), .int (0 : Int32), .int (0 : Int32), .int (0 : Int32), .int (-2 : Int32), .int (0 : Int32), .int (0 : Int32), .ref 153, .ref 154, .ref 155, .int (0 : Int32), .ref 156, .int (0 : Int32), .ref 157, .ref 158, .ref 159, .ref 160, .ref 161, .ref 162, .int (0 : Int32), .int (0 : Int32), .int (0 : Int32), .int (0 : Int32), .int (0 : Int32), .ref 163, .int (0 : Int32), .int (0 : Int32), .ref 164, .ref 165, .ref 166, .ref 167, .ref 168, .ref 169, .ref 170, .ref 171, .ref 172, .ref 173, .ref 174, .ref 175, .ref 176, .ref 177, .ref 178, .ref 179, .ref 180, .ref 181, .ref 182, .ref 183, .ref 184, .ref 185, .ref 186, .int (0 : Int32), .ref 187, .int (0 : Int32), .int (0 : Int32), .int (0 : Int32), .ref 188, .int (0 : Int32), .ref 189, .int (0 : Int32), .ref 190, .int (0 : Int32), .int (0 : Int32), .int (0 : Int32), .int (0 : Int32), .int (0 : Int32), .int (0 : Int32), .long (0 : Int64), .int (0 : Int32), .int (0 : Int32), .ref 191, .int (0 : Int32), .ref 192, .int (0 : Int32), .ref 193, .ref 194, .ref 195, .ref 196, .ref 197, .ref 198, .ref 199, .ref 200, .int (0 : Int32), .ref 201, .ref 202, .ref 203, .ref 204, .ref 205, .ref 206, .ref 207, .ref 208, .int (0 : Int32), .ref 209, .int (0 : Int32), .int (0 : Int32), .int (0 : Int32), .int (0 : Int32), .int (0 : Int32), .int (0 : Int32), .ref 210, .ref 211, .ref 212, .ref 213, .null, .null, .null, .null, .null, .null, .null, .int (0 : Int32), .null, .null, .null, .null, .int (0 : Int32), .int (0 : Int32), .null, .null, .null, .null, .null, .null, .int (0 : Int32), .null, .null, .int (0 : Int32), .null, .null, .null, .null, .null, .null, .null, .null, .null, .null, .null, .int (0 : Int32), .null, .null, .null, .int (0 : Int32), .int (0 : Int32), .int (0 : Int32), .int (0 : Int32), .null, .null, .null, .int (0 : Int32)])))
def hp_316 : pH := (215, 3397610, p_up hp_315.2.2 214 (.inl (2, 20001, p_zero 2)))
def hp_317 : pH := (215, 3397610, p_up hp_316.2.2 151 (.inr (12, [.ref 152, .int (0 : Int32), .int (0 : Int32), .int (0 : Int32), .int (0 : Int32), .long (0 : Int64), .int (0 : Int32), .int (0 : Int32), .int (0 : Int32), .int (0 : Int32), .int (-2 : Int32), .int (0 : Int32), .int (0 : Int32), .ref 153, .ref 154, .ref 155, .int (0 : Int32), .ref 156, .int (0 : Int32), .ref 157, .ref 158, .ref 159, .ref 160, .ref 161, .ref 162, .int (0 : Int32), .int (0 : Int32), .int (0 : Int32), .int (0 : Int32), .int (0 : Int32), .ref 163, .int (0 : Int32), .int (0 : Int32), .ref 164, .ref 165, .ref 166, .ref 167, .ref 168, .ref 169, .ref 170, .ref 171, .ref 172, .ref 173, .ref 174, .ref 175, .ref 176, .ref 177, .ref 178, .ref 179, .ref 180, .ref 181, .ref 182, .ref 183, .ref 184, .ref 185, .ref 186, .int (0 : Int32), .ref 187, .int (0 : Int32), .int (0 : Int32), .int (0 : Int32), .ref 188, .int (0 : Int32), .ref 189, .int (0 : Int32), .ref 190, .int (0 : Int32), .int (0 : Int32), .int (0 : Int32), .int (0 : Int32), .int (0 : Int32), .int (0 : Int32), .long (0 : Int64), .int (0 : Int32), .int (0 : Int32), .ref 191, .int (0 : Int32), .ref 192, .int (0 : Int32), .ref 193, .ref 194, .ref 195, .ref 196, .ref 197, .ref 198, .ref 199, .ref 200, .int (0 : Int32), .ref 201, .ref 202, .ref 203, .ref 204, .ref 205, .ref 206, .ref 207, .ref 208, .int (0 : Int32), .ref 209, .int (0 : Int32), .int (0 : Int32), .int (0 : Int32), .int (0 : Int32), .int (0 : Int32), .int (0 : Int32), .ref 210, .ref 211, .ref 212, .ref 213, .ref 214, .null, .null, .null, .null, .null, .null, .int (0 : Int32), .null, .null, .null, .null, .int (0 : Int32), .int (0 : Int32), .null, .null, .null, .null, .null, .null, .int (0 : Int32), .null, .null, .int (0 : Int32), .null, .null, .null, .null, .null, .null, .null, .null, .null, .null, .null, .int (0 : Int32), .null, .null, .null, .int (0 : Int32), .int (0 : Int32), .int (0 : Int32), .int (0 : Int32), .null, .null, .null, .int (0 : Int32)])))
def hp_318 : pH := (216, 3417611, p_up hp_317.2.2 215 (.inl (0, 20001, p_zero 0)))
def hp_319 : pH := (216, 3417611, p_up hp_318.2.2 151 (.inr (12, [.ref 152, .int (0 : Int32), .int (0 : Int32), .int (0 : Int32), .int (0 : Int32), .long (0 : Int64), .int (0 : Int32), .int (0 : Int32), .int (0 : Int32), .int (0 : Int32), .int (-2 : Int32), .int (0 : Int32), .int (0 : Int32), .ref 153, .ref 154, .ref 155, .int (0 : Int32), .ref 156, .int (0 : Int32), .ref 157, .ref 158, .ref 159, .ref 160, .ref 161, .ref 162, .int (0 : Int32), .int (0 : Int32), .int (0 : Int32), .int (0 : Int32), .int (0 : Int32), .ref 163, .int (0 : Int32), .int (0 : Int32), .ref 164, .ref 165, .ref 166, .ref 167, .ref 168, .ref 169, .ref 170, .ref 171, .ref 172, .ref 173, .ref 174, .ref 175, .ref 176, .ref 177, .ref 178, .ref 179, .ref 180, .ref 181, .ref 182, .ref 183, .ref 184, .ref 185, .ref 186, .int (0 : Int32), .ref 187, .int (0 : Int32), .int (0 : Int32), .int (0 : Int32), .ref 188, .int (0 : Int32), .ref 189, .int (0 : Int32), .ref 190, .int (0 : Int32), .int (0 : Int32), .int (0 : Int32), .int (0 : Int32), .int (0 : Int32), .int (0 : Int32), .long (0 : Int64), .int (0 : Int32), .int (0 : Int32), .ref 191, .int (0 : Int32), .ref 192, .int (0 : Int32), .ref 193, .ref 194, .ref 195, .ref 196, .ref 197, .ref 198, .ref 199, .ref 200, .int (0 : Int32), .ref 201, .ref 202, .ref 203, .ref 204, .ref 205, .ref 206, .ref 207, .ref 208, .int (0 : Int32), .ref 209, .int (0 : Int32), .int (0 : Int32), .int (0 : Int32), .int (0 : Int32), .int (0 : Int32), .int (0 : Int32), .ref 210, .ref 211, .ref 212, .ref 213, .ref 214, .ref 215, .null, .null, .null, .null, .null, .int (0 : Int32), .null, .null, .null, .null, .int (0 : Int32), .int (0 : Int32), .null, .null, .null, .null, .null, .null, .int (0 : Int32), .null, .null, .int (0 : Int32), .null, .null, .null, .null, .null, .null, .null, .null, .null, .null, .null, .int (0 : Int32), .null, .null, .null, .int (0 : Int32), .int (0 : Int32), .int (0 : Int32), .int (0 : Int32), .null, .null, .null, .int (0 : Int32)])))
def hp_320 : pH := (217, 3437612, p_up hp_319.2.2 216 (.inl (2, 20001, p_zero 2)))
def hp_321 : pH := (217, 3437612, p_up hp_320.2.2 151 (.inr (12, [.ref 152, .int (0 : Int32), .int (0 : Int32), .int (0 : Int32), .int (0 : Int32), .long (0 : Int64), .int (0 : Int32), .int (0 : Int32), .int (0 : Int32), .int (0 : Int32), .int (-2 : Int32), .int (0 : Int32), .int (0 : Int32), .ref 153, .ref 154, .ref 155, .int (0 : Int32), .ref 156, .int (0 : Int32), .ref 157, .ref 158, .ref 159, .ref 160, .ref 161, .ref 162, .int (0 : Int32), .int (0 : Int32), .int (0 : Int32), .int (0 : Int32), .int (0 : Int32), .ref 163, .int (0 : Int32), .int (0 : Int32), .ref 164, .ref 165, .ref 166, .ref 167, .ref 168, .ref 169, .ref 170, .ref 171, .ref 172, .ref 173, .ref 174, .ref 175, .ref 176, .ref 177, .ref 178, .ref 179, .ref 180, .ref 181, .ref 182, .ref 183, .ref 184, .ref 185, .ref 186, .int (0 : Int32), .ref 187, .int (0 : Int32), .int (0 : Int32), .int (0 : Int32), .ref 188, .int (0 : Int32), .ref 189, .int (0 : Int32), .ref 190, .int (0 : Int32), .int (0 : Int32), .int (0 : Int32), .int (0 : Int32), .int (0 : Int32), .int (0 : Int32), .long (0 : Int64), .int (0 : Int32), .int (0 : Int32), .ref 191, .int (0 : Int32), .ref 192, .int (0 : Int32), .ref 193, .ref 194, .ref 195, .ref 196, .ref 197, .ref 198, .ref 199, .ref 200, .int (0 : Int32), .ref 201, .ref 202, .ref 203, .ref 204, .ref 205, .ref 206, .ref 207, .ref 208, .int (0 : Int32), .ref 209, .int (0 : Int32), .int (0 : Int32), .int (0 : Int32), .int (0 : Int32), .int (0 : Int32), .int (0 : Int32), .ref 210, .ref 211, .ref 212, .ref 213, .ref 214, .ref 215, .ref 216, .null, .null, .null, .null, .int (0 : Int32), .null, .null, .null, .null, .int (0 : Int32), .int (0 : Int32), .null, .null, .null, .null, .null, .null, .int (0 : Int32), .null, .null, .int (0 : Int32), .null, .null, .null, .null, .null, .null, .null, .null, .null, .null, .null, .int (0 : Int32), .null, .null, .null, .int (0 : Int32), .int (0 : Int32), .int (0 : Int32), .int (0 : Int32), .null, .null, .null, .int (0 : Int32)])))
def hp_322 : pH := (218, 3457613, p_up hp_321.2.2 217 (.inl (0, 20001, p_zero 0)))
def hp_323 : pH := (218, 3457613, p_up hp_322.2.2 151 (.inr (12, [.ref 152, .int (0 : Int32), .int (0 : Int32), .int (0 : Int32), .int (0 : Int32), .long (0 : Int64), .int (0 : Int32), .int (0 : Int32), .int (0 : Int32), .int (0 : Int32), .int (-2 : Int32), .int (0 : Int32), .int (0 : Int32), .ref 153, .ref 154, .ref 155, .int (0 : Int32), .ref 156, .int (0 : Int32), .ref 157, .ref 158, .ref 159, .ref 160, .ref 161, .ref 162, .int (0 : Int32), .int (0 : Int32), .int (0 : Int32), .int (0 : Int32), .int (0 : Int32), .ref 163, .int (0 : Int32), .int (0 : Int32), .ref 164, .ref 165, .ref 166, .ref 167, .ref 168, .ref 169, .ref 170, .ref 171, .ref 172, .ref 173, .ref 174, .ref 175, .ref 176, .ref 177, .ref 178, .ref 179, .ref 180, .ref 181, .ref 182, .ref 183, .ref 184, .ref 185, .ref 186, .int (0 : Int32), .ref 187, .int (0 : Int32), .int (0 : Int32), .int (0 : Int32), .ref 188, .int (0 : Int32), .ref 189, .int (0 : Int32), .ref 190, .int (0 : Int32), .int (0 : Int32), .int (0 : Int32), .int (0 : Int32), .int (0 : Int32), .int (0 : Int32), .long (0 : Int64), .int (0 : Int32), .int (0 : Int32), .ref 191, .int (0 : Int32), .ref 192, .int (0 : Int32), .ref 193, .ref 194, .ref 195, .ref 196, .ref 197, .ref 198, .ref 199, .ref 200, .int (0 : Int32), .ref 201, .ref 202, .ref 203, .ref 204, .ref 205, .ref 206, .ref 207, .ref 208, .int (0 : Int32), .ref 209, .int (0 : Int32), .int (0 : Int32), .int (0 : Int32), .int (0 : Int32), .int (0 : Int32), .int (0 : Int32), .ref 210, .ref 211, .ref 212, .ref 213, .ref 214, .ref 215, .ref 216, .ref 217, .null, .null, .null, .int (0 : Int32), .null, .null, .null, .null, .int (0 : Int32), .int (0 : Int32), .null, .null, .null, .null, .null, .null, .int (0 : Int32), .null, .null, .int (0 : Int32), .null, .null, .null, .null, .null, .null, .null, .null, .null, .null, .null, .int (0 : Int32), .null, .null, .null, .int (0 : Int32), .int (0 : Int32), .int (0 : Int32), .int (0 : Int32), .null, .null, .null, .int (0 : Int32)])))
def hp_324 : pH := (219, 3477615, p_up hp_323.2.2 218 (.inl (0, 20002, p_zero 0)))
def hp_325 : pH := (219, 3477615, p_up hp_324.2.2 151 (.inr (12, [.ref 152, .int (0 : Int32), .int (0 : Int32), .int (0 : Int32), .int (0 : Int32), .long (0 : Int64), .int (0 : Int32), .int (0 : Int32), .int (0 : Int32), .int (0 : Int32), .int (-2 : Int32), .int (0 : Int32), .int (0 : Int32), .ref 153, .ref 154, .ref 155, .int (0 : Int32), .ref 156, .int (0 : Int32), .ref 157, .ref 158, .ref 159, .ref 160, .ref 161, .ref 162, .int (0 : Int32), .int (0 : Int32), .int (0 : Int32), .int (0 : Int32), .int (0 : Int32), .ref 163, .int (0 : Int32), .int (0 : Int32), .ref 164, .ref 165, .ref 166, .ref 167, .ref 168, .ref 169, .ref 170, .ref 171, .ref 172, .ref 173, .ref 174, .ref 175, .ref 176, .ref 177, .ref 178, .ref 179, .ref 180, .ref 181, .ref 182, .ref 183, .ref 184, .ref 185, .ref 186, .int (0 : Int32), .ref 187, .int (0 : Int32), .int (0 : Int32), .int (0 : Int32), .ref 188, .int (0 : Int32), .ref 189, .int (0 : Int32), .ref 190, .int (0 : Int32), .int (0 : Int32), .int (0 : Int32), .int (0 : Int32), .int (0 : Int32), .int (0 : Int32), .long (0 : Int64), .int (0 : Int32), .int (0 : Int32), .ref 191, .int (0 : Int32), .ref 192, .int (0 : Int32), .ref 193, .ref 194, .ref 195, .ref 196, .ref 197, .ref 198, .ref 199, .ref 200, .int (0 : Int32), .ref 201, .ref 202, .ref 203, .ref 204, .ref 205, .ref 206, .ref 207, .ref 208, .int (0 : Int32), .ref 209, .int (0 : Int32), .int (0 : Int32), .int (0 : Int32), .int (0 : Int32), .int (0 : Int32), .int (0 : Int32), .ref 210, .ref 211, .ref 212, .ref 213, .ref 214, .ref 215, .ref 216, .ref 217, .ref 218, .null, .null, .int (0 : Int32), .null, .null, .null, .null, .int (0 : Int32), .int (0 : Int32), .null, .null, .null, .null, .null, .null, .int (0 : Int32), .null, .null, .int (0 : Int32), .null, .null, .null, .null, .null, .null, .null, .null, .null, .null, .null, .int (0 : Int32), .null, .null, .null, .int (0 : Int32), .int (0 : Int32), .int (0 : Int32), .int (0 : Int32), .null, .null, .null, .int (0 : Int32)])))
def hp_326 : pH := (220, 3677616, p_up hp_325.2.2 219 (.inl (0, 200001, p_zero 0)))
def hp_327 : pH := (220, 3677616, p_up hp_326.2.2 151 (.inr (12, [.ref 152, .int (0 : Int32), .int (0 : Int32), .int (0 : Int32), .int (0 : Int32), .long (0 : Int64), .int (0 : Int32), .int (0 : Int32), .int (0 : Int32), .int (0 : Int32), .int (-2 : Int32), .int (0 : Int32), .int (0 : Int32), .ref 153, .ref 154, .ref 155, .int (0 : Int32), .ref 156, .int (0 : Int32), .ref 157, .ref 158, .ref 159, .ref 160, .ref 161, .ref 162, .int (0 : Int32), .int (0 : Int32), .int (0 : Int32), .int (0 : Int32), .int (0 : Int32), .ref 163, .int (0 : Int32), .int (0 : Int32), .ref 164, .ref 165, .ref 166, .ref 167, .ref 168, .ref 169, .ref 170, .ref 171, .ref 172, .ref 173, .ref 174, .ref 175, .ref 176, .ref 177, .ref 178, .ref 179, .ref 180, .ref 181, .ref 182, .ref 183, .ref 184, .ref 185, .ref 186, .int (0 : Int32), .ref 187, .int (0 : Int32), .int (0 : Int32), .int (0 : Int32), .ref 188, .int (0 : Int32), .ref 189, .int (0 : Int32), .ref 190, .int (0 : Int32), .int (0 : Int32), .int (0 : Int32), .int (0 : Int32), .int (0 : Int32), .int (0 : Int32), .long (0 : Int64), .int (0 : Int32), .int (0 : Int32), .ref 191, .int (0 : Int32), .ref 192, .int (0 : Int32), .ref 193, .ref 194, .ref 195, .ref 196, .ref 197, .ref 198, .ref 199, .ref 200, .int (0 : Int32), .ref 201, .ref 202, .ref 203, .ref 204, .ref 205, .ref 206, .ref 207, .ref 208, .int (0 : Int32), .ref 209, .int (0 : Int32), .int (0 : Int32), .int (0 : Int32), .int (0 : Int32), .int (0 : Int32), .int (0 : Int32), .ref 210, .ref 211, .ref 212, .ref 213, .ref 214, .ref 215, .ref 216, .ref 217, .ref 218, .ref 219, .null, .int (0 : Int32), .null, .null, .null, .null, .int (0 : Int32), .int (0 : Int32), .null, .null, .null, .null, .null, .null, .int (0 : Int32), .null, .null, .int (0 : Int32), .null, .null, .null, .null, .null, .null, .null, .null, .null, .null, .null, .int (0 : Int32), .null, .null, .null, .int (0 : Int32), .int (0 : Int32), .int (0 : Int32), .int (0 : Int32), .null, .null, .null, .int (0 : Int32)])))
def hp_328 : pH := (221, 3877617, p_up hp_327.2.2 220 (.inl (0, 200001, p_zero 0)))
def hp_329 : pH := (221, 3877617, p_up hp_328.2.2 151 (.inr (12, [.ref 152, .int (0 : Int32), .int (0 : Int32), .int (0 : Int32), .int (0 : Int32), .long (0 : Int64), .int (0 : Int32), .int (0 : Int32), .int (0 : Int32), .int (0 : Int32), .int (-2 : Int32), .int (0 : Int32), .int (0 : Int32), .ref 153, .ref 154, .ref 155, .int (0 : Int32), .ref 156, .int (0 : Int32), .ref 157, .ref 158, .ref 159, .ref 160, .ref 161, .ref 162, .int (0 : Int32), .int (0 : Int32), .int (0 : Int32), .int (0 : Int32), .int (0 : Int32), .ref 163, .int (0 : Int32), .int (0 : Int32), .ref 164, .ref 165, .ref 166, .ref 167, .ref 168, .ref 169, .ref 170, .ref 171, .ref 172, .ref 173, .ref 174, .ref 175, .ref 176, .ref 177, .ref 178, .ref 179, .ref 180, .ref 181, .ref 182, .ref 183, .ref 184, .ref 185, .ref 186, .int (0 : Int32), .ref 187, .int (0 : Int32), .int (0 : Int32), .int (0 : Int32), .ref 188, .int (0 : Int32), .ref 189, .int (0 : Int32), .ref 190, .int (0 : Int32), .int (0 : Int32), .int (0 : Int32), .int (0 : Int32), .int (0 : Int32), .int (0 : Int32), .long (0 : Int64), .int (0 : Int32), .int (0 : Int32), .ref 191, .int (0 : Int32), .ref 192, .int (0 : Int32), .ref 193, .ref 194, .ref 195, .ref 196, .ref 197, .ref 198, .ref 199, .ref 200, .int (0 : Int32), .ref 201, .ref 202, .ref 203, .ref 204, .ref 205, .ref 206, .ref 207, .ref 208, .int (0 : Int32), .ref 209, .int (0 : Int32), .int (0 : Int32), .int (0 : Int32), .int (0 : Int32), .int (0 : Int32), .int (0 : Int32), .ref 210, .ref 211, .ref 212, .ref 213, .ref 214, .ref 215, .ref 216, .ref 217, .ref 218, .ref 219, .ref 220, .int (0 : Int32), .null, .null, .null, .null, .int (0 : Int32), .int (0 : Int32), .null, .null, .null, .null, .null, .null, .int (0 : Int32), .null, .null, .int (0 : Int32), .null, .null, .null, .null, .null, .null, .null, .null, .null, .null, .null, .int (0 : Int32), .null, .null, .null, .int (0 : Int32), .int (0 : Int32), .int (0 : Int32), .int (0 : Int32), .null, .null, .null, .int (0 : Int32)])))
def hp_330 : pH := (222, 3897618, p_up hp_329.2.2 221 (.inl (0, 20001, p_zero 0)))
def hp_331 : pH := (222, 3897618, p_up hp_330.2.2 151 (.inr (12, [.ref 152, .int (0 : Int32), .int (0 : Int32), .int (0 : Int32), .int (0 : Int32), .long (0 : Int64), .int (0 : Int32), .int (0 : Int32), .int (0 : Int32), .int (0 : Int32), .int (-2 : Int32), .int (0 : Int32), .int (0 : Int32), .ref 153, .ref 154, .ref 155, .int (0 : Int32), .ref 156, .int (0 : Int32), .ref 157, .ref 158, .ref 159, .ref 160, .ref 161, .ref 162, .int (0 : Int32), .int (0 : Int32), .int (0 : Int32), .int (0 : Int32), .int (0 : Int32), .ref 163, .int (0 : Int32), .int (0 : Int32), .ref 164, .ref 165, .ref 166, .ref 167, .ref 168, .ref 169, .ref 170, .ref 171, .ref 172, .ref 173, .ref 174, .ref 175, .ref 176, .ref 177, .ref 178, .ref 179, .ref 180, .ref 181, .ref 182, .ref 183, .ref 184, .ref 185, .ref 186, .int (0 : Int32), .ref 187, .int (0 : Int32), .int (0 : Int32), .int (0 : Int32), .ref 188, .int (0 : Int32), .ref 189, .int (0 : Int32), .ref 190, .int (0 : Int32), .int (0 : Int32), .int (0 : Int32), .int (0 : Int32), .int (0 : Int32), .int (0 : Int32), .long (0 : Int64), .int (0 : Int32), .int (0 : Int32), .ref 191, .int (0 : Int32), .ref 192, .int (0 : Int32), .ref 193, .ref 194, .ref 195, .ref 196, .ref 197, .ref 198, .ref 199, .ref 200, .int (0 : Int32), .ref 201, .ref 202, .ref 203, .ref 204, .ref 205, .ref 206, .ref 207, .ref 208, .int (0 : Int32), .ref 209, .int (0 : Int32), .int (0 : Int32), .int (0 : Int32), .int (0 : Int32), .int (0 : Int32), .int (0 : Int32), .ref 210, .ref 211, .ref 212, .ref 213, .ref 214, .ref 215, .ref 216, .ref 217, .ref 218, .ref 219, .ref 220, .int (0 : Int32), .ref 221, .null, .null, .null, .int (0 : Int32), .int (0 : Int32), .null, .null, .null, .null, .null, .null, .int (0 : Int32), .null, .null, .int (0 : Int32), .null, .null, .null, .null, .null, .null, .null, .null, .null, .null, .null, .int (0 : Int32), .null, .null, .null, .int (0 : Int32), .int (0 : Int32), .int (0 : Int32), .int (0 : Int32), .null, .null, .null, .int (0 : Int32)])))
def hp_332 : pH := (223, 3930386, p_up hp_331.2.2 222 (.inl (0, 32768, p_zero 0)))
def hp_333 : pH := (223, 3930386, p_up hp_332.2.2 151 (.inr (12, [.ref 152, .int (0 : Int32), .int (0 : Int32), .int (0 : Int32), .int (0 : Int32), .long (0 : Int64), .int (0 : Int32), .int (0 : Int32), .int (0 : Int32), .int (0 : Int32), .int (-2 : Int32), .int (0 : Int32), .int (0 : Int32), .ref 153, .ref 154, .ref 155, .int (0 : Int32), .ref 156, .int (0 : Int32), .ref 157, .ref 158, .ref 159, .ref 160, .ref 161, .ref 162, .int (0 : Int32), .int (0 : Int32), .int (0 : Int32), .int (0 : Int32), .int (0 : Int32), .ref 163, .int (0 : Int32), .int (0 : Int32), .ref 164, .ref 165, .ref 166, .ref 167, .ref 168, .ref 169, .ref 170, .ref 171, .ref 172, .ref 173, .ref 174, .ref 175, .ref 176, .ref 177, .ref 178, .ref 179, .ref 180, .ref 181, .ref 182, .ref 183, .ref 184, .ref 185, .ref 186, .int (0 : Int32), .ref 187, .int (0 : Int32), .int (0 : Int32), .int (0 : Int32), .ref 188, .int (0 : Int32), .ref 189, .int (0 : Int32), .ref 190, .int (0 : Int32), .int (0 : Int32), .int (0 : Int32), .int (0 : Int32), .int (0 : Int32), .int (0 : Int32), .long (0 : Int64), .int (0 : Int32), .int (0 : Int32), .ref 191, .int (0 : Int32), .ref 192, .int (0 : Int32), .ref 193, .ref 194, .ref 195, .ref 196, .ref 197, .ref 198, .ref 199, .ref 200, .int (0 : Int32), .ref 201, .ref 202, .ref 203, .ref 204, .ref 205, .ref 206, .ref 207, .ref 208, .int (0 : Int32), .ref 209, .int (0 : Int32), .int (0 : Int32), .int (0 : Int32), .int (0 : Int32), .int (0 : Int32), .int (0 : Int32), .ref 210, .ref 211, .ref 212, .ref 213, .ref 214, .ref 215, .ref 216, .ref 217, .ref 218, .ref 219, .ref 220, .int (0 : Int32), .ref 221, .ref 222, .null, .null, .int (0 : Int32), .int (0 : Int32), .null, .null, .null, .null, .null, .null, .int (0 : Int32), .null, .null, .int (0 : Int32), .null, .null, .null, .null, .null, .null, .null, .null, .null, .null, .null, .int (0 : Int32), .null, .null, .null, .int (0 : Int32), .int (0 : Int32), .int (0 : Int32), .int (0 : Int32), .null, .null, .null, .int (0 : Int32)])))
def hp_334 : pH := (224, 3940386, p_up hp_333.2.2 223 (.inl (0, 10000, p_zero 0)))
def hp_335 : pH := (224, 3940386, p_up hp_334.2.2 151 (.inr (12, [.ref 152, .int (0 : Int32), .int (0 : Int32), .int (0 : Int32), .int (0 : Int32), .long (0 : Int64), .int (0 : Int32), .int (0 : Int32), .int (0 : Int32), .int (0 : Int32), .int (-2 : Int32), .int (0 : Int32), .int (0 : Int32), .ref 153, .ref 154, .ref 155, .int (0 : Int32), .ref 156, .int (0 : Int32), .ref 157, .ref 158, .ref 159, .ref 160, .ref 161, .ref 162, .int (0 : Int32), .int (0 : Int32), .int (0 : Int32), .int (0 : Int32), .int (0 : Int32), .ref 163, .int (0 : Int32), .int (0 : Int32), .ref 164, .ref 165, .ref 166, .ref 167, .ref 168, .ref 169, .ref 170, .ref 171, .ref 172, .ref 173, .ref 174, .ref 175, .ref 176, .ref 177, .ref 178, .ref 179, .ref 180, .ref 181, .ref 182, .ref 183, .ref 184, .ref 185, .ref 186, .int (0 : Int32), .ref 187, .int (0 : Int32), .int (0 : Int32), .int (0 : Int32), .ref 188, .int (0 : Int32), .ref 189, .int (0 : Int32), .ref 190, .int (0 : Int32), .int (0 : Int32), .int (0 : Int32), .int (0 : Int32), .int (0 : Int32), .int (0 : Int32), .long (0 : Int64), .int (0 : Int32), .int (0 : Int32), .ref 191, .int (0 : Int32), .ref 192, .int (0 : Int32), .ref 193, .ref 194, .ref 195, .ref 196, .ref 197, .ref 198, .ref 199, .ref 200, .int (0 : Int32), .ref 201, .ref 202, .ref 203, .ref 204, .ref 205, .ref 206, .ref 207, .ref 208, .int (0 : Int32), .ref 209, .int (0 : Int32), .int (0 : Int32), .int (0 : Int32), .int (0 : Int32), .int (0 : Int32), .int (0 : Int32), .ref 210, .ref 211, .ref 212, .ref 213, .ref 214, .ref 215, .ref 216, .ref 217, .ref 218, .ref 219, .ref 220, .int (0 : Int32), .ref 221, .ref 222, .ref 223, .null, .int (0 : Int32), .int (0 : Int32), .null, .null, .null, .null, .null, .null, .int (0 : Int32), .null, .null, .int (0 : Int32), .null, .null, .null, .null, .null, .null, .null, .null, .null, .null, .null, .int (0 : Int32), .null, .null, .null, .int (0 : Int32), .int (0 : Int32), .int (0 : Int32), .int (0 : Int32), .null, .null, .null, .int (0 : Int32)])))
def hp_336 : pH := (225, 3940394, p_up hp_335.2.2 224 (.inl (0, 8, p_zero 0)))
def hp_337 : pH := (225, 3940394, p_up hp_336.2.2 151 (.inr (12, [.ref 152, .int (0 : Int32), .int (0 : Int32), .int (0 : Int32), .int (0 : Int32), .long (0 : Int64), .int (0 : Int32), .int (0 : Int32), .int (0 : Int32), .int (0 : Int32), .int (-2 : Int32), .int (0 : Int32), .int (0 : Int32), .ref 153, .ref 154, .ref 155, .int (0 : Int32), .ref 156, .int (0 : Int32), .ref 157, .ref 158, .ref 159, .ref 160, .ref 161, .ref 162, .int (0 : Int32), .int (0 : Int32), .int (0 : Int32), .int (0 : Int32), .int (0 : Int32), .ref 163, .int (0 : Int32), .int (0 : Int32), .ref 164, .ref 165, .ref 166, .ref 167, .ref 168, .ref 169, .ref 170, .ref 171, .ref 172, .ref 173, .ref 174, .ref 175, .ref 176, .ref 177, .ref 178, .ref 179, .ref 180, .ref 181, .ref 182, .ref 183, .ref 184, .ref 185, .ref 186, .int (0 : Int32), .ref 187, .int (0 : Int32), .int (0 : Int32), .int (0 : Int32), .ref 188, .int (0 : Int32), .ref 189, .int (0 : Int32), .ref 190, .int (0 : Int32), .int (0 : Int32), .int (0 : Int32), .int (0 : Int32), .int (0 : Int32), .int (0 : Int32), .long (0 : Int64), .int (0 : Int32), .int (0 : Int32), .ref 191, .int (0 : Int32), .ref 192, .int (0 : Int32), .ref 193, .ref 194, .ref 195, .ref 196, .ref 197, .ref 198, .ref 199, .ref 200, .int (0 : Int32), .ref 201, .ref 202, .ref 203, .ref 204, .ref 205, .ref 206, .ref 207, .ref 208, .int (0 : Int32), .ref 209, .int (0 : Int32), .int (0 : Int32), .int (0 : Int32), .int (0 : Int32), .int (0 : Int32), .int (0 : Int32), .ref 210, .ref 211, .ref 212, .ref 213, .ref 214, .ref 215, .ref 216, .ref 217, .ref 218, .ref 219, .ref 220, .int (0 : Int32), .ref 221, .ref 222, .ref 223, .ref 224, .int (0 : Int32), .int (0 : Int32), .null, .null, .null, .null, .null, .null, .int (0 : Int32), .null, .null, .int (0 : Int32), .null, .null, .null, .null, .null, .null, .null, .null, .null, .null, .null, .int (0 : Int32), .null, .null, .null, .int (0 : Int32), .int (0 : Int32), .int (0 : Int32), .int (0 : Int32), .null, .null, .null, .int (0 : Int32)])))
def hp_338 : pH := (226, 3960395, p_up hp_337.2.2 225 (.inl (0, 20001, p_zero 0)))
def hp_339 : pH := (226, 3960395, p_up hp_338.2.2 151 (.inr (12, [.ref 152, .int (0 : Int32), .int (0 : Int32), .int (0 : Int32), .int (0 : Int32), .long (0 : Int64), .int (0 : Int32), .int (0 : Int32), .int (0 : Int32), .int (0 : Int32), .int (-2 : Int32), .int (0 : Int32), .int (0 : Int32), .ref 153, .ref 154, .ref 155, .int (0 : Int32), .ref 156, .int (0 : Int32), .ref 157, .ref 158, .ref 159, .ref 160, .ref 161, .ref 162, .int (0 : Int32), .int (0 : Int32), .int (0 : Int32), .int (0 : Int32), .int (0 : Int32), .ref 163, .int (0 : Int32), .int (0 : Int32), .ref 164, .ref 165, .ref 166, .ref 167, .ref 168, .ref 169, .ref 170, .ref 171, .ref 172, .ref 173, .ref 174, .ref 175, .ref 176, .ref 177, .ref 178, .ref 179, .ref 180, .ref 181, .ref 182, .ref 183, .ref 184, .ref 185, .ref 186, .int (0 : Int32), .ref 187, .int (0 : Int32), .int (0 : Int32), .int (0 : Int32), .ref 188, .int (0 : Int32), .ref 189, .int (0 : Int32), .ref 190, .int (0 : Int32), .int (0 : Int32), .int (0 : Int32), .int (0 : Int32), .int (0 : Int32), .int (0 : Int32), .long (0 : Int64), .int (0 : Int32), .int (0 : Int32), .ref 191, .int (0 : Int32), .ref 192, .int (0 : Int32), .ref 193, .ref 194, .ref 195, .ref 196, .ref 197, .ref 198, .ref 199, .ref 200, .int (0 : Int32), .ref 201, .ref 202, .ref 203, .ref 204, .ref 205, .ref 206, .ref 207, .ref 208, .int (0 : Int32), .ref 209, .int (0 : Int32), .int (0 : Int32), .int (0 : Int32), .int (0 : Int32), .int (0 : Int32), .int (0 : Int32), .ref 210, .ref 211, .ref 212, .ref 213, .ref 214, .ref 215, .ref 216, .ref 217, .ref 218, .ref 219, .ref 220, .int (0 : Int32), .ref 221, .ref 222, .ref 223, .ref 224, .int (0 : Int32), .int (0 : Int32), .ref 225, .null, .null, .null, .null, .null, .int (0 : Int32), .null, .null, .int (0 : Int32), .null, .null, .null, .null, .null, .null, .null, .null, .null, .null, .null, .int (0 : Int32), .null, .null, .null, .int (0 : Int32), .int (0 : Int32), .int (0 : Int32), .int (0 : Int32), .null, .null, .null, .int (0 : Int32)])))
def hp_340 : pH := (227, 3960443, p_up hp_339.2.2 226 (.inl (0, 48, p_zero 0)))
def hp_341 : pH := (227, 3960443, p_up hp_340.2.2 151 (.inr (12, [.ref 152, .int (0 : Int32), .int (0 : Int32), .int (0 : Int32), .int (0 : Int32), .long (0 : Int64), .int (0 : Int32), .int (0 : Int32), .int (0 : Int32), .int (0 : Int32), .int (-2 : Int32), .int (0 : Int32), .int (0 : Int32), .ref 153, .ref 154, .ref 155, .int (0 : Int32), .ref 156, .int (0 : Int32), .ref 157, .ref 158, .ref 159, .ref 160, .ref 161, .ref 162, .int (0 : Int32), .int (0 : Int32), .int (0 : Int32), .int (0 : Int32), .int (0 : Int32), .ref 163, .int (0 : Int32), .int (0 : Int32), .ref 164, .ref 165, .ref 166, .ref 167, .ref 168, .ref 169, .ref 170, .ref 171, .ref 172, .ref 173, .ref 174, .ref 175, .ref 176, .ref 177, .ref 178, .ref 179, .ref 180, .ref 181, .ref 182, .ref 183, .ref 184, .ref 185, .ref 186, .int (0 : Int32), .ref 187, .int (0 : Int32), .int (0 : Int32), .int (0 : Int32), .ref 188, .int (0 : Int32), .ref 189, .int (0 : Int32), .ref 190, .int (0 : Int32), .int (0 : Int32), .int (0 : Int32), .int (0 : Int32), .int (0 : Int32), .int (0 : Int32), .long (0 : Int64), .int (0 : Int32), .int (0 : Int32), .ref 191, .int (0 : Int32), .ref 192, .int (0 : Int32), .ref 193, .ref 194, .ref 195, .ref 196, .ref 197, .ref 198, .ref 199, .ref 200, .int (0 : Int32), .ref 201, .ref 202, .ref 203, .ref 204, .ref 205, .ref 206, .ref 207, .ref 208, .int (0 : Int32), .ref 209, .int (0 : Int32), .int (0 : Int32), .int (0 : Int32), .int (0 : Int32), .int (0 : Int32), .int (0 : Int32), .ref 210, .ref 211, .ref 212, .ref 213, .ref 214, .ref 215, .ref 216, .ref 217, .ref 218, .ref 219, .ref 220, .int (0 : Int32), .ref 221, .ref 222, .ref 223, .ref 224, .int (0 : Int32), .int (0 : Int32), .ref 225, .ref 226, .null, .null, .null, .null, .int (0 : Int32), .null, .null, .int (0 : Int32), .null, .null, .null, .null, .null, .null, .null, .null, .null, .null, .null, .int (0 : Int32), .null, .null, .null, .int (0 : Int32), .int (0 : Int32), .int (0 : Int32), .int (0 : Int32), .null, .null, .null, .int (0 : Int32)])))
def hp_342 : pH := (228, 4060448, p_up hp_341.2.2 227 (.inl (0, 100005, p_zero 0)))
def hp_343 : pH := (228, 4060448, p_up hp_342.2.2 151 (.inr (12, [.ref 152, .int (0 : Int32), .int (0 : Int32), .int (0 : Int32), .int (0 : Int32), .long (0 : Int64), .int (0 : Int32), .int (0 : Int32), .int (0 : Int32), .int (0 : Int32), .int (-2 : Int32), .int (0 : Int32), .int (0 : Int32), .ref 153, .ref 154, .ref 155, .int (0 : Int32), .ref 156, .int (0 : Int32), .ref 157, .ref 158, .ref 159, .ref 160, .ref 161, .ref 162, .int (0 : Int32), .int (0 : Int32), .int (0 : Int32), .int (0 : Int32), .int (0 : Int32), .ref 163, .int (0 : Int32), .int (0 : Int32), .ref 164, .ref 165, .ref 166, .ref 167, .ref 168, .ref 169, .ref 170, .ref 171, .ref 172, .ref 173, .ref 174, .ref 175, .ref 176, .ref 177, .ref 178, .ref 179, .ref 180, .ref 181, .ref 182, .ref 183, .ref 184, .ref 185, .ref 186, .int (0 : Int32), .ref 187, .int (0 : Int32), .int (0 : Int32), .int (0 : Int32), .ref 188, .int (0 : Int32), .ref 189, .int (0 : Int32), .ref 190, .int (0 : Int32), .int (0 : Int32), .int (0 : Int32), .int (0 : Int32), .int (0 : Int32), .int (0 : Int32), .long (0 : Int64), .int (0 : Int32), .int (0 : Int32), .ref 191, .int (0 : Int32), .ref 192, .int (0 : Int32), .ref 193, .ref 194, .ref 195, .ref 196, .ref 197, .ref 198, .ref 199, .ref 200, .int (0 : Int32), .ref 201, .ref 202, .ref 203, .ref 204, .ref 205, .ref 206, .ref 207, .ref 208, .int (0 : Int32), .ref 209, .int (0 : Int32), .int (0 : Int32), .int (0 : Int32), .int (0 : Int32), .int (0 : Int32), .int (0 : Int32), .ref 210, .ref 211, .ref 212, .ref 213, .ref 214, .ref 215, .ref 216, .ref 217, .ref 218, .ref 219, .ref 220, .int (0 : Int32), .ref 221, .ref 222, .ref 223, .ref 224, .int (0 : Int32), .int (0 : Int32), .ref 225, .ref 226, .ref 227, .null, .null, .null, .int (0 : Int32), .null, .null, .int (0 : Int32), .null, .null, .null, .null, .null, .null, .null, .null, .null, .null, .null, .int (0 : Int32), .null, .null, .null, .int (0 : Int32), .int (0 : Int32), .int (0 : Int32), .int (0 : Int32), .null, .null, .null, .int (0 : Int32)])))
def hp_344 : pH := (229, 4584736, p_up hp_343.2.2 228 (.inl (0, 524288, p_zero 0)))
def hp_345 : pH := (229, 4584736, p_up hp_344.2.2 151 (.inr (12, [.ref 152, .int (0 : Int32), .int (0 : Int32), .int (0 : Int32), .int (0 : Int32), .long (0 : Int64), .int (0 : Int32), .int (0 : Int32), .int (0 : Int32), .int (0 : Int32), .int (-2 : Int32), .int (0 : Int32), .int (0 : Int32), .ref 153, .ref 154, .ref 155, .int (0 : Int32), .ref 156, .int (0 : Int32), .ref 157, .ref 158, .ref 159, .ref 160, .ref 161, .ref 162, .int (0 : Int32), .int (0 : Int32), .int (0 : Int32), .int (0 : Int32), .int (0 : Int32), .ref 163, .int (0 : Int32), .int (0 : Int32), .ref 164, .ref 165, .ref 166, .ref 167, .ref 168, .ref 169, .ref 170, .ref 171, .ref 172, .ref 173, .ref 174, .ref 175, .ref 176, .ref 177, .ref 178, .ref 179, .ref 180, .ref 181, .ref 182, .ref 183, .ref 184, .ref 185, .ref 186, .int (0 : Int32), .ref 187, .int (0 : Int32), .int (0 : Int32), .int (0 : Int32), .ref 188, .int (0 : Int32), .ref 189, .int (0 : Int32), .ref 190, .int (0 : Int32), .int (0 : Int32), .int (0 : Int32), .int (0 : Int32), .int (0 : Int32), .int (0 : Int32), .long (0 : Int64), .int (0 : Int32), .int (0 : Int32), .ref 191, .int (0 : Int32), .ref 192, .int (0 : Int32), .ref 193, .ref 194, .ref 195, .ref 196, .ref 197, .ref 198, .ref 199, .ref 200, .int (0 : Int32), .ref 201, .ref 202, .ref 203, .ref 204, .ref 205, .ref 206, .ref 207, .ref 208, .int (0 : Int32), .ref 209, .int (0 : Int32), .int (0 : Int32), .int (0 : Int32), .int (0 : Int32), .int (0 : Int32), .int (0 : Int32), .ref 210, .ref 211, .ref 212, .ref 213, .ref 214, .ref 215, .ref 216, .ref 217, .ref 218, .ref 219, .ref 220, .int (0 : Int32), .ref 221, .ref 222, .ref 223, .ref 224, .int (0 : Int32), .int (0 : Int32), .ref 225, .ref 226, .ref 227, .ref 228, .null, .null, .int (0 : Int32), .null, .null, .int (0 : Int32), .null, .null, .null, .null, .null, .null, .null, .null, .null, .null, .null, .int (0 : Int32), .null, .null, .null, .int (0 : Int32), .int (0 : Int32), .int (0 : Int32), .int (0 : Int32), .null, .null, .null, .int (0 : Int32)])))
def hp_346 : pH := (230, 4604737, p_up hp_345.2.2 229 (.inl (0, 20001, p_zero 0)))
def hp_347 : pH := (230, 4604737, p_up hp_346.2.2 151 (.inr (12, [.ref 152, .int (0 : Int32), .int (0 : Int32), .int (0 : Int32), .int (0 : Int32), .long (0 : Int64), .int (0 : Int32), .int (0 : Int32), .int (0 : Int32), .int (0 : Int32), .int (-2 : Int32), .int (0 : Int32), .int (0 : Int32), .ref 153, .ref 154, .ref 155, .int (0 : Int32), .ref 156, .int (0 : Int32), .ref 157, .ref 158, .ref 159, .ref 160, .ref 161, .ref 162, .int (0 : Int32), .int (0 : Int32), .int (0 : Int32), .int (0 : Int32), .int (0 : Int32), .ref 163, .int (0 : Int32), .int (0 : Int32), .ref 164, .ref 165, .ref 166, .ref 167, .ref 168, .ref 169, .ref 170, .ref 171, .ref 172, .ref 173, .ref 174, .ref 175, .ref 176, .ref 177, .ref 178, .ref 179, .ref 180, .ref 181, .ref 182, .ref 183, .ref 184, .ref 185, .ref 186, .int (0 : Int32), .ref 187, .int (0 : Int32), .int (0 : Int32), .int (0 : Int32), .ref 188, .int (0 : Int32), .ref 189, .int (0 : Int32), .ref 190, .int (0 : Int32), .int (0 : Int32), .int (0 : Int32), .int (0 : Int32), .int (0 : Int32), .int (0 : Int32), .long (0 : Int64), .int (0 : Int32), .int (0 : Int32), .ref 191, .int (0 : Int32), .ref 192, .int (0 : Int32), .ref 193, .ref 194, .ref 195, .ref 196, .ref 197, .ref 198, .ref 199, .ref 200, .int (0 : Int32), .ref 201, .ref 202, .ref 203, .ref 204, .ref 205, .ref 206, .ref 207, .ref 208, .int (0 : Int32), .ref 209, .int (0 : Int32), .int (0 : Int32), .int (0 : Int32), .int (0 : Int32), .int (0 : Int32), .int (0 : Int32), .ref 210, .ref 211, .ref 212, .ref 213, .ref 214, .ref 215, .ref 216, .ref 217, .ref 218, .ref 219, .ref 220, .int (0 : Int32), .ref 221, .ref 222, .ref 223, .ref 224, .int (0 : Int32), .int (0 : Int32), .ref 225, .ref 226, .ref 227, .ref 228, .ref 229, .null, .int (0 : Int32), .null, .null, .int (0 : Int32), .null, .null, .null, .null, .null, .null, .null, .null, .null, .null, .null, .int (0 : Int32), .null, .null, .null, .int (0 : Int32), .int (0 : Int32), .int (0 : Int32), .int (0 : Int32), .null, .null, .null, .int (0 : Int32)])))
def hp_348 : pH := (231, 4624738, p_up hp_347.2.2 230 (.inl (0, 20001, p_zero 0)))
def hp_349 : pH := (231, 4624738, p_up hp_348.2.2 151 (.inr (12, [.ref 152, .int (0 : Int32), .int (0 : Int32), .int (0 : Int32), .int (0 : Int32), .long (0 : Int64), .int (0 : Int32), .int (0 : Int32), .int (0 : Int32), .int (0 : Int32), .int (-2 : Int32), .int (0 : Int32), .int (0 : Int32), .ref 153, .ref 154, .ref 155, .int (0 : Int32), .ref 156, .int (0 : Int32), .ref 157, .ref 158, .ref 159, .ref 160, .ref 161, .ref 162, .int (0 : Int32), .int (0 : Int32), .int (0 : Int32), .int (0 : Int32), .int (0 : Int32), .ref 163, .int (0 : Int32), .int (0 : Int32), .ref 164, .ref 165, .ref 166, .ref 167, .ref 168, .ref 169, .ref 170, .ref 171, .ref 172, .ref 173, .ref 174, .ref 175, .ref 176, .ref 177, .ref 178, .ref 179, .ref 180, .ref 181, .ref 182, .ref 183, .ref 184, .ref 185, .ref 186, .int (0 : Int32), .ref 187, .int (0 : Int32), .int (0 : Int32), .int (0 : Int32), .ref 188, .int (0 : Int32), .ref 189, .int (0 : Int32), .ref 190, .int (0 : Int32), .int (0 : Int32), .int (0 : Int32), .int (0 : Int32), .int (0 : Int32), .int (0 : Int32), .long (0 : Int64), .int (0 : Int32), .int (0 : Int32), .ref 191, .int (0 : Int32), .ref 192, .int (0 : Int32), .ref 193, .ref 194, .ref 195, .ref 196, .ref 197, .ref 198, .ref 199, .ref 200, .int (0 : Int32), .ref 201, .ref 202, .ref 203, .ref 204, .ref 205, .ref 206, .ref 207, .ref 208, .int (0 : Int32), .ref 209, .int (0 : Int32), .int (0 : Int32), .int (0 : Int32), .int (0 : Int32), .int (0 : Int32), .int (0 : Int32), .ref 210, .ref 211, .ref 212, .ref 213, .ref 214, .ref 215, .ref 216, .ref 217, .ref 218, .ref 219, .ref 220, .int (0 : Int32), .ref 221, .ref 222, .ref 223, .ref 224, .int (0 : Int32), .int (0 : Int32), .ref 225, .ref 226, .ref 227, .ref 228, .ref 229, .ref 230, .int (0 : Int32), .null, .null, .int (0 : Int32), .null, .null, .null, .null, .null, .null, .null, .null, .null, .null, .null, .int (0 : Int32), .null, .null, .null, .int (0 : Int32), .int (0 : Int32), .int (0 : Int32), .int (0 : Int32), .null, .null, .null, .int (0 : Int32)])))
def hp_350 : pH := (232, 4624742, p_up hp_349.2.2 231 (.inl (0, 4, p_zero 0)))
def hp_351 : pH := (232, 4624742, p_up hp_350.2.2 151 (.inr (12, [.ref 152, .int (0 : Int32), .int (0 : Int32), .int (0 : Int32), .int (0 : Int32), .long (0 : Int64), .int (0 : Int32), .int (0 : Int32), .int (0 : Int32), .int (0 : Int32), .int (-2 : Int32), .int (0 : Int32), .int (0 : Int32), .ref 153, .ref 154, .ref 155, .int (0 : Int32), .ref 156, .int (0 : Int32), .ref 157, .ref 158, .ref 159, .ref 160, .ref 161, .ref 162, .int (0 : Int32), .int (0 : Int32), .int (0 : Int32), .int (0 : Int32), .int (0 : Int32), .ref 163, .int (0 : Int32), .int (0 : Int32), .ref 164, .ref 165, .ref 166, .ref 167, .ref 168, .ref 169, .ref 170, .ref 171, .ref 172, .ref 173, .ref 174, .ref 175, .ref 176, .ref 177, .ref 178, .ref 179, .ref 180, .ref 181, .ref 182, .ref 183, .ref 184, .ref 185, .ref 186, .int (0 : Int32), .ref 187, .int (0 : Int32), .int (0 : Int32), .int (0 : Int32), .ref 188, .int (0 : Int32), .ref 189, .int (0 : Int32), .ref 190, .int (0 : Int32), .int (0 : Int32), .int (0 : Int32), .int (0 : Int32), .int (0 : Int32), .int (0 : Int32), .long (0 : Int64), .int (0 : Int32), .int (0 : Int32), .ref 191, .int (0 : Int32), .ref 192, .int (0 : Int32), .ref 193, .ref 194, .ref 195, .ref 196, .ref 197, .ref 198, .ref 199, .ref 200, .int (0 : Int32), .ref 201, .ref 202, .ref 203, .ref 204, .ref 205, .ref 206, .ref 207, .ref 208, .int (0 : Int32), .ref 209, .int (0 : Int32), .int (0 : Int32), .int (0 : Int32), .int (0 : Int32), .int (0 : Int32), .int (0 : Int32), .ref 210, .ref 211, .ref 212, .ref 213, .ref 214, .ref 215, .ref 216, .ref 217, .ref 218, .ref 219, .ref 220, .int (0 : Int32), .ref 221, .ref 222, .ref 223, .ref 224, .int (0 : Int32), .int (0 : Int32), .ref 225, .ref 226, .ref 227, .ref 228, .ref 229, .ref 230, .int (0 : Int32), .ref 231, .null, .int (0 : Int32), .null, .null, .null, .null, .null, .null, .null, .null, .null, .null, .null, .int (0 : Int32), .null, .null, .null, .int (0 : Int32), .int (0 : Int32), .int (0 : Int32), .int (0 : Int32), .null, .null, .null, .int (0 : Int32)])))
def hp_352 : pH := (233, 4624744, p_up hp_351.2.2 232 (.inl (0, 2, p_zero 0)))
def hp_353 : pH := (233, 4624744, p_up hp_352.2.2 151 (.inr (12, [.ref 152, .int (0 : Int32), .int (0 : Int32), .int (0 : Int32), .int (0 : Int32), .long (0 : Int64), .int (0 : Int32), .int (0 : Int32), .int (0 : Int32), .int (0 : Int32), .int (-2 : Int32), .int (0 : Int32), .int (0 : Int32), .ref 153, .ref 154, .ref 155, .int (0 : Int32), .ref 156, .int (0 : Int32), .ref 157, .ref 158, .ref 159, .ref 160, .ref 161, .ref 162, .int (0 : Int32), .int (0 : Int32), .int (0 : Int32), .int (0 : Int32), .int (0 : Int32), .ref 163, .int (0 : Int32), .int (0 : Int32), .ref 164, .ref 165, .ref 166, .ref 167, .ref 168, .ref 169, .ref 170, .ref 171, .ref 172, .ref 173, .ref 174, .ref 175, .ref 176, .ref 177, .ref 178, .ref 179, .ref 180, .ref 181, .ref 182, .ref 183, .ref 184, .ref 185, .ref 186, .int (0 : Int32), .ref 187, .int (0 : Int32), .int (0 : Int32), .int (0 : Int32), .ref 188, .int (0 : Int32), .ref 189, .int (0 : Int32), .ref 190, .int (0 : Int32), .int (0 : Int32), .int (0 : Int32), .int (0 : Int32), .int (0 : Int32), .int (0 : Int32), .long (0 : Int64), .int (0 : Int32), .int (0 : Int32), .ref 191, .int (0 : Int32), .ref 192, .int (0 : Int32), .ref 193, .ref 194, .ref 195, .ref 196, .ref 197, .ref 198, .ref 199, .ref 200, .int (0 : Int32), .ref 201, .ref 202, .ref 203, .ref 204, .ref 205, .ref 206, .ref 207, .ref 208, .int (0 : Int32), .ref 209, .int (0 : Int32), .int (0 : Int32), .int (0 : Int32), .int (0 : Int32), .int (0 : Int32), .int (0 : Int32), .ref 210, .ref 211, .ref 212, .ref 213, .ref 214, .ref 215, .ref 216, .ref 217, .ref 218, .ref 219, .ref 220, .int (0 : Int32), .ref 221, .ref 222, .ref 223, .ref 224, .int (0 : Int32), .int (0 : Int32), .ref 225, .ref 226, .ref 227, .ref 228, .ref 229, .ref 230, .int (0 : Int32), .ref 231, .ref 232, .int (0 : Int32), .null, .null, .null, .null, .null, .null, .null, .null, .null, .null, .null, .int (0 : Int32), .null, .null, .null, .int (0 : Int32), .int (0 : Int32), .int (0 : Int32), .int (0 : Int32), .null, .null, .null, .int (0 : Int32)])))
def hp_354 : pH := (233, 4624744, p_up hp_353.2.2 151 (.inr (12, [.ref 152, .int (0 : Int32), .int (0 : Int32), .int (0 : Int32), .int (0 : Int32), .long (0 : Int64), .int (0 : Int32), .int (0 : Int32), .int (0 : Int32), .int (0 : Int32), .int (-2 : Int32), .int (0 : Int32), .int (0 : Int32), .ref 153, .ref 154, .ref 155, .int (0 : Int32), .ref 156, .int (0 : Int32), .ref 157, .ref 158, .ref 159, .ref 160, .ref 161, .ref 162, .int (0 : Int32), .int (0 : Int32), .int (0 : Int32), .int (0 : Int32), .int (0 : Int32), .ref 163, .int (0 : Int32), .int (0 : Int32), .ref 164, .ref 165, .ref 166, .ref 167, .ref 168, .ref 169, .ref 170, .ref 171, .ref 172, .ref 173, .ref 174, .ref 175, .ref 176, .ref 177, .ref 178, .ref 179, .ref 180, .ref 181, .ref 182, .ref 183, .ref 184, .ref 185, .ref 186, .int (0 : Int32), .ref 187, .int (0 : Int32), .int (0 : Int32), .int (0 : Int32), .ref 188, .int (0 : Int32), .ref 189, .int (0 : Int32), .ref 190, .int (0 : Int32), .int (0 : Int32), .int (0 : Int32), .int (0 : Int32), .int (0 : Int32), .int (0 : Int32), .long (0 : Int64), .int (0 : Int32), .int (0 : Int32), .ref 191, .int (0 : Int32), .ref 192, .int (0 : Int32), .ref 193, .ref 194, .ref 195, .ref 196, .ref 197, .ref 198, .ref 199, .ref 200, .int (0 : Int32), .ref 201, .ref 202, .ref 203, .ref 204, .ref 205, .ref 206, .ref 207, .ref 208, .int (0 : Int32), .ref 209, .int (0 : Int32), .int (0 : Int32), .int (0 : Int32), .int (0 : Int32), .int (0 : Int32), .int (0 : Int32), .ref 210, .ref 211, .ref 212, .ref 213, .ref 214, .ref 215, .ref 216, .ref 217, .ref 218, .ref 219, .ref 220, .int (0 : Int32), .ref 221, .ref 222, .ref 223, .ref 224, .int (0 : Int32), .int (0 : Int32), .ref 225, .ref 226, .ref 227, .ref 228, .ref 229, .ref 230, .int (0 : Int32), .ref 231, .ref 232, .int (-2 : Int32), .null, .null, .null, .null, .null, .null, .null, .null, .null, .null, .null, .int (0 : Int32), .null, .null, .null, .int (0 : Int32), .int (0 : Int32), .int (0 : Int32), .int (0 : Int32), .null, .null, .null, .int (0 : Int32)])))
def hp_355 : pH := (234, 4644745, p_up hp_354.2.2 233 (.inl (2, 20001, p_zero 2)))
def hp_356 : pH := (234, 4644745, p_up hp_355.2.2 151 (.inr (12, [.ref 152, .int (0 : Int32), .int (0 : Int32), .int (0 : Int32), .int (0 : Int32), .long (0 : Int64), .int (0 : Int32), .int (0 : Int32), .int (0 : Int32), .int (0 : Int32), .int (-2 : Int32), .int (0 : Int32), .int (0 : Int32), .ref 153, .ref 154, .ref 155, .int (0 : Int32), .ref 156, .int (0 : Int32), .ref 157, .ref 158, .ref 159, .ref 160, .ref 161, .ref 162, .int (0 : Int32), .int (0 : Int32), .int (0 : Int32), .int (0 : Int32), .int (0 : Int32), .ref 163, .int (0 : Int32), .int (0 : Int32), .ref 164, .ref 165, .ref 166, .ref 167, .ref 168, .ref 169, .ref 170, .ref 171, .ref 172, .ref 173, .ref 174, .ref 175, .ref 176, .ref 177, .ref 178, .ref 179, .ref 180, .ref 181, .ref 182, .ref 183, .ref 184, .ref 185, .ref 186, .int (0 : Int32), .ref 187, .int (0 : Int32), .int (0 : Int32), .int (0 : Int32), .ref 188, .int (0 : Int32), .ref 189, .int (0 : Int32), .ref 190, .int (0 : Int32), .int (0 : Int32), .int (0 : Int32), .int (0 : Int32), .int (0 : Int32), .int (0 : Int32), .long (0 : Int64), .int (0 : Int32), .int (0 : Int32), .ref 191, .int (0 : Int32), .ref 192, .int (0 : Int32), .ref 193, .ref 194, .ref 195, .ref 196, .ref 197, .ref 198, .ref 199, .ref 200, .int (0 : Int32), .ref 201, .ref 202, .ref 203, .ref 204, .ref 205, .ref 206, .ref 207, .ref 208, .int (0 : Int32), .ref 209, .int (0 : Int32), .int (0 : Int32), .int (0 : Int32), .int (0 : Int32), .int (0 : Int32), .int (0 : Int32), .ref 210, .ref 211, .ref 212, .ref 213, .ref 214, .ref 215, .ref 216, .ref 217, .ref 218, .ref 219, .ref 220, .int (0 : Int32), .ref 221, .ref 222, .ref 223, .ref 224, .int (0 : Int32), .int (0 : Int32), .ref 225, .ref 226, .ref 227, .ref 228, .ref 229, .ref 230, .int (0 : Int32), .ref 231, .ref 232, .int (-2 : Int32), .ref 233, .null, .null, .null, .null, .null, .null, .null, .null, .null, .null, .int (0 : Int32), .null, .null, .null, .int (0 : Int32), .int (0 : Int32), .int (0 : Int32), .int (0 : Int32), .null, .null, .null, .int (0 : Int32)])))
def hp_357 : pH := (235, 4664746, p_up hp_356.2.2 234 (.inl (2, 20001, p_zero 2)))
def hp_358 : pH := (235, 4664746, p_up hp_357.2.2 151 (.inr (12, [.ref 152, .int (0 : Int32), .int (0 : Int32), .int (0 : Int32), .int (0 : Int32), .long (0 : Int64), .int (0 : Int32), .int (0 : Int32), .int (0 : Int32), .int (0 : Int32), .int (-2 : Int32), .int (0 : Int32), .int (0 : Int32), .ref 153, .ref 154, .ref 155, .int (0 : Int32), .ref 156, .int (0 : Int32), .ref 157, .ref 158, .ref 159, .ref 160, .ref 161, .ref 162, .int (0 : Int32), .int (0 : Int32), .int (0 : Int32), .int (0 : Int32), .int (0 : Int32), .ref 163, .int (0 : Int32), .int (0 : Int32), .ref 164, .ref 165, .ref 166, .ref 167, .ref 168, .ref 169, .ref 170, .ref 171, .ref 172, .ref 173, .ref 174, .ref 175, .ref 176, .ref 177, .ref 178, .ref 179, .ref 180, .ref 181, .ref 182, .ref 183, .ref 184, .ref 185, .ref 186, .int (0 : Int32), .ref 187, .int (0 : Int32), .int (0 : Int32), .int (0 : Int32), .ref 188, .int (0 : Int32), .ref 189, .int (0 : Int32), .ref 190, .int (0 : Int32), .int (0 : Int32), .int (0 : Int32), .int (0 : Int32), .int (0 : Int32), .int (0 : Int32), .long (0 : Int64), .int (0 : Int32), .int (0 : Int32), .ref 191, .int (0 : Int32), .ref 192, .int (0 : Int32), .ref 193, .ref 194, .ref 195, .ref 196, .ref 197, .ref 198, .ref 199, .ref 200, .int (0 : Int32), .ref 201, .ref 202, .ref 203, .ref 204, .ref 205, .ref 206, .ref 207, .ref 208, .int (0 : Int32), .ref 209, .int (0 : Int32), .int (0 : Int32), .int (0 : Int32), .int (0 : Int32), .int (0 : Int32), .int (0 : Int32), .ref 210, .ref 211, .ref 212, .ref 213, .ref 214, .ref 215, .ref 216, .ref 217, .ref 218, .ref 219, .ref 220, .int (0 : Int32), .ref 221, .ref 222, .ref 223, .ref 224, .int (0 : Int32), .int (0 : Int32), .ref 225, .ref 226, .ref 227, .ref 228, .ref 229, .ref 230, .int (0 : Int32), .ref 231, .ref 232, .int (-2 : Int32), .ref 233, .ref 234, .null, .null, .null, .null, .null, .null, .null, .null, .null, .int (0 : Int32), .null, .null, .null, .int (0 : Int32), .int (0 : Int32), .int (0 : Int32), .int (0 : Int32), .null, .null, .null, .int (0 : Int32)])))
def hp_359 : pH := (236, 4684747, p_up hp_358.2.2 235 (.inl (2, 20001, p_zero 2)))
def hp_360 : pH := (236, 4684747, p_up hp_359.2.2 151 (.inr (12, [.ref 152, .int (0 : Int32), .int (0 : Int32), .int (0 : Int32), .int (0 : Int32), .long (0 : Int64), .int (0 : Int32), .int (0 : Int32), .int (0 : Int32), .int (0 : Int32), .int (-2 : Int32), .int (0 : Int32), .int (0 : Int32), .ref 153, .ref 154, .ref 155, .int (0 : Int32), .ref 156, .int (0 : Int32), .ref 157, .ref 158, .ref 159, .ref 160, .ref 161, .ref 162, .int (0 : Int32), .int (0 : Int32), .int (0 : Int32), .int (0 : Int32), .int (0 : Int32), .ref 163, .int (0 : Int32), .int (0 : Int32), .ref 164, .ref 165, .ref 166, .ref 167, .ref 168, .ref 169, .ref 170, .ref 171, .ref 172, .ref 173, .ref 174, .ref 175, .ref 176, .ref 177, .ref 178, .ref 179, .ref 180, .ref 181, .ref 182, .ref 183, .ref 184, .ref 185, .ref 186, .int (0 : Int32), .ref 187, .int (0 : Int32), .int (0 : Int32), .int (0 : Int32), .ref 188, .int (0 : Int32), .ref 189, .int (0 : Int32), .ref 190, .int (0 : Int32), .int (0 : Int32), .int (0 : Int32), .int (0 : Int32), .int (0 : Int32), .int (0 : Int32), .long (0 : Int64), .int (0 : Int32), .int (0 : Int32), .ref 191, .int (0 : Int32), .ref 192, .int (0 : Int32), .ref 193, .ref 194, .ref 195, .ref 196, .ref 197, .ref 198, .ref 199, .ref 200, .int (0 : Int32), .ref 201, .ref 202, .ref 203, .ref 204, .ref 205, .ref 206, .ref 207, .ref 208, .int (0 : Int32), .ref 209, .int (0 : Int32), .int (0 : Int32), .int (0 : Int32), .int (0 : Int32), .int (0 : Int32), .int (0 : Int32), .ref 210, .ref 211, .ref 212, .ref 213, .ref 214, .ref 215, .ref 216, .ref 217, .ref 218, .ref 219, .ref 220, .int (0 : Int32), .ref 221, .ref 222, .ref 223, .ref 224, .int (0 : Int32), .int (0 : Int32), .ref 225, .ref 226, .ref 227, .ref 228, .ref 229, .ref 230, .int (0 : Int32), .ref 231, .ref 232, .int (-2 : Int32), .ref 233, .ref 234, .ref 235, .null, .null, .null, .null, .null, .null, .null, .null, .int (0 : Int32), .null, .null, .null, .int (0 : Int32), .int (0 : Int32), .int (0 : Int32), .int (0 : Int32), .null, .null, .null, .int (0 : Int32)])))
def hp_361 : pH := (237, 4704748, p_up hp_360.2.2 236 (.inl (2, 20001, p_zero 2)))
def hp_362 : pH := (237, 4704748, p_up hp_361.2.2 151 (.inr (12, [.ref 152, .int (0 : Int32), .int (0 : Int32), .int (0 : Int32), .int (0 : Int32), .long (0 : Int64), .int (0 : Int32), .int (0 : Int32), .int (0 : Int32), .int (0 : Int32), .int (-2 : Int32), .int (0 : Int32), .int (0 : Int32), .ref 153, .ref 154, .ref 155, .int (0 : Int32), .ref 156, .int (0 : Int32), .ref 157, .ref 158, .ref 159, .ref 160, .ref 161, .ref 162, .int (0 : Int32), .int (0 : Int32), .int (0 : Int32), .int (0 : Int32), .int (0 : Int32), .ref 163, .int (0 : Int32), .int (0 : Int32), .ref 164, .ref 165, .ref 166, .ref 167, .ref 168, .ref 169, .ref 170, .ref 171, .ref 172, .ref 173, .ref 174, .ref 175, .ref 176, .ref 177, .ref 178, .ref 179, .ref 180, .ref 181, .ref 182, .ref 183, .ref 184, .ref 185, .ref 186, .int (0 : Int32), .ref 187, .int (0 : Int32), .int (0 : Int32), .int (0 : Int32), .ref 188, .int (0 : Int32), .ref 189, .int (0 : Int32), .ref 190, .int (0 : Int32), .int (0 : Int32), .int (0 : Int32), .int (0 : Int32), .int (0 : Int32), .int (0 : Int32), .long (0 : Int64), .int (0 : Int32), .int (0 : Int32), .ref 191, .int (0 : Int32), .ref 192, .int (0 : Int32), .ref 193, .ref 194, .ref 195, .ref 196, .ref 197, .ref 198, .ref 199, .ref 200, .int (0 : Int32), .ref 201, .ref 202, .ref 203, .ref 204, .ref 205, .ref 206, .ref 207, .ref 208, .int (0 : Int32), .ref 209, .int (0 : Int32), .int (0 : Int32), .int (0 : Int32), .int (0 : Int32), .int (0 : Int32), .int (0 : Int32), .ref 210, .ref 211, .ref 212, .ref 213, .ref 214, .ref 215, .ref 216, .ref 217, .ref 218, .ref 219, .ref 220, .int (0 : Int32), .ref 221, .ref 222, .ref 223, .ref 224, .int (0 : Int32), .int (0 : Int32), .ref 225, .ref 226, .ref 227, .ref 228, .ref 229, .ref 230, .int (0 : Int32), .ref 231, .ref 232, .int (-2 : Int32), .ref 233, .ref 234, .ref 235, .ref 236, .null, .null, .null, .null, .null, .null, .null, .int (0 : Int32), .null, .null, .null, .int (0 : Int32), .int (0 : Int32), .int (0 : Int32), .int (0 : Int32), .null, .null, .null, .int (0 : Int32)])))
def hp_363 : pH := (238, 4724749, p_up hp_362.2.2 237 (.inl (0, 20001, p_zero 0)))
def hp_364 : pH := (238, 4724749, p_up hp_363.2.2 151 (.inr (12, [.ref 152, .int (0 : Int32), .int (0 : Int32), .int (0 : Int32), .int (0 : Int32), .long (0 : Int64), .int (0 : Int32), .int (0 : Int32), .int (0 : Int32), .int (0 : Int32), .int (-2 : Int32), .int (0 : Int32), .int (0 : Int32), .ref 153, .ref 154, .ref 155, .int (0 : Int32), .ref 156, .int (0 : Int32), .ref 157, .ref 158, .ref 159, .ref 160, .ref 161, .ref 162, .int (0 : Int32), .int (0 : Int32), .int (0 : Int32), .int (0 : Int32), .int (0 : Int32), .ref 163, .int (0 : Int32), .int (0 : Int32), .ref 164, .ref 165, .ref 166, .ref 167, .ref 168, .ref 169, .ref 170, .ref 171, .ref 172, .ref 173, .ref 174, .ref 175, .ref 176, .ref 177, .ref 178, .ref 179, .ref 180, .ref 181, .ref 182, .ref 183, .ref 184, .ref 185, .ref 186, .int (0 : Int32), .ref 187, .int (0 : Int32), .int (0 : Int32), .int (0 : Int32), .ref 188, .int (0 : Int32), .ref 189, .int (0 : Int32), .ref 190, .int (0 : Int32), .int (0 : Int32), .int (0 : Int32), .int (0 : Int32), .int (0 : Int32), .int (0 : Int32), .long (0 : Int64), .int (0 : Int32), .int (0 : Int32), .ref 191, .int (0 : Int32), .ref 192, .int (0 : Int32), .ref 193, .ref 194, .ref 195, .ref 196, .ref 197, .ref 198, .ref 199, .ref 200, .int (0 : Int32), .ref 201, .ref 202, .ref 203, .ref 204, .ref 205, .ref 206, .ref 207, .ref 208, .int (0 : Int32), .ref 209, .int (0 : Int32), .int (0 : Int32), .int (0 : Int32), .int (0 : Int32), .int (0 : Int32), .int (0 : Int32), .ref 210, .ref 211, .ref 212, .ref 213, .ref 214, .ref 215, .ref 216, .ref 217, .ref 218, .ref 219, .ref 220, .int (0 : Int32), .ref 221, .ref 222, .ref 223, .ref 224, .int (0 : Int32), .int (0 : Int32), .ref 225, .ref 226, .ref 227, .ref 228, .ref 229, .ref 230, .int (0 : Int32), .ref 231, .ref 232, .int (-2 : Int32), .ref 233, .ref 234, .ref 235, .ref 236, .ref 237, .null, .null, .null, .null, .null, .null, .int (0 : Int32), .null, .null, .null, .int (0 : Int32), .int (0 : Int32), .int (0 : Int32), .int (0 : Int32), .null, .null, .null, .int (0 : Int32)])))
def hp_365 : pH := (239, 4744750, p_up hp_364.2.2 238 (.inl (0, 20001, p_zero 0)))
def hp_366 : pH := (239, 4744750, p_up hp_365.2.2 151 (.inr (12, [.ref 152, .int (0 : Int32), .int (0 : Int32), .int (0 : Int32), .int (0 : Int32), .long (0 : Int64), .int (0 : Int32), .int (0 : Int32), .int (0 : Int32), .int (0 : Int32), .int (-2 : Int32), .int (0 : Int32), .int (0 : Int32), .ref 153, .ref 154, .ref 155, .int (0 : Int32), .ref 156, .int (0 : Int32), .ref 157, .ref 158, .ref 159, .ref 160, .ref 161, .ref 162, .int (0 : Int32), .int (0 : Int32), .int (0 : Int32), .int (0 : Int32), .int (0 : Int32), .ref 163, .int (0 : Int32), .int (0 : Int32), .ref 164, .ref 165, .ref 166, .ref 167, .ref 168, .ref 169, .ref 170, .ref 171, .ref 172, .ref 173, .ref 174, .ref 175, .ref 176, .ref 177, .ref 178, .ref 179, .ref 180, .ref 181, .ref 182, .ref 183, .ref 184, .ref 185, .ref 186, .int (0 : Int32), .ref 187, .int (0 : Int32), .int (0 : Int32), .int (0 : Int32), .ref 188, .int (0 : Int32), .ref 189, .int (0 : Int32), .ref 190, .int (0 : Int32), .int (0 : Int32), .int (0 : Int32), .int (0 : Int32), .int (0 : Int32), .int (0 : Int32), .long (0 : Int64), .int (0 : Int32), .int (0 : Int32), .ref 191, .int (0 : Int32), .ref 192, .int (0 : Int32), .ref 193, .ref 194, .ref 195, .ref 196, .ref 197, .ref 198, .ref 199, .ref 200, .int (0 : Int32), .ref 201, .ref 202, .ref 203, .ref 204, .ref 205, .ref 206, .ref 207, .ref 208, .int (0 : Int32), .ref 209, .int (0 : Int32), .int (0 : Int32), .int (0 : Int32), .int (0 : Int32), .int (0 : Int32), .int (0 : Int32), .ref 210, .ref 211, .ref 212, .ref 213, .ref 214, .ref 215, .ref 216, .ref 217, .ref 218, .ref 219, .ref 220, .int (0 : Int32), .ref 221, .ref 222, .ref 223, .ref 224, .int (0 : Int32), .int (0 : Int32), .ref 225, .ref 226, .ref 227, .ref 228, .ref 229, .ref 230, .int (0 : Int32), .ref 231, .ref 232, .int (-2 : Int32), .ref 233, .ref 234, .ref 235, .ref 236, .ref 237, .ref 238, .null, .null, .null, .null, .null, .int (0 : Int32), .null, .null, .null, .int (0 : Int32), .int (0 : Int32), .int (0 : Int32), .int (0 : Int32), .null, .null, .null, .int (0 : Int32)])))
def hp_367 : pH := (240, 4764751, p_up hp_366.2.2 239 (.inl (0, 20001, p_zero 0)))
def hp_368 : pH := (240, 4764751, p_up hp_367.2.2 151 (.inr (12, [.ref 152, .int (0 : Int32), .int (0 : Int32), .int (0 : Int32), .int (0 : Int32), .long (0 : Int64), .int (0 : Int32), .int (0 : Int32), .int (0 : Int32), .int (0 : Int32), .int (-2 : Int32), .int (0 : Int32), .int (0 : Int32), .ref 153, .ref 154, .ref 155, .int (0 : Int32), .ref 156, .int (0 : Int32), .ref 157, .ref 158, .ref 159, .ref 160, .ref 161, .ref 162, .int (0 : Int32), .int (0 : Int32), .int (0 : Int32), .int (0 : Int32), .int (0 : Int32), .ref 163, .int (0 : Int32), .int (0 : Int32), .ref 164, .ref 165, .ref 166, .ref 167, .ref 168, .ref 169, .ref 170, .ref 171, .ref 172, .ref 173, .ref 174, .ref 175, .ref 176, .ref 177, .ref 178, .ref 179, .ref 180, .ref 181, .ref 182, .ref 183, .ref 184, .ref 185, .ref 186, .int (0 : Int32), .ref 187, .int (0 : Int32), .int (0 : Int32), .int (0 : Int32), .ref 188, .int (0 : Int32), .ref 189, .int (0 : Int32), .ref 190, .int (0 : Int32), .int (0 : Int32), .int (0 : Int32), .int (0 : Int32), .int (0 : Int32), .int (0 : Int32), .long (0 : Int64), .int (0 : Int32), .int (0 : Int32), .ref 191, .int (0 : Int32), .ref 192, .int (0 : Int32), .ref 193, .ref 194, .ref 195, .ref 196, .ref 197, .ref 198, .ref 199, .ref 200, .int (0 : Int32), .ref 201, .ref 202, .ref 203, .ref 204, .ref 205, .ref 206, .ref 207, .ref 208, .int (0 : Int32), .ref 209, .int (0 : Int32), .int (0 : Int32), .int (0 : Int32), .int (0 : Int32), .int (0 : Int32), .int (0 : Int32), .ref 210, .ref 211, .ref 212, .ref 213, .ref 214, .ref 215, .ref 216, .ref 217, .ref 218, .ref 219, .ref 220, .int (0 : Int32), .ref 221, .ref 222, .ref 223, .ref 224, .int (0 : Int32), .int (0 : Int32), .ref 225, .ref 226, .ref 227, .ref 228, .ref 229, .ref 230, .int (0 : Int32), .ref 231, .ref 232, .int (-2 : Int32), .ref 233, .ref 234, .ref 235, .ref 236, .ref 237, .ref 238, .ref 239, .null, .null, .null, .null, .int (0 : Int32), .null, .null, .null, .int (0 : Int32), .int (0 : Int32), .int (0 : Int32), .int (0 : Int32), .null, .null, .null, .int (0 : Int32)])))
def hp_369 : pH := (241, 4784752, p_up hp_368.2.2 240 (.inl (0, 20001, p_zero 0)))
def hp_370 : pH := (241, 4784752, p_up hp_369.2.2 151 (.inr (12, [.ref 152, .int (0 : Int32), .int (0 : Int32), .int (0 : Int32), .int (0 : Int32), .long (0 : Int64), .int (0 : Int32), .int (0 : Int32), .int (0 : Int32), .int (0 : Int32), .int (-2 : Int32), .int (0 : Int32), .int (0 : Int32), .ref 153, .ref 154, .ref 155, .int (0 : Int32), .ref 156, .int (0 : Int32), .ref 157, .ref 158, .ref 159, .ref 160, .ref 161, .ref 162, .int (0 : Int32), .int (0 : Int32), .int (0 : Int32), .int (0 : Int32), .int (0 : Int32), .ref 163, .int (0 : Int32), .int (0 : Int32), .ref 164, .ref 165, .ref 166, .ref 167, .ref 168, .ref 169, .ref 170, .ref 171, .ref 172, .ref 173, .ref 174, .ref 175, .ref 176, .ref 177, .ref 178, .ref 179, .ref 180, .ref 181, .ref 182, .ref 183, .ref 184, .ref 185, .ref 186, .int (0 : Int32), .ref 187, .int (0 : Int32), .int (0 : Int32), .int (0 : Int32), .ref 188, .int (0 : Int32), .ref 189, .int (0 : Int32), .ref 190, .int (0 : Int32), .int (0 : Int32), .int (0 : Int32), .int (0 : Int32), .int (0 : Int32), .int (0 : Int32), .long (0 : Int64), .int (0 : Int32), .int (0 : Int32), .ref 191, .int (0 : Int32), .ref 192, .int (0 : Int32), .ref 193, .ref 194, .ref 195, .ref 196, .ref 197, .ref 198, .ref 199, .ref 200, .int (0 : Int32), .ref 201, .ref 202, .ref 203, .ref 204, .ref 205, .ref 206, .ref 207, .ref 208, .int (0 : Int32), .ref 209, .int (0 : Int32), .int (0 : Int32), .int (0 : Int32), .int (0 : Int32), .int (0 : Int32), .int (0 : Int32), .ref 210, .ref 211, .ref 212, .ref 213, .ref 214, .ref 215, .ref 216, .ref 217, .ref 218, .ref 219, .ref 220, .int (0 : Int32), .ref 221, .ref 222, .ref 223, .ref 224, .int (0 : Int32), .int (0 : Int32), .ref 225, .ref 226, .ref 227, .ref 228, .ref 229, .ref 230, .int (0 : Int32), .ref 231, .ref 232, .int (-2 : Int32), .ref 233, .ref 234, .ref 235, .ref 236, .ref 237, .ref 238, .ref 239, .ref 240, .null, .null, .null, .int (0 : Int32), .null, .null, .null, .int (0 : Int32), .int (0 : Int32), .int (0 : Int32), .int (0 : Int32), .null, .null, .null, .int (0 : Int32)])))
def hp_371 : pH := (242, 4804753, p_up hp_370.2.2 241 (.inl (0, 20001, p_zero 0)))
def hp_372 : pH := (242, 4804753, p_up hp_371.2.2 151 (.inr (12, [.ref 152, .int (0 : Int32), .int (0 : Int32), .int (0 : Int32), .int (0 : Int32), .long (0 : Int64), .int (0 : Int32), .int (0 : Int32), .int (0 : Int32), .int (0 : Int32), .int (-2 : Int32), .int (0 : Int32), .int (0 : Int32), .ref 153, .ref 154, .ref 155, .int (0 : Int32), .ref 156, .int (0 : Int32), .ref 157, .ref 158, .ref 159, .ref 160, .ref 161, .ref 162, .int (0 : Int32), .int (0 : Int32), .int (0 : Int32), .int (0 : Int32), .int (0 : Int32), .ref 163, .int (0 : Int32), .int (0 : Int32), .ref 164, .ref 165, .ref 166, .ref 167, .ref 168, .ref 169, .ref 170, .ref 171, .ref 172, .ref 173, .ref 174, .ref 175, .ref 176, .ref 177, .ref 178, .ref 179, .ref 180, .ref 181, .ref 182, .ref 183, .ref 184, .ref 185, .ref 186, .int (0 : Int32), .ref 187, .int (0 : Int32), .int (0 : Int32), .int (0 : Int32), .ref 188, .int (0 : Int32), .ref 189, .int (0 : Int32), .ref 190, .int (0 : Int32), .int (0 : Int32), .int (0 : Int32), .int (0 : Int32), .int (0 : Int32), .int (0 : Int32), .long (0 : Int64), .int (0 : Int32), .int (0 : Int32), .ref 191, .int (0 : Int32), .ref 192, .int (0 : Int32), .ref 193, .ref 194, .ref 195, .ref 196, .ref 197, .ref 198, .ref 199, .ref 200, .int (0 : Int32), .ref 201, .ref 202, .ref 203, .ref 204, .ref 205, .ref 206, .ref 207, .ref 208, .int (0 : Int32), .ref 209, .int (0 : Int32), .int (0 : Int32), .int (0 : Int32), .int (0 : Int32), .int (0 : Int32), .int (0 : Int32), .ref 210, .ref 211, .ref 212, .ref 213, .ref 214, .ref 215, .ref 216, .ref 217, .ref 218, .ref 219, .ref 220, .int (0 : Int32), .ref 221, .ref 222, .ref 223, .ref 224, .int (0 : Int32), .int (0 : Int32), .ref 225, .ref 226, .ref 227, .ref 228, .ref 229, .ref 230, .int (0 : Int32), .ref 231, .ref 232, .int (-2 : Int32), .ref 233, .ref 234, .ref 235, .ref 236, .ref 237, .ref 238, .ref 239, .ref 240, .ref 241, .null, .null, .int (0 : Int32), .null, .null, .null, .int (0 : Int32), .int (0 : Int32), .int (0 : Int32), .int (0 : Int32), .null, .null, .null, .int (0 : Int32)])))
def hp_373 : pH := (243, 4824754, p_up hp_372.2.2 242 (.inl (0, 20001, p_zero 0)))
def hp_374 : pH := (243, 4824754, p_up hp_373.2.2 151 (.inr (12, [.ref 152, .int (0 : Int32), .int (0 : Int32), .int (0 : Int32), .int (0 : Int32), .long (0 : Int64), .int (0 : Int32), .int (0 : Int32), .int (0 : Int32), .int (0 : Int32), .int (-2 : Int32), .int (0 : Int32), .int (0 : Int32), .ref 153, .ref 154, .ref 155, .int (0 : Int32), .ref 156, .int (0 : Int32), .ref 157, .ref 158, .ref 159, .ref 160, .ref 161, .ref 162, .int (0 : Int32), .int (0 : Int32), .int (0 : Int32), .int (0 : Int32), .int (0 : Int32), .ref 163, .int (0 : Int32), .int (0 : Int32), .ref 164, .ref 165, .ref 166, .ref 167, .ref 168, .ref 169, .ref 170, .ref 171, .ref 172, .ref 173, .ref 174, .ref 175, .ref 176, .ref 177, .ref 178, .ref 179, .ref 180, .ref 181, .ref 182, .ref 183, .ref 184, .ref 185, .ref 186, .int (0 : Int32), .ref 187, .int (0 : Int32), .int (0 : Int32), .int (0 : Int32), .ref 188, .int (0 : Int32), .ref 189, .int (0 : Int32), .ref 190, .int (0 : Int32), .int (0 : Int32), .int (0 : Int32), .int (0 : Int32), .int (0 : Int32), .int (0 : Int32), .long (0 : Int64), .int (0 : Int32), .int (0 : Int32), .ref 191, .int (0 : Int32), .ref 192, .int (0 : Int32), .ref 193, .ref 194, .ref 195, .ref 196, .ref 197, .ref 198, .ref 199, .ref 200, .int (0 : Int32), .ref 201, .ref 202, .ref 203, .ref 204, .ref 205, .ref 206, .ref 207, .ref 208, .int (0 : Int32), .ref 209, .int (0 : Int32), .int (0 : Int32), .int (0 : Int32), .int (0 : Int32), .int (0 : Int32), .int (0 : Int32), .ref 210, .ref 211, .ref 212, .ref 213, .ref 214, .ref 215, .ref 216, .ref 217, .ref 218, .ref 219, .ref 220, .int (0 : Int32), .ref 221, .ref 222, .ref 223, .ref 224, .int (0 : Int32), .int (0 : Int32), .ref 225, .ref 226, .ref 227, .ref 228, .ref 229, .ref 230, .int (0 : Int32), .ref 231, .ref 232, .int (-2 : Int32), .ref 233, .ref 234, .ref 235, .ref 236, .ref 237, .ref 238, .ref 239, .ref 240, .ref 241, .ref 242, .null, .int (0 : Int32), .null, .null, .null, .int (0 : Int32), .int (0 : Int32), .int (0 : Int32), .int (0 : Int32), .null, .null, .null, .int (0 : Int32)])))
def hp_375 : pH := (244, 4844755, p_up hp_374.2.2 243 (.inl (0, 20001, p_zero 0)))
def hp_376 : pH := (244, 4844755, p_up hp_375.2.2 151 (.inr (12, [.ref 152, .int (0 : Int32), .int (0 : Int32), .int (0 : Int32), .int (0 : Int32), .long (0 : Int64), .int (0 : Int32), .int (0 : Int32), .int (0 : Int32), .int (0 : Int32), .int (-2 : Int32), .int (0 : Int32), .int (0 : Int32), .ref 153, .ref 154, .ref 155, .int (0 : Int32), .ref 156, .int (0 : Int32), .ref 157, .ref 158, .ref 159, .ref 160, .ref 161, .ref 162, .int (0 : Int32), .int (0 : Int32), .int (0 : Int32), .int (0 : Int32), .int (0 : Int32), .ref 163, .int (0 : Int32), .int (0 : Int32), .ref 164, .ref 165, .ref 166, .ref 167, .ref 168, .ref 169, .ref 170, .ref 171, .ref 172, .ref 173, .ref 174, .ref 175, .ref 176, .ref 177, .ref 178, .ref 179, .ref 180, .ref 181, .ref 182, .ref 183, .ref 184, .ref 185, .ref 186, .int (0 : Int32), .ref 187, .int (0 : Int32), .int (0 : Int32), .int (0 : Int32), .ref 188, .int (0 : Int32), .ref 189, .int (0 : Int32), .ref 190, .int (0 : Int32), .int (0 : Int32), .int (0 : Int32), .int (0 : Int32), .int (0 : Int32), .int (0 : Int32), .long (0 : Int64), .int (0 : Int32), .int (0 : Int32), .ref 191, .int (0 : Int32), .ref 192, .int (0 : Int32), .ref 193, .ref 194, .ref 195, .ref 196, .ref 197, .ref 198, .ref 199, .ref 200, .int (0 : Int32), .ref 201, .ref 202, .ref 203, .ref 204, .ref 205, .ref 206, .ref 207, .ref 208, .int (0 : Int32), .ref 209, .int (0 : Int32), .int (0 : Int32), .int (0 : Int32), .int (0 : Int32), .int (0 : Int32), .int (0 : Int32), .ref 210, .ref 211, .ref 212, .ref 213, .ref 214, .ref 215, .ref 216, .ref 217, .ref 218, .ref 219, .ref 220, .int (0 : Int32), .ref 221, .ref 222, .ref 223, .ref 224, .int (0 : Int32), .int (0 : Int32), .ref 225, .ref 226, .ref 227, .ref 228, .ref 229, .ref 230, .int (0 : Int32), .ref 231, .ref 232, .int (-2 : Int32), .ref 233, .ref 234, .ref 235, .ref 236, .ref 237, .ref 238, .ref 239, .ref 240, .ref 241, .ref 242, .ref 243, .int (0 : Int32), .null, .null, .null, .int (0 : Int32), .int (0 : Int32), .int (0 : Int32), .int (0 : Int32), .null, .null, .null, .int (0 : Int32)])))
def hp_377 : pH := (245, 4864756, p_up hp_376.2.2 244 (.inl (2, 20001, p_zero 2)))
def hp_378 : pH := (245, 4864756, p_up hp_377.2.2 151 (.inr (12, [.ref 152, .int (0 : Int32), .int (0 : Int32), .int (0 : Int32), .int (0 : Int32), .long (0 : Int64), .int (0 : Int32), .int (0 : Int32), .int (0 : Int32), .int (0 : Int32), .int (-2 : Int32), .int (0 : Int32), .int (0 : Int32), .ref 153, .ref 154, .ref 155, .int (0 : Int32), .ref 156, .int (0 : Int32), .ref 157, .ref 158, .ref 159, .ref 160, .ref 161, .ref 162, .int (0 : Int32), .int (0 : Int32), .int (0 : Int32), .int (0 : Int32), .int (0 : Int32), .ref 163, .int (0 : Int32), .int (0 : Int32), .ref 164, .ref 165, .ref 166, .ref 167, .ref 168, .ref 169, .ref 170, .ref 171, .ref 172, .ref 173, .ref 174, .ref 175, .ref 176, .ref 177, .ref 178, .ref 179, .ref 180, .ref 181, .ref 182, .ref 183, .ref 184, .ref 185, .ref 186, .int (0 : Int32), .ref 187, .int (0 : Int32), .int (0 : Int32), .int (0 : Int32), .ref 188, .int (0 : Int32), .ref 189, .int (0 : Int32), .ref 190, .int (0 : Int32), .int (0 : Int32), .int (0 : Int32), .int (0 : Int32), .int (0 : Int32), .int (0 : Int32), .long (0 : Int64), .int (0 : Int32), .int (0 : Int32), .ref 191, .int (0 : Int32), .ref 192, .int (0 : Int32), .ref 193, .ref 194, .ref 195, .ref 196, .ref 197, .ref 198, .ref 199, .ref 200, .int (0 : Int32), .ref 201, .ref 202, .ref 203, .ref 204, .ref 205, .ref 206, .ref 207, .ref 208, .int (0 : Int32), .ref 209, .int (0 : Int32), .int (0 : Int32), .int (0 : Int32), .int (0 : Int32), .int (0 : Int32), .int (0 : Int32), .ref 210, .ref 211, .ref 212, .ref 213, .ref 214, .ref 215, .ref 216, .ref 217, .ref 218, .ref 219, .ref 220, .int (0 : Int32), .ref 221, .ref 222, .ref 223, .ref 224, .int (0 : Int32), .int (0 : Int32), .ref 225, .ref 226, .ref 227, .ref 228, .ref 229, .ref 230, .int (0 : Int32), .ref 231, .ref 232, .int (-2 : Int32), .ref 233, .ref 234, .ref 235, .ref 236, .ref 237, .ref 238, .ref 239, .ref 240, .ref 241, .ref 242, .ref 243, .int (0 : Int32), .ref 244, .null, .null, .int (0 : Int32), .int (0 : Int32), .int (0 : Int32), .int (0 : Int32), .null, .null, .null, .int (0 : Int32)])))
def hp_379 : pH := (246, 4884757, p_up hp_378.2.2 245 (.inl (0, 20001, p_zero 0)))
def hp_380 : pH := (246, 4884757, p_up hp_379.2.2 151 (.inr (12, [.ref 152, .int (0 : Int32), .int (0 : Int32), .int (0 : Int32), .int (0 : Int32), .long (0 : Int64), .int (0 : Int32), .int (0 : Int32), .int (0 : Int32), .int (0 : Int32), .int (-2 : Int32), .int (0 : Int32), .int (0 : Int32), .ref 153, .ref 154, .ref 155, .int (0 : Int32), .ref 156, .int (0 : Int32), .ref 157, .ref 158, .ref 159, .ref 160, .ref 161, .ref 162, .int (0 : Int32), .int (0 : Int32), .int (0 : Int32), .int (0 : Int32), .int (0 : Int32), .ref 163, .int (0 : Int32), .int (0 : Int32), .ref 164, .ref 165, .ref 166, .ref 167, .ref 168, .ref 169, .ref 170, .ref 171, .ref 172, .ref 173, .ref 174, .ref 175, .ref 176, .ref 177, .ref 178, .ref 179, .ref 180, .ref 181, .ref 182, .ref 183, .ref 184, .ref 185, .ref 186, .int (0 : Int32), .ref 187, .int (0 : Int32), .int (0 : Int32), .int (0 : Int32), .ref 188, .int (0 : Int32), .ref 189, .int (0 : Int32), .ref 190, .int (0 : Int32), .int (0 : Int32), .int (0 : Int32), .int (0 : Int32), .int (0 : Int32), .int (0 : Int32), .long (0 : Int64), .int (0 : Int32), .int (0 : Int32), .ref 191, .int (0 : Int32), .ref 192, .int (0 : Int32), .ref 193, .ref 194, .ref 195, .ref 196, .ref 197, .ref 198, .ref 199, .ref 200, .int (0 : Int32), .ref 201, .ref 202, .ref 203, .ref 204, .ref 205, .ref 206, .ref 207, .ref 208, .int (0 : Int32), .ref 209, .int (0 : Int32), .int (0 : Int32), .int (0 : Int32), .int (0 : Int32), .int (0 : Int32), .int (0 : Int32), .ref 210, .ref 211, .ref 212, .ref 213, .ref 214, .ref 215, .ref 216, .ref 217, .ref 218, .ref 219, .ref 220, .int (0 : Int32), .ref 221, .ref 222, .ref 223, .ref 224, .int (0 : Int32), .int (0 : Int32), .ref 225, .ref 226, .ref 227, .ref 228, .ref 229, .ref 230, .int (0 : Int32), .ref 231, .ref 232, .int (-2 : Int32), .ref 233, .ref 234, .ref 235, .ref 236, .ref 237, .ref 238, .ref 239, .ref 240, .ref 241, .ref 242, .ref 243, .int (0 : Int32), .ref 244, .ref 245, .null, .int (0 : Int32), .int (0 : Int32), .int (0 : Int32), .int (0 : Int32), .null, .null, .null, .int (0 : Int32)])))
def hp_381 : pH := (247, 4904758, p_up hp_380.2.2 246 (.inl (0, 20001, p_zero 0)))
def hp_382 : pH := (247, 4904758, p_up hp_381.2.2 151 (.inr (12, [.ref 152, .int (0 : Int32), .int (0 : Int32), .int (0 : Int32), .int (0 : Int32), .long (0 : Int64), .int (0 : Int32), .int (0 : Int32), .int (0 : Int32), .int (0 : Int32), .int (-2 : Int32), .int (0 : Int32), .int (0 : Int32), .ref 153, .ref 154, .ref 155, .int (0 : Int32), .ref 156, .int (0 : Int32), .ref 157, .ref 158, .ref 159, .ref 160, .ref 161, .ref 162, .int (0 : Int32), .int (0 : Int32), .int (0 : Int32), .int (0 : Int32), .int (0 : Int32), .ref 163, .int (0 : Int32), .int (0 : Int32), .ref 164, .ref 165, .ref 166, .ref 167, .ref 168, .ref 169, .ref 170, .ref 171, .ref 172, .ref 173, .ref 174, .ref 175, .ref 176, .ref 177, .ref 178, .ref 179, .ref 180, .ref 181, .ref 182, .ref 183, .ref 184, .ref 185, .ref 186, .int (0 : Int32), .ref 187, .int (0 : Int32), .int (0 : Int32), .int (0 : Int32), .ref 188, .int (0 : Int32), .ref 189, .int (0 : Int32), .ref 190, .int (0 : Int32), .int (0 : Int32), .int (0 : Int32), .int (0 : Int32), .int (0 : Int32), .int (0 : Int32), .long (0 : Int64), .int (0 : Int32), .int (0 : Int32), .ref 191, .int (0 : Int32), .ref 192, .int (0 : Int32), .ref 193, .ref 194, .ref 195, .ref 196, .ref 197, .ref 198, .ref 199, .ref 200, .int (0 : Int32), .ref 201, .ref 202, .ref 203, .ref 204, .ref 205, .ref 206, .ref 207, .ref 208, .int (0 : Int32), .ref 209, .int (0 : Int32), .int (0 : Int32), .int (0 : Int32), .int (0 : Int32), .int (0 : Int32), .int (0 : Int32), .ref 210, .ref 211, .ref 212, .ref 213, .ref 214, .ref 215, .ref 216, .ref 217, .ref 218, .ref 219, .ref 220, .int (0 : Int32), .ref 221, .ref 222, .ref 223, .ref 224, .int (0 : Int32), .int (0 : Int32), .ref 225, .ref 226, .ref 227, .ref 228, .ref 229, .ref 230, .int (0 : Int32), .ref 231, .ref 232, .int (-2 : Int32), .ref 233, .ref 234, .ref 235, .ref 236, .ref 237, .ref 238, .ref 239, .ref 240, .ref 241, .ref 242, .ref 243, .int (0 : Int32), .ref 244, .ref 245, .ref 246, .int (0 : Int32), .int (0 : Int32), .int (0 : Int32), .int (0 : Int32), .null, .null, .null, .int (0 : Int32)])))
def hp_383 : pH := (247, 4904758, p_up hp_382.2.2 151 (.inr (12, [.ref 152, .int (0 : Int32), .int (0 : Int32), .int (0 : Int32), .int (0 : Int32), .long (0 : Int64), .int (0 : Int32), .int (0 : Int32), .int (0 : Int32), .int (0 : Int32), .int (-2 : Int32), .int (0 : Int32), .int (0 : Int32), .ref 153, .ref 154, .ref 155, .int (0 : Int32), .ref 156, .int (0 : Int32), .ref 157, .ref 158, .ref 159, .ref 160, .ref 161, .ref 162, .int (0 : Int32), .int (0 : Int32), .int (0 : Int32), .int (0 : Int32), .int (0 : Int32), .ref 163, .int (0 : Int32), .int (0 : Int32), .ref 164, .ref 165, .ref 166, .ref 167, .ref 168, .ref 169, .ref 170, .ref 171, .ref 172, .ref 173, .ref 174, .ref 175, .ref 176, .ref 177, .ref 178, .ref 179, .ref 180, .ref 181, .ref 182, .ref 183, .ref 184, .ref 185, .ref 186, .int (0 : Int32), .ref 187, .int (0 : Int32), .int (0 : Int32), .int (0 : Int32), .ref 188, .int (0 : Int32), .ref 189, .int (0 : Int32), .ref 190, .int (0 : Int32), .int (0 : Int32), .int (0 : Int32), .int (0 : Int32), .int (0 : Int32), .int (0 : Int32), .long (0 : Int64), .int (0 : Int32), .int (0 : Int32), .ref 191, .int (0 : Int32), .ref 192, .int (0 : Int32), .ref 193, .ref 194, .ref 195, .ref 196, .ref 197, .ref 198, .ref 199, .ref 200, .int (0 : Int32), .ref 201, .ref 202, .ref 203, .ref 204, .ref 205, .ref 206, .ref 207, .ref 208, .int (0 : Int32), .ref 209, .int (0 : Int32), .int (0 : Int32), .int (0 : Int32), .int (0 : Int32), .int (0 : Int32), .int (0 : Int32), .ref 210, .ref 211, .ref 212, .ref 213, .ref 214, .ref 215, .ref 216, .ref 217, .ref 218, .ref 219, .ref 220, .int (0 : Int32), .ref 221, .ref 222, .ref 223, .ref 224, .int (0 : Int32), .int (0 : Int32), .ref 225, .ref 226, .ref 227, .ref 228, .ref 229, .ref 230, .int (0 : Int32), .ref 231, .ref 232, .int (-2 : Int32), .ref 233, .ref 234, .ref 235, .ref 236, .ref 237, .ref 238, .ref 239, .ref 240, .ref 241, .ref 242, .ref 243, .int (0 : Int32), .ref 244, .ref 245, .ref 246, .int (0 : Int32), .int (0 : Int32), .int (0 : Int32), .int (-2 : Int32), .null, .null, .null, .int (0 : Int32)])))
def hp_384 : pH := (248, 4908758, p_up hp_383.2.2 247 (.inl (0, 4000, p_zero 0)))
def hp_385 : pH := (248, 4908758, p_up hp_384.2.2 151 (.inr (12, [.ref 152, .int (0 : Int32), .int (0 : Int32), .int (0 : Int32), .int (0 : Int32), .long (0 : Int64), .int (0 : Int32), .int (0 : Int32), .int (0 : Int32), .int (0 : Int32), .int (-2 : Int32), .int (0 : Int32), .int (0 : Int32), .ref 153, .ref 154, .ref 155, .int (0 : Int32), .ref 156, .int (0 : Int32), .ref 157, .ref 158, .ref 159, .ref 160, .ref 161, .ref 162, .int (0 : Int32), .int (0 : Int32), .int (0 : Int32), .int (0 : Int32), .int (0 : Int32), .ref 163, .int (0 : Int32), .int (0 : Int32), .ref 164, .ref 165, .ref 166, .ref 167, .ref 168, .ref 169, .ref 170, .ref 171, .ref 172, .ref 173, .ref 174, .ref 175, .ref 176, .ref 177, .ref 178, .ref 179, .ref 180, .ref 181, .ref 182, .ref 183, .ref 184, .ref 185, .ref 186, .int (0 : Int32), .ref 187, .int (0 : Int32), .int (0 : Int32), .int (0 : Int32), .ref 188, .int (0 : Int32), .ref 189, .int (0 : Int32), .ref 190, .int (0 : Int32), .int (0 : Int32), .int (0 : Int32), .int (0 : Int32), .int (0 : Int32), .int (0 : Int32), .long (0 : Int64), .int (0 : Int32), .int (0 : Int32), .ref 191, .int (0 : Int32), .ref 192, .int (0 : Int32), .ref 193, .ref 194, .ref 195, .ref 196, .ref 197, .ref 198, .ref 199, .ref 200, .int (0 : Int32), .ref 201, .ref 202, .ref 203, .ref 204, .ref 205, .ref 206, .ref 207, .ref 208, .int (0 : Int32), .ref 209, .int (0 : Int32), .int (0 : Int32), .int (0 : Int32), .int (0 : Int32), .int (0 : Int32), .int (0 : Int32), .ref 210, .ref 211, .ref 212, .ref 213, .ref 214, .ref 215, .ref 216, .ref 217, .ref 218, .ref 219, .ref 220, .int (0 : Int32), .ref 221, .ref 222, .ref 223, .ref 224, .int (0 : Int32), .int (0 : Int32), .ref 225, .ref 226, .ref 227, .ref 228, .ref 229, .ref 230, .int (0 : Int32), .ref 231, .ref 232, .int (-2 : Int32), .ref 233, .ref 234, .ref 235, .ref 236, .ref 237, .ref 238, .ref 239, .ref 240, .ref 241, .ref 242, .ref 243, .int (0 : Int32), .ref 244, .ref 245, .ref 246, .int (0 : Int32), .int (0 : Int32), .int (0 : Int32), .int (-2 : Int32), .ref 247, .null, .null, .int (0 : Int32)])))
def hp_386 : pH := (249, 4940758, p_up hp_385.2.2 248 (.inl (0, 32000, p_zero 0)))
def hp_387 : pH := (249, 4940758, p_up hp_386.2.2 151 (.inr (12, [.ref 152, .int (0 : Int32), .int (0 : Int32), .int (0 : Int32), .int (0 : Int32), .long (0 : Int64), .int (0 : Int32), .int (0 : Int32), .int (0 : Int32), .int (0 : Int32), .int (-2 : Int32), .int (0 : Int32), .int (0 : Int32), .ref 153, .ref 154, .ref 155, .int (0 : Int32), .ref 156, .int (0 : Int32), .ref 157, .ref 158, .ref 159, .ref 160, .ref 161, .ref 162, .int (0 : Int32), .int (0 : Int32), .int (0 : Int32), .int (0 : Int32), .int (0 : Int32), .ref 163, .int (0 : Int32), .int (0 : Int32), .ref 164, .ref 165, .ref 166, .ref 167, .ref 168, .ref 169, .ref 170, .ref 171, .ref 172, .ref 173, .ref 174, .ref 175, .ref 176, .ref 177, .ref 178, .ref 179, .ref 180, .ref 181, .ref 182, .ref 183, .ref 184, .ref 185, .ref 186, .int (0 : Int32), .ref 187, .int (0 : Int32), .int (0 : Int32), .int (0 : Int32), .ref 188, .int (0 : Int32), .ref 189, .int (0 : Int32), .ref 190, .int (0 : Int32), .int (0 : Int32), .int (0 : Int32), .int (0 : Int32), .int (0 : Int32), .int (0 : Int32), .long (0 : Int64), .int (0 : Int32), .int (0 : Int32), .ref 191, .int (0 : Int32), .ref 192, .int (0 : Int32), .ref 193, .ref 194, .ref 195, .ref 196, .ref 197, .ref 198, .ref 199, .ref 200, .int (0 : Int32), .ref 201, .ref 202, .ref 203, .ref 204, .ref 205, .ref 206, .ref 207, .ref 208, .int (0 : Int32), .ref 209, .int (0 : Int32), .int (0 : Int32), .int (0 : Int32), .int (0 : Int32), .int (0 : Int32), .int (0 : Int32), .ref 210, .ref 211, .ref 212, .ref 213, .ref 214, .ref 215, .ref 216, .ref 217, .ref 218, .ref 219, .ref 220, .int (0 : Int32), .ref 221, .ref 222, .ref 223, .ref 224, .int (0 : Int32), .int (0 : Int32), .ref 225, .ref 226, .ref 227, .ref 228, .ref 229, .ref 230, .int (0 : Int32), .ref 231, .ref 232, .int (-2 : Int32), .ref 233, .ref 234, .ref 235, .ref 236, .ref 237, .ref 238, .ref 239, .ref 240, .ref 241, .ref 242, .ref 243, .int (0 : Int32), .ref 244, .ref 245, .ref 246, .int (0 : Int32), .int (0 : Int32), .int (0 : Int32), .int (-2 : Int32), .ref 247, .ref 248, .null, .int (0 : Int32)])))
def hp_388 : pH := (250, 5036758, p_up hp_387.2.2 249 (.inl (0, 96000, p_zero 0)))
def hp_389 : pH := (250, 5036758, p_up hp_388.2.2 151 (.inr (12, [.ref 152, .int (0 : Int32), .int (0 : Int32), .int (0 : Int32), .int (0 : Int32), .long (0 : Int64), .int (0 : Int32), .int (0 : Int32), .int (0 : Int32), .int (0 : Int32), .int (-2 : Int32), .int (0 : Int32), .int (0 : Int32), .ref 153, .ref 154, .ref 155, .int (0 : Int32), .ref 156, .int (0 : Int32), .ref 157, .ref 158, .ref 159, .ref 160, .ref 161, .ref 162, .int (0 : Int32), .int (0 : Int32), .int (0 : Int32), .int (0 : Int32), .int (0 : Int32), .ref 163, .int (0 : Int32), .int (0 : Int32), .ref 164, .ref 165, .ref 166, .ref 167, .ref 168, .ref 169, .ref 170, .ref 171, .ref 172, .ref 173, .ref 174, .ref 175, .ref 176, .ref 177, .ref 178, .ref 179, .ref 180, .ref 181, .ref 182, .ref 183, .ref 184, .ref 185, .ref 186, .int (0 : Int32), .ref 187, .int (0 : Int32), .int (0 : Int32), .int (0 : Int32), .ref 188, .int (0 : Int32), .ref 189, .int (0 : Int32), .ref 190, .int (0 : Int32), .int (0 : Int32), .int (0 : Int32), .int (0 : Int32), .int (0 : Int32), .int (0 : Int32), .long (0 : Int64), .int (0 : Int32), .int (0 : Int32), .ref 191, .int (0 : Int32), .ref 192, .int (0 : Int32), .ref 193, .ref 194, .ref 195, .ref 196, .ref 197, .ref 198, .ref 199, .ref 200, .int (0 : Int32), .ref 201, .ref 202, .ref 203, .ref 204, .ref 205, .ref 206, .ref 207, .ref 208, .int (0 : Int32), .ref 209, .int (0 : Int32), .int (0 : Int32), .int (0 : Int32), .int (0 : Int32), .int (0 : Int32), .int (0 : Int32), .ref 210, .ref 211, .ref 212, .ref 213, .ref 214, .ref 215, .ref 216, .ref 217, .ref 218, .ref 219, .ref 220, .int (0 : Int32), .ref 221, .ref 222, .ref 223, .ref 224, .int (0 : Int32), .int (0 : Int32), .ref 225, .ref 226, .ref 227, .ref 228, .ref 229, .ref 230, .int (0 : Int32), .ref 231, .ref 232, .int (-2 : Int32), .ref 233, .ref 234, .ref 235, .ref 236, .ref 237, .ref 238, .ref 239, .ref 240, .ref 241, .ref 242, .ref 243, .int (0 : Int32), .ref 244, .ref 245, .ref 246, .int (0 : Int32), .int (0 : Int32), .int (0 : Int32), .int (-2 : Int32), .ref 247, .ref 248, .ref 249, .int (0 : Int32)])))
set_option maxRecDepth 100000 in
set_option maxHeartbeats 4000000 in
theorem ct_X12_init_1 {en : pN} {d : Nat} : pev msL en (d + 1) 240 [.ref 151] hp_190 = some (none, hp_389) := by
  refine x_enter ix_X12_init (Nat.le_of_ble_eq_true rfl) ?_
  show xW _ en none tb_X12_init (0, [(0, .ref 151)], []) hp_190 _
  refine x_L 1 (f' := (1, [(0, .ref 151)], [.ref 151])) rfl ?_
  refine x_obj rfl rfl (Nat.le_of_ble_eq_true rfl) ?_
  show xW _ en none tb_X12_init (4, [(0, .ref 151)], []) hp_190 _
  refine x_L 2 (f' := (8, [(0, .ref 151)], [.int (4000 : Int32), .ref 151])) rfl ?_
  refine x_H ((10, [(0, .ref 151)], [.ref 152, .ref 151]), hp_191) rfl rfl rfl rfl rfl ?_
  refine x_H ((13, [(0, .ref 151)], []), hp_192) rfl rfl rfl rfl rfl ?_
  refine x_L 2 (f' := (16, [(0, .ref 151)], [.int (-2 : Int32), .ref 151])) rfl ?_
  refine x_H ((19, [(0, .ref 151)], []), hp_193) rfl rfl rfl rfl rfl ?_
  refine x_L 2 (f' := (22, [(0, .ref 151)], [.int (8 : Int32), .ref 151])) rfl ?_
  refine x_H ((24, [(0, .ref 151)], [.ref 153, .ref 151]), hp_194) rfl rfl rfl rfl rfl ?_
  refine x_H ((27, [(0, .ref 151)], []), hp_195) rfl rfl rfl rfl rfl ?_
  refine x_L 2 (f' := (30, [(0, .ref 151)], [.int (8 : Int32), .ref 151])) rfl ?_
  refine x_H ((32, [(0, .ref 151)], [.ref 154, .ref 151]), hp_196) rfl rfl rfl rfl rfl ?_
  refine x_H ((35, [(0, .ref 151)], []), hp_197) rfl rfl rfl rfl rfl ?_
  refine x_L 2 (f' := (38, [(0, .ref 151)], [.int (8 : Int32), .ref 151])) rfl ?_
  refine x_H ((40, [(0, .ref 151)], [.ref 155, .ref 151]), hp_198) rfl rfl rfl rfl rfl ?_
  refine x_H ((43, [(0, .ref 151)], []), hp_199) rfl rfl rfl rfl rfl ?_
  refine x_L 2 (f' := (45, [(0, .ref 151)], [.int (4 : Int32), .ref 151])) rfl ?_
  refine x_H ((47, [(0, .ref 151)], [.ref 156, .ref 151]), hp_200) rfl rfl rfl rfl rfl ?_
  refine x_H ((50, [(0, .ref 151)], []), hp_201) rfl rfl rfl rfl rfl ?_
  refine x_L 2 (f' := (52, [(0, .ref 151)], [.int (4 : Int32), .ref 151])) rfl ?_
  refine x_H ((54, [(0, .ref 151)], [.ref 157, .ref 151]), hp_202) rfl rfl rfl rfl rfl ?_
  refine x_H ((57, [(0, .ref 151)], []), hp_203) rfl rfl rfl rfl rfl ?_
  refine x_L 2 (f' := (59, [(0, .ref 151)], [.int (4 : Int32), .ref 151])) rfl ?_
  refine x_H ((61, [(0, .ref 151)], [.ref 158, .ref 151]), hp_204) rfl rfl rfl rfl rfl ?_
  refine x_H ((64, [(0, .ref 151)], []), hp_205) rfl rfl rfl rfl rfl ?_
  refine x_L 2 (f' := (66, [(0, .ref 151)], [.int (4 : Int32), .ref 151])) rfl ?_
  refine x_H ((68, [(0, .ref 151)], [.ref 159, .ref 151]), hp_206) rfl rfl rfl rfl rfl ?_
  refine x_H ((71, [(0, .ref 151)], []), hp_207) rfl rfl rfl rfl rfl ?_
  refine x_L 2 (f' := (74, [(0, .ref 151)], [.int (24 : Int32), .ref 151])) rfl ?_
  refine x_H ((76, [(0, .ref 151)], [.ref 160, .ref 151]), hp_208) rfl rfl rfl rfl rfl ?_
  refine x_H ((79, [(0, .ref 151)], []), hp_209) rfl rfl rfl rfl rfl ?_
  refine x_L 2 (f' := (83, [(0, .ref 151)], [.int (900 : Int32), .ref 151])) rfl ?_
  refine x_H ((85, [(0, .ref 151)], [.ref 161, .ref 151]), hp_210) rfl rfl rfl rfl rfl ?_
  refine x_H ((88, [(0, .ref 151)], []), hp_211) rfl rfl rfl rfl rfl ?_
  refine x_L 2 (f' := (92, [(0, .ref 151)], [.int (900 : Int32), .ref 151])) rfl ?_
  refine x_H ((94, [(0, .ref 151)], [.ref 162, .ref 151]), hp_212) rfl rfl rfl rfl rfl ?_
  refine x_H ((97, [(0, .ref 151)], []), hp_213) rfl rfl rfl rfl rfl ?_
  refine x_L 2 (f' := (101, [(0, .ref 151)], [.int (2000 : Int32), .ref 151])) rfl ?_
  refine x_H ((103, [(0, .ref 151)], [.ref 163, .ref 151]), hp_214) rfl rfl rfl rfl rfl ?_
  refine x_H ((106, [(0, .ref 151)], []), hp_215) rfl rfl rfl rfl rfl ?_
  refine x_L 2 (f' := (110, [(0, .ref 151)], [.int (400 : Int32), .ref 151])) rfl ?_
  refine x_H ((112, [(0, .ref 151)], [.ref 164, .ref 151]), hp_216) rfl rfl rfl rfl rfl ?_
  refine x_H ((115, [(0, .ref 151)], []), hp_217) rfl rfl rfl rfl rfl ?_
  refine x_L 2 (f' := (119, [(0, .ref 151)], [.int (400 : Int32), .ref 151])) rfl ?_
  refine x_H ((121, [(0, .ref 151)], [.ref 165, .ref 151]), hp_218) rfl rfl rfl rfl rfl ?_
  refine x_H ((124, [(0, .ref 151)], []), hp_219) rfl rfl rfl rfl rfl ?_
  refine x_L 2 (f' := (128, [(0, .ref 151)], [.int (400 : Int32), .ref 151])) rfl ?_
  refine x_H ((130, [(0, .ref 151)], [.ref 166, .ref 151]), hp_220) rfl rfl rfl rfl rfl ?_
  refine x_H ((133, [(0, .ref 151)], []), hp_221) rfl rfl rfl rfl rfl ?_
  refine x_L 2 (f' := (137, [(0, .ref 151)], [.int (400 : Int32), .ref 151])) rfl ?_
  refine x_H ((139, [(0, .ref 151)], [.ref 167, .ref 151]), hp_222) rfl rfl rfl rfl rfl ?_
  refine x_H ((142, [(0, .ref 151)], []), hp_223) rfl rfl rfl rfl rfl ?_
  refine x_L 2 (f' := (146, [(0, .ref 151)], [.int (400 : Int32), .ref 151])) rfl ?_
  refine x_H ((148, [(0, .ref 151)], [.ref 168, .ref 151]), hp_224) rfl rfl rfl rfl rfl ?_
  refine x_H ((151, [(0, .ref 151)], []), hp_225) rfl rfl rfl rfl rfl ?_
  refine x_L 2 (f' := (155, [(0, .ref 151)], [.int (400 : Int32), .ref 151])) rfl ?_
  refine x_H ((157, [(0, .ref 151)], [.ref 169, .ref 151]), hp_226) rfl rfl rfl rfl rfl ?_
  refine x_H ((160, [(0, .ref 151)], []), hp_227) rfl rfl rfl rfl rfl ?_
  refine x_L 2 (f' := (164, [(0, .ref 151)], [.int (400 : Int32), .ref 151])) rfl ?_
  refine x_H ((166, [(0, .ref 151)], [.ref 170, .ref 151]), hp_228) rfl rfl rfl rfl rfl ?_
  refine x_H ((169, [(0, .ref 151)], []), hp_229) rfl rfl rfl rfl rfl ?_
  refine x_L 2 (f' := (173, [(0, .ref 151)], [.int (400 : Int32), .ref 151])) rfl ?_
  refine x_H ((175, [(0, .ref 151)], [.ref 171, .ref 151]), hp_230) rfl rfl rfl rfl rfl ?_
  refine x_H ((178, [(0, .ref 151)], []), hp_231) rfl rfl rfl rfl rfl ?_
  refine x_L 2 (f' := (182, [(0, .ref 151)], [.int (400 : Int32), .ref 151])) rfl ?_
  refine x_H ((184, [(0, .ref 151)], [.ref 172, .ref 151]), hp_232) rfl rfl rfl rfl rfl ?_
  refine x_H ((187, [(0, .ref 151)], []), hp_233) rfl rfl rfl rfl rfl ?_
  refine x_L 2 (f' := (191, [(0, .ref 151)], [.int (400 : Int32), .ref 151])) rfl ?_
  refine x_H ((193, [(0, .ref 151)], [.ref 173, .ref 151]), hp_234) rfl rfl rfl rfl rfl ?_
  refine x_H ((196, [(0, .ref 151)], []), hp_235) rfl rfl rfl rfl rfl ?_
  refine x_L 2 (f' := (200, [(0, .ref 151)], [.int (400 : Int32), .ref 151])) rfl ?_
  refine x_H ((202, [(0, .ref 151)], [.ref 174, .ref 151]), hp_236) rfl rfl rfl rfl rfl ?_
  refine x_H ((205, [(0, .ref 151)], []), hp_237) rfl rfl rfl rfl rfl ?_
  refine x_L 2 (f' := (209, [(0, .ref 151)], [.int (400 : Int32), .ref 151])) rfl ?_
  refine x_H ((211, [(0, .ref 151)], [.ref 175, .ref 151]), hp_238) rfl rfl rfl rfl rfl ?_
  refine x_H ((214, [(0, .ref 151)], []), hp_239) rfl rfl rfl rfl rfl ?_
  refine x_L 2 (f' := (218, [(0, .ref 151)], [.int (400 : Int32), .ref 151])) rfl ?_
  refine x_H ((220, [(0, .ref 151)], [.ref 176, .ref 151]), hp_240) rfl rfl rfl rfl rfl ?_
  refine x_H ((223, [(0, .ref 151)], []), hp_241) rfl rfl rfl rfl rfl ?_
  refine x_L 2 (f' := (227, [(0, .ref 151)], [.int (400 : Int32), .ref 151])) rfl ?_
  refine x_H ((229, [(0, .ref 151)], [.ref 177, .ref 151]), hp_242) rfl rfl rfl rfl rfl ?_
  refine x_H ((232, [(0, .ref 151)], []), hp_243) rfl rfl rfl rfl rfl ?_
  refine x_L 2 (f' := (236, [(0, .ref 151)], [.int (400 : Int32), .ref 151])) rfl ?_
  refine x_H ((238, [(0, .ref 151)], [.ref 178, .ref 151]), hp_244) rfl rfl rfl rfl rfl ?_
  refine x_H ((241, [(0, .ref 151)], []), hp_245) rfl rfl rfl rfl rfl ?_
  refine x_L 2 (f' := (245, [(0, .ref 151)], [.int (400 : Int32), .ref 151])) rfl ?_
  refine x_H ((247, [(0, .ref 151)], [.ref 179, .ref 151]), hp_246) rfl rfl rfl rfl rfl ?_
  refine x_H ((250, [(0, .ref 151)], []), hp_247) rfl rfl rfl rfl rfl ?_
  refine x_L 2 (f' := (254, [(0, .ref 151)], [.int (400 : Int32), .ref 151])) rfl ?_
  refine x_H ((256, [(0, .ref 151)], [.ref 180, .ref 151]), hp_248) rfl rfl rfl rfl rfl ?_
  refine x_H ((259, [(0, .ref 151)], []), hp_249) rfl rfl rfl rfl rfl ?_
  refine x_L 2 (f' := (262, [(0, .ref 151)], [.int (16 : Int32), .ref 151])) rfl ?_
  refine x_H ((264, [(0, .ref 151)], [.ref 181, .ref 151]), hp_250) rfl rfl rfl rfl rfl ?_
  refine x_H ((267, [(0, .ref 151)], []), hp_251) rfl rfl rfl rfl rfl ?_
  refine x_L 2 (f' := (270, [(0, .ref 151)], [.int (100 : Int32), .ref 151])) rfl ?_
  refine x_H ((272, [(0, .ref 151)], [.ref 182, .ref 151]), hp_252) rfl rfl rfl rfl rfl ?_
  refine x_H ((275, [(0, .ref 151)], []), hp_253) rfl rfl rfl rfl rfl ?_
  refine x_L 2 (f' := (278, [(0, .ref 151)], [.int (100 : Int32), .ref 151])) rfl ?_
  refine x_H ((280, [(0, .ref 151)], [.ref 183, .ref 151]), hp_254) rfl rfl rfl rfl rfl ?_
  refine x_H ((283, [(0, .ref 151)], []), hp_255) rfl rfl rfl rfl rfl ?_
  refine x_L 2 (f' := (286, [(0, .ref 151)], [.int (12 : Int32), .ref 151])) rfl ?_
  refine x_H ((288, [(0, .ref 151)], [.ref 184, .ref 151]), hp_256) rfl rfl rfl rfl rfl ?_
  refine x_H ((291, [(0, .ref 151)], []), hp_257) rfl rfl rfl rfl rfl ?_
  refine x_L 2 (f' := (294, [(0, .ref 151)], [.int (12 : Int32), .ref 151])) rfl ?_
  refine x_H ((296, [(0, .ref 151)], [.ref 185, .ref 151]), hp_258) rfl rfl rfl rfl rfl ?_
  refine x_H ((299, [(0, .ref 151)], []), hp_259) rfl rfl rfl rfl rfl ?_
  refine x_L 2 (f' := (302, [(0, .ref 151)], [.int (12 : Int32), .ref 151])) rfl ?_
  refine x_H ((304, [(0, .ref 151)], [.ref 186, .ref 151]), hp_260) rfl rfl rfl rfl rfl ?_
  refine x_H ((307, [(0, .ref 151)], []), hp_261) rfl rfl rfl rfl rfl ?_
  refine x_L 2 (f' := (311, [(0, .ref 151)], [.int (216 : Int32), .ref 151])) rfl ?_
  refine x_H ((313, [(0, .ref 151)], [.ref 187, .ref 151]), hp_262) rfl rfl rfl rfl rfl ?_
  refine x_H ((316, [(0, .ref 151)], []), hp_263) rfl rfl rfl rfl rfl ?_
  refine x_L 2 (f' := (318, [(0, .ref 151)], [.int (4 : Int32), .ref 151])) rfl ?_
  refine x_H ((320, [(0, .ref 151)], [.ref 188, .ref 151]), hp_264) rfl rfl rfl rfl rfl ?_
  refine x_H ((323, [(0, .ref 151)], []), hp_265) rfl rfl rfl rfl rfl ?_
  refine x_L 2 (f' := (327, [(0, .ref 151)], [.int (420 : Int32), .ref 151])) rfl ?_
  refine x_H ((329, [(0, .ref 151)], [.ref 189, .ref 151]), hp_266) rfl rfl rfl rfl rfl ?_
  refine x_H ((332, [(0, .ref 151)], []), hp_267) rfl rfl rfl rfl rfl ?_
  refine x_L 2 (f' := (335, [(0, .ref 151)], [.int (48 : Int32), .ref 151])) rfl ?_
  refine x_H ((337, [(0, .ref 151)], [.ref 190, .ref 151]), hp_268) rfl rfl rfl rfl rfl ?_
  refine x_H ((340, [(0, .ref 151)], []), hp_269) rfl rfl rfl rfl rfl ?_
  refine x_L 2 (f' := (344, [(0, .ref 151)], [.int (216 : Int32), .ref 151])) rfl ?_
  refine x_H ((346, [(0, .ref 151)], [.ref 191, .ref 151]), hp_270) rfl rfl rfl rfl rfl ?_
  refine x_H ((349, [(0, .ref 151)], []), hp_271) rfl rfl rfl rfl rfl ?_
  refine x_L 2 (f' := (351, [(0, .ref 151)], [.int (4 : Int32), .ref 151])) rfl ?_
  refine x_H ((353, [(0, .ref 151)], [.ref 192, .ref 151]), hp_272) rfl rfl rfl rfl rfl ?_
  refine x_H ((356, [(0, .ref 151)], []), hp_273) rfl rfl rfl rfl rfl ?_
  refine x_L 2 (f' := (360, [(0, .ref 151)], [.int (200 : Int32), .ref 151])) rfl ?_
  refine x_H ((362, [(0, .ref 151)], [.ref 193, .ref 151]), hp_274) rfl rfl rfl rfl rfl ?_
  refine x_H ((365, [(0, .ref 151)], []), hp_275) rfl rfl rfl rfl rfl ?_
  refine x_L 2 (f' := (369, [(0, .ref 151)], [.int (200 : Int32), .ref 151])) rfl ?_
  refine x_H ((371, [(0, .ref 151)], [.ref 194, .ref 151]), hp_276) rfl rfl rfl rfl rfl ?_
  refine x_H ((374, [(0, .ref 151)], []), hp_277) rfl rfl rfl rfl rfl ?_
  refine x_L 2 (f' := (378, [(0, .ref 151)], [.int (200 : Int32), .ref 151])) rfl ?_
  refine x_H ((380, [(0, .ref 151)], [.ref 195, .ref 151]), hp_278) rfl rfl rfl rfl rfl ?_
  refine x_H ((383, [(0, .ref 151)], []), hp_279) rfl rfl rfl rfl rfl ?_
  refine x_L 2 (f' := (387, [(0, .ref 151)], [.int (200 : Int32), .ref 151])) rfl ?_
  refine x_H ((389, [(0, .ref 151)], [.ref 196, .ref 151]), hp_280) rfl rfl rfl rfl rfl ?_
  refine x_H ((392, [(0, .ref 151)], []), hp_281) rfl rfl rfl rfl rfl ?_
  refine x_L 2 (f' := (396, [(0, .ref 151)], [.int (200 : Int32), .ref 151])) rfl ?_
  refine x_H ((398, [(0, .ref 151)], [.ref 197, .ref 151]), hp_282) rfl rfl rfl rfl rfl ?_
  refine x_H ((401, [(0, .ref 151)], []), hp_283) rfl rfl rfl rfl rfl ?_
  refine x_L 2 (f' := (405, [(0, .ref 151)], [.int (200 : Int32), .ref 151])) rfl ?_
  refine x_H ((407, [(0, .ref 151)], [.ref 198, .ref 151]), hp_284) rfl rfl rfl rfl rfl ?_
  refine x_H ((410, [(0, .ref 151)], []), hp_285) rfl rfl rfl rfl rfl ?_
  refine x_L 2 (f' := (414, [(0, .ref 151)], [.int (200 : Int32), .ref 151])) rfl ?_
  refine x_H ((416, [(0, .ref 151)], [.ref 199, .ref 151]), hp_286) rfl rfl rfl rfl rfl ?_
  refine x_H ((419, [(0, .ref 151)], []), hp_287) rfl rfl rfl rfl rfl ?_
  refine x_L 1 (f' := (420, [(0, .ref 151)], [.ref 151])) rfl ?_
  refine x_H ((422, [(0, .ref 151)], [.int (40000 : Int32), .ref 151]), hp_287) rfl rfl rfl rfl rfl ?_
  refine x_H ((424, [(0, .ref 151)], [.ref 200, .ref 151]), hp_288) rfl rfl rfl rfl rfl ?_
  refine x_H ((427, [(0, .ref 151)], []), hp_289) rfl rfl rfl rfl rfl ?_
  refine x_L 2 (f' := (431, [(0, .ref 151)], [.int (200 : Int32), .ref 151])) rfl ?_
  refine x_H ((433, [(0, .ref 151)], [.ref 201, .ref 151]), hp_290) rfl rfl rfl rfl rfl ?_
  refine x_H ((436, [(0, .ref 151)], []), hp_291) rfl rfl rfl rfl rfl ?_
  refine x_L 2 (f' := (440, [(0, .ref 151)], [.int (200 : Int32), .ref 151])) rfl ?_
  refine x_H ((442, [(0, .ref 151)], [.ref 202, .ref 151]), hp_292) rfl rfl rfl rfl rfl ?_
  refine x_H ((445, [(0, .ref 151)], []), hp_293) rfl rfl rfl rfl rfl ?_
  refine x_L 2 (f' := (449, [(0, .ref 151)], [.int (200 : Int32), .ref 151])) rfl ?_
  refine x_H ((451, [(0, .ref 151)], [.ref 203, .ref 151]), hp_294) rfl rfl rfl rfl rfl ?_
  refine x_H ((454, [(0, .ref 151)], []), hp_295) rfl rfl rfl rfl rfl ?_
  refine x_L 2 (f' := (458, [(0, .ref 151)], [.int (200 : Int32), .ref 151])) rfl ?_
  refine x_H ((460, [(0, .ref 151)], [.ref 204, .ref 151]), hp_296) rfl rfl rfl rfl rfl ?_
  refine x_H ((463, [(0, .ref 151)], []), hp_297) rfl rfl rfl rfl rfl ?_
  refine x_L 2 (f' := (467, [(0, .ref 151)], [.int (200 : Int32), .ref 151])) rfl ?_
  refine x_H ((469, [(0, .ref 151)], [.ref 205, .ref 151]), hp_298) rfl rfl rfl rfl rfl ?_
  refine x_H ((472, [(0, .ref 151)], []), hp_299) rfl rfl rfl rfl rfl ?_
  refine x_L 2 (f' := (474, [(0, .ref 151)], [.int (4 : Int32), .ref 151])) rfl ?_
  refine x_H ((476, [(0, .ref 151)], [.ref 206, .ref 151]), hp_300) rfl rfl rfl rfl rfl ?_
  refine x_H ((479, [(0, .ref 151)], []), hp_301) rfl rfl rfl rfl rfl ?_
  refine x_L 2 (f' := (482, [(0, .ref 151)], [.int (13 : Int32), .ref 151])) rfl ?_
  refine x_H ((484, [(0, .ref 151)], [.ref 207, .ref 151]), hp_302) rfl rfl rfl rfl rfl ?_
  refine x_H ((487, [(0, .ref 151)], []), hp_303) rfl rfl rfl rfl rfl ?_
  refine x_L 2 (f' := (490, [(0, .ref 151)], [.int (12 : Int32), .ref 151])) rfl ?_
  refine x_H ((492, [(0, .ref 151)], [.ref 208, .ref 151]), hp_304) rfl rfl rfl rfl rfl ?_
  refine x_H ((495, [(0, .ref 151)], []), hp_305) rfl rfl rfl rfl rfl ?_
  refine x_L 2 (f' := (498, [(0, .ref 151)], [.int (16 : Int32), .ref 151])) rfl ?_
  refine x_H ((500, [(0, .ref 151)], [.ref 209, .ref 151]), hp_306) rfl rfl rfl rfl rfl ?_
  refine x_H ((503, [(0, .ref 151)], []), hp_307) rfl rfl rfl rfl rfl ?_
  refine x_L 1 (f' := (504, [(0, .ref 151)], [.ref 151])) rfl ?_
  refine x_H ((506, [(0, .ref 151)], [.int (1610000 : Int32), .ref 151]), hp_307) rfl rfl rfl rfl rfl ?_
  refine x_H ((508, [(0, .ref 151)], [.ref 210, .ref 151]), hp_308) rfl rfl rfl rfl rfl ?_
  refine x_H ((511, [(0, .ref 151)], []), hp_309) rfl rfl rfl rfl rfl ?_
  refine x_L 1 (f' := (512, [(0, .ref 151)], [.ref 151])) rfl ?_
  refine x_H ((514, [(0, .ref 151)], [.int (65536 : Int32), .ref 151]), hp_309) rfl rfl rfl rfl rfl ?_
  refine x_H ((516, [(0, .ref 151)], [.ref 211, .ref 151]), hp_310) rfl rfl rfl rfl rfl ?_
  refine x_H ((519, [(0, .ref 151)], []), hp_311) rfl rfl rfl rfl rfl ?_
  refine x_L 2 (f' := (523, [(0, .ref 151)], [.int (20001 : Int32), .ref 151])) rfl ?_
  refine x_H ((525, [(0, .ref 151)], [.ref 212, .ref 151]), hp_312) rfl rfl rfl rfl rfl ?_
  refine x_H ((528, [(0, .ref 151)], []), hp_313) rfl rfl rfl rfl rfl ?_
  refine x_L 2 (f' := (532, [(0, .ref 151)], [.int (20001 : Int32), .ref 151])) rfl ?_
  refine x_H ((534, [(0, .ref 151)], [.ref 213, .ref 151]), hp_314) rfl rfl rfl rfl rfl ?_
  refine x_H ((537, [(0, .ref 151)], []), hp_315) rfl rfl rfl rfl rfl ?_
  refine x_L 2 (f' := (541, [(0, .ref 151)], [.int (20001 : Int32), .ref 151])) rfl ?_
  refine x_H ((543, [(0, .ref 151)], [.ref 214, .ref 151]), hp_316) rfl rfl rfl rfl rfl ?_
  refine x_H ((546, [(0, .ref 151)], []), hp_317) rfl rfl rfl rfl rfl ?_
  refine x_L 2 (f' := (550, [(0, .ref 151)], [.int (20001 : Int32), .ref 151])) rfl ?_
  refine x_H ((552, [(0, .ref 151)], [.ref 215, .ref 151]), hp_318) rfl rfl rfl rfl rfl ?_
  refine x_H ((555, [(0, .ref 151)], []), hp_319) rfl rfl rfl rfl rfl ?_
  refine x_L 2 (f' := (559, [(0, .ref 151)], [.int (20001 : Int32), .ref 151])) rfl ?_
  refine x_H ((561, [(0, .ref 151)], [.ref 216, .ref 151]), hp_320) rfl rfl rfl rfl rfl ?_
  refine x_H ((564, [(0, .ref 151)], []), hp_321) rfl rfl rfl rfl rfl ?_
  refine x_L 2 (f' := (568, [(0, .ref 151)], [.int (20001 : Int32), .ref 151])) rfl ?_
  refine x_H ((570, [(0, .ref 151)], [.ref 217, .ref 151]), hp_322) rfl rfl rfl rfl rfl ?_
  refine x_H ((573, [(0, .ref 151)], []), hp_323) rfl rfl rfl rfl rfl ?_
  refine x_L 2 (f' := (577, [(0, .ref 151)], [.int (20002 : Int32), .ref 151])) rfl ?_
  refine x_H ((579, [(0, .ref 151)], [.ref 218, .ref 151]), hp_324) rfl rfl rfl rfl rfl ?_
  refine x_H ((582, [(0, .ref 151)], []), hp_325) rfl rfl rfl rfl rfl ?_
  refine x_L 1 (f' := (583, [(0, .ref 151)], [.ref 151])) rfl ?_
  refine x_H ((585, [(0, .ref 151)], [.int (200001 : Int32), .ref 151]), hp_325) rfl rfl rfl rfl rfl ?_
  refine x_H ((587, [(0, .ref 151)], [.ref 219, .ref 151]), hp_326) rfl rfl rfl rfl rfl ?_
  refine x_H ((590, [(0, .ref 151)], []), hp_327) rfl rfl rfl rfl rfl ?_
  refine x_L 1 (f' := (591, [(0, .ref 151)], [.ref 151])) rfl ?_
  refine x_H ((593, [(0, .ref 151)], [.int (200001 : Int32), .ref 151]), hp_327) rfl rfl rfl rfl rfl ?_
  refine x_H ((595, [(0, .ref 151)], [.ref 220, .ref 151]), hp_328) rfl rfl rfl rfl rfl ?_
  refine x_H ((598, [(0, .ref 151)], []), hp_329) rfl rfl rfl rfl rfl ?_
  refine x_L 2 (f' := (602, [(0, .ref 151)], [.int (20001 : Int32), .ref 151])) rfl ?_
  refine x_H ((604, [(0, .ref 151)], [.ref 221, .ref 151]), hp_330) rfl rfl rfl rfl rfl ?_
  refine x_H ((607, [(0, .ref 151)], []), hp_331) rfl rfl rfl rfl rfl ?_
  refine x_L 1 (f' := (608, [(0, .ref 151)], [.ref 151])) rfl ?_
  refine x_H ((610, [(0, .ref 151)], [.int (32768 : Int32), .ref 151]), hp_331) rfl rfl rfl rfl rfl ?_
  refine x_H ((612, [(0, .ref 151)], [.ref 222, .ref 151]), hp_332) rfl rfl rfl rfl rfl ?_
  refine x_H ((615, [(0, .ref 151)], []), hp_333) rfl rfl rfl rfl rfl ?_
  refine x_L 2 (f' := (619, [(0, .ref 151)], [.int (10000 : Int32), .ref 151])) rfl ?_
  refine x_H ((621, [(0, .ref 151)], [.ref 223, .ref 151]), hp_334) rfl rfl rfl rfl rfl ?_
  refine x_H ((624, [(0, .ref 151)], []), hp_335) rfl rfl rfl rfl rfl ?_
  refine x_L 2 (f' := (627, [(0, .ref 151)], [.int (8 : Int32), .ref 151])) rfl ?_
  refine x_H ((629, [(0, .ref 151)], [.ref 224, .ref 151]), hp_336) rfl rfl rfl rfl rfl ?_
  refine x_H ((632, [(0, .ref 151)], []), hp_337) rfl rfl rfl rfl rfl ?_
  refine x_L 2 (f' := (636, [(0, .ref 151)], [.int (20001 : Int32), .ref 151])) rfl ?_
  refine x_H ((638, [(0, .ref 151)], [.ref 225, .ref 151]), hp_338) rfl rfl rfl rfl rfl ?_
  refine x_H ((641, [(0, .ref 151)], []), hp_339) rfl rfl rfl rfl rfl ?_
  refine x_L 2 (f' := (644, [(0, .ref 151)], [.int (48 : Int32), .ref 151])) rfl ?_
  refine x_H ((646, [(0, .ref 151)], [.ref 226, .ref 151]), hp_340) rfl rfl rfl rfl rfl ?_
  refine x_H ((649, [(0, .ref 151)], []), hp_341) rfl rfl rfl rfl rfl ?_
  refine x_L 1 (f' := (650, [(0, .ref 151)], [.ref 151])) rfl ?_
  refine x_H ((652, [(0, .ref 151)], [.int (100005 : Int32), .ref 151]), hp_341) rfl rfl rfl rfl rfl ?_
  refine x_H ((654, [(0, .ref 151)], [.ref 227, .ref 151]), hp_342) rfl rfl rfl rfl rfl ?_
  refine x_H ((657, [(0, .ref 151)], []), hp_343) rfl rfl rfl rfl rfl ?_
  refine x_L 1 (f' := (658, [(0, .ref 151)], [.ref 151])) rfl ?_
  refine x_H ((660, [(0, .ref 151)], [.int (524288 : Int32), .ref 151]), hp_343) rfl rfl rfl rfl rfl ?_
  refine x_H ((662, [(0, .ref 151)], [.ref 228, .ref 151]), hp_344) rfl rfl rfl rfl rfl ?_
  refine x_H ((665, [(0, .ref 151)], []), hp_345) rfl rfl rfl rfl rfl ?_
  refine x_L 2 (f' := (669, [(0, .ref 151)], [.int (20001 : Int32), .ref 151])) rfl ?_
  refine x_H ((671, [(0, .ref 151)], [.ref 229, .ref 151]), hp_346) rfl rfl rfl rfl rfl ?_
  refine x_H ((674, [(0, .ref 151)], []), hp_347) rfl rfl rfl rfl rfl ?_
  refine x_L 2 (f' := (678, [(0, .ref 151)], [.int (20001 : Int32), .ref 151])) rfl ?_
  refine x_H ((680, [(0, .ref 151)], [.ref 230, .ref 151]), hp_348) rfl rfl rfl rfl rfl ?_
  refine x_H ((683, [(0, .ref 151)], []), hp_349) rfl rfl rfl rfl rfl ?_
  refine x_L 2 (f' := (685, [(0, .ref 151)], [.int (4 : Int32), .ref 151])) rfl ?_
  refine x_H ((687, [(0, .ref 151)], [.ref 231, .ref 151]), hp_350) rfl rfl rfl rfl rfl ?_
  refine x_H ((690, [(0, .ref 151)], []), hp_351) rfl rfl rfl rfl rfl ?_
  refine x_L 2 (f' := (692, [(0, .ref 151)], [.int (2 : Int32), .ref 151])) rfl ?_
  refine x_H ((694, [(0, .ref 151)], [.ref 232, .ref 151]), hp_352) rfl rfl rfl rfl rfl ?_
  refine x_H ((697, [(0, .ref 151)], []), hp_353) rfl rfl rfl rfl rfl ?_
  refine x_L 2 (f' := (700, [(0, .ref 151)], [.int (-2 : Int32), .ref 151])) rfl ?_
  refine x_H ((703, [(0, .ref 151)], []), hp_354) rfl rfl rfl rfl rfl ?_
  refine x_L 2 (f' := (707, [(0, .ref 151)], [.int (20001 : Int32), .ref 151])) rfl ?_
  refine x_H ((709, [(0, .ref 151)], [.ref 233, .ref 151]), hp_355) rfl rfl rfl rfl rfl ?_
  refine x_H ((712, [(0, .ref 151)], []), hp_356) rfl rfl rfl rfl rfl ?_
  refine x_L 2 (f' := (716, [(0, .ref 151)], [.int (20001 : Int32), .ref 151])) rfl ?_
  refine x_H ((718, [(0, .ref 151)], [.ref 234, .ref 151]), hp_357) rfl rfl rfl rfl rfl ?_
  refine x_H ((721, [(0, .ref 151)], []), hp_358) rfl rfl rfl rfl rfl ?_
  refine x_L 2 (f' := (725, [(0, .ref 151)], [.int (20001 : Int32), .ref 151])) rfl ?_
  refine x_H ((727, [(0, .ref 151)], [.ref 235, .ref 151]), hp_359) rfl rfl rfl rfl rfl ?_
  refine x_H ((730, [(0, .ref 151)], []), hp_360) rfl rfl rfl rfl rfl ?_
  refine x_L 2 (f' := (734, [(0, .ref 151)], [.int (20001 : Int32), .ref 151])) rfl ?_
  refine x_H ((736, [(0, .ref 151)], [.ref 236, .ref 151]), hp_361) rfl rfl rfl rfl rfl ?_
  refine x_H ((739, [(0, .ref 151)], []), hp_362) rfl rfl rfl rfl rfl ?_
  refine x_L 2 (f' := (743, [(0, .ref 151)], [.int (20001 : Int32), .ref 151])) rfl ?_
  refine x_H ((745, [(0, .ref 151)], [.ref 237, .ref 151]), hp_363) rfl rfl rfl rfl rfl ?_
  refine x_H ((748, [(0, .ref 151)], []), hp_364) rfl rfl rfl rfl rfl ?_
  refine x_L 2 (f' := (752, [(0, .ref 151)], [.int (20001 : Int32), .ref 151])) rfl ?_
  refine x_H ((754, [(0, .ref 151)], [.ref 238, .ref 151]), hp_365) rfl rfl rfl rfl rfl ?_
  refine x_H ((757, [(0, .ref 151)], []), hp_366) rfl rfl rfl rfl rfl ?_
  refine x_L 2 (f' := (761, [(0, .ref 151)], [.int (20001 : Int32), .ref 151])) rfl ?_
  refine x_H ((763, [(0, .ref 151)], [.ref 239, .ref 151]), hp_367) rfl rfl rfl rfl rfl ?_
  refine x_H ((766, [(0, .ref 151)], []), hp_368) rfl rfl rfl rfl rfl ?_
  refine x_L 2 (f' := (770, [(0, .ref 151)], [.int (20001 : Int32), .ref 151])) rfl ?_
  refine x_H ((772, [(0, .ref 151)], [.ref 240, .ref 151]), hp_369) rfl rfl rfl rfl rfl ?_
  refine x_H ((775, [(0, .ref 151)], []), hp_370) rfl rfl rfl rfl rfl ?_
  refine x_L 2 (f' := (779, [(0, .ref 151)], [.int (20001 : Int32), .ref 151])) rfl ?_
  refine x_H ((781, [(0, .ref 151)], [.ref 241, .ref 151]), hp_371) rfl rfl rfl rfl rfl ?_
  refine x_H ((784, [(0, .ref 151)], []), hp_372) rfl rfl rfl rfl rfl ?_
  refine x_L 2 (f' := (788, [(0, .ref 151)], [.int (20001 : Int32), .ref 151])) rfl ?_
  refine x_H ((790, [(0, .ref 151)], [.ref 242, .ref 151]), hp_373) rfl rfl rfl rfl rfl ?_
  refine x_H ((793, [(0, .ref 151)], []), hp_374) rfl rfl rfl rfl rfl ?_
  refine x_L 2 (f' := (797, [(0, .ref 151)], [.int (20001 : Int32), .ref 151])) rfl ?_
  refine x_H ((799, [(0, .ref 151)], [.ref 243, .ref 151]), hp_375) rfl rfl rfl rfl rfl ?_
  refine x_H ((802, [(0, .ref 151)], []), hp_376) rfl rfl rfl rfl rfl ?_
  refine x_L 2 (f' := (806, [(0, .ref 151)], [.int (20001 : Int32), .ref 151])) rfl ?_
  refine x_H ((808, [(0, .ref 151)], [.ref 244, .ref 151]), hp_377) rfl rfl rfl rfl rfl ?_
  refine x_H ((811, [(0, .ref 151)], []), hp_378) rfl rfl rfl rfl rfl ?_
  refine x_L 2 (f' := (815, [(0, .ref 151)], [.int (20001 : Int32), .ref 151])) rfl ?_
  refine x_H ((817, [(0, .ref 151)], [.ref 245, .ref 151]), hp_379) rfl rfl rfl rfl rfl ?_
  refine x_H ((820, [(0, .ref 151)], []), hp_380) rfl rfl rfl rfl rfl ?_
  refine x_L 2 (f' := (824, [(0, .ref 151)], [.int (20001 : Int32), .ref 151])) rfl ?_
  refine x_H ((826, [(0, .ref 151)], [.ref 246, .ref 151]), hp_381) rfl rfl rfl rfl rfl ?_
  refine x_H ((829, [(0, .ref 151)], []), hp_382) rfl rfl rfl rfl rfl ?_
  refine x_L 2 (f' := (832, [(0, .ref 151)], [.int (-2 : Int32), .ref 151])) rfl ?_
  refine x_H ((835, [(0, .ref 151)], []), hp_383) rfl rfl rfl rfl rfl ?_
  refine x_L 2 (f' := (839, [(0, .ref 151)], [.int (4000 : Int32), .ref 151])) rfl ?_
  refine x_H ((841, [(0, .ref 151)], [.ref 247, .ref 151]), hp_384) rfl rfl rfl rfl rfl ?_
  refine x_H ((844, [(0, .ref 151)], []), hp_385) rfl rfl rfl rfl rfl ?_
  refine x_L 2 (f' := (848, [(0, .ref 151)], [.int (32000 : Int32), .ref 151])) rfl ?_
  refine x_H ((850, [(0, .ref 151)], [.ref 248, .ref 151]), hp_386) rfl rfl rfl rfl rfl ?_
  refine x_H ((853, [(0, .ref 151)], []), hp_387) rfl rfl rfl rfl rfl ?_
  refine x_L 1 (f' := (854, [(0, .ref 151)], [.ref 151])) rfl ?_
  refine x_H ((857, [(0, .ref 151)], [.int (96000 : Int32), .ref 151]), hp_387) rfl rfl rfl rfl rfl ?_
  refine x_H ((859, [(0, .ref 151)], [.ref 249, .ref 151]), hp_388) rfl rfl rfl rfl rfl ?_
  refine x_H ((862, [(0, .ref 151)], []), hp_389) rfl rfl rfl rfl rfl ?_
  exact x_ret rfl rfl
/-- steps of the law up to a place -/
def psteps (F : pFn) (en : pN) (tab : List pI) : Nat → pF → pH → Option (pF × pH)
  | 0, f, h => some (f, h)
  | n + 1, f, h => match p_find tab f.1 with
    | none => none
    | some q => match pstep msL F en f.1 q.1 q.2.2 f.2.1 f.2.2 h with
      | some y => psteps F en tab n y.1 y.2
      | none => none
def yW (F : pFn) (en : pN) (tab : List pI) (f : pF) (h : pH) (f' : pF) (h' : pH) : Prop := ∃ n : Nat, psteps F en tab n f h = some (f', h')
section YW
variable {F : pFn} {en : pN} {tab : List pI} {ls : List (Nat × Value)} {st : List Value} {h h' : pH} {pc len : Nat} {x : pX} {g : pF}
theorem y_step {i : Instr} {y : pF × pH} (hq : p_find tab pc = some (i, len, x)) (hs : pstep msL F en pc i x ls st h = some y) (k : yW F en tab y.1 y.2 g h') : yW F en tab (pc, ls, st) h g h' := by
  obtain ⟨n, hn⟩ := k
  refine ⟨n + 1, ?_⟩
  unfold psteps
  dsimp only
  rw [hq]
  dsimp only
  rw [hs]
  exact hn
theorem y_L (n : Nat) {f f' : pF} (hs : qLs none tab n f = some f') (k : yW F en tab f' h g h') : yW F en tab f h g h' := by
  induction n generalizing f with
  | zero => cases hs; exact k
  | succ n ih =>
    unfold qLs at hs
    split at hs
    · cases hs
    · rename_i q hq
      split at hs
      · cases hs
      · rename_i hc
        split at hs
        · cases hs
        · split at hs
          · rename_i f1 hf1
            obtain ⟨c1, c2⟩ := Bool.or_eq_false_iff.mp hc
            refine y_step (pc := f.1) (ls := f.2.1) (st := f.2.2) (y := (f1, h)) hq ?_ (ih hs)
            unfold pstep
            rw [c1]
            dsimp only
            rw [c2]
            dsimp only
            rw [hf1]
          · cases hs
theorem y_H {i : Instr} (y : pF × pH) (hq : p_find tab pc = some (i, len, x)) (hc : p_isC i = false) (hh : p_isH i = true) (hs : pstepH en pc i x ls st h = some y) (k : yW F en tab y.1 y.2 g h') : yW F en tab (pc, ls, st) h g h' := by
  refine y_step hq ?_ k
  unfold pstep
  rw [hc]
  dsimp only
  rw [hh]
  exact hs
theorem y_spec {M : pM} {idx a : Nat} {as r : List Value} {h1 : pH} (y : Nat) (hq : p_find tab pc = some (.invokespecial idx, len, x)) (hx : decide (x.1 = -1) = false) (hy : x.1.toNat = y) (hM : msL[y]? = some M) (ha : p_args M.2.2.2.2.1 st = some (as, .ref a :: r)) (hr : p_cats r ≤ 8) (hF : F y (.ref a :: as) h = some (none, h1)) (k : yW F en tab (pc + 3, ls, r) h1 g h') : yW F en tab (pc, ls, st) h g h' := by
  refine y_step (y := ((pc + 3, ls, r), h1)) hq ?_ k
  unfold pstep
  show pstepC msL F pc _ x ls st h = _
  simp only [pstepC, hy, hM, ha]
  rw [if_neg (of_decide_eq_false hx), if_pos hr, hF]
  rfl
end YW
set_option maxRecDepth 100000 in
set_option maxHeartbeats 4000000 in
theorem law_pre {en : pN} {d : Nat} : yW (pev msL en (d + 7)) en tb_law (0, [(0, .retAddr 0)], []) hp_0 (18, [(3, .int (0 : Int32)), (2, .ref 151), (1, .ref 0), (0, .retAddr 0)], []) hp_389 := by
  refine y_H ((3, [(0, .retAddr 0)], [.ref 0]), hp_1) rfl rfl rfl rfl ?_
  refine y_L 1 (f' := (4, [(0, .retAddr 0)], [.ref 0, .ref 0])) rfl ?_
  refine y_spec 201 rfl rfl rfl ix_X11_init rfl (Nat.le_of_ble_eq_true rfl) (ct_X11_init_1 (d := d + 0)) ?_
  show yW _ en tb_law (7, [(0, .retAddr 0)], [.ref 0]) hp_189 _ _
  refine y_L 1 (f' := (8, [(1, .ref 0), (0, .retAddr 0)], [])) rfl ?_
  refine y_H ((11, [(1, .ref 0), (0, .retAddr 0)], [.ref 151]), hp_190) rfl rfl rfl rfl ?_
  refine y_L 1 (f' := (12, [(1, .ref 0), (0, .retAddr 0)], [.ref 151, .ref 151])) rfl ?_
  refine y_spec 240 rfl rfl rfl ix_X12_init rfl (Nat.le_of_ble_eq_true rfl) (ct_X12_init_1 (d := d + 6)) ?_
  show yW _ en tb_law (15, [(1, .ref 0), (0, .retAddr 0)], [.ref 151]) hp_389 _ _
  refine y_L 3 (f' := (18, [(3, .int (0 : Int32)), (2, .ref 151), (1, .ref 0), (0, .retAddr 0)], [])) rfl ?_
  exact ⟨0, rfl⟩
set_option maxRecDepth 100000 in
theorem hpq_0 : hp_389.2.2 0 = qcell s0 0 := rfl
set_option maxRecDepth 100000 in
theorem hpq_1 : hp_389.2.2 1 = qcell s0 1 := rfl
set_option maxRecDepth 100000 in
theorem hpq_2 : hp_389.2.2 2 = qcell s0 2 := rfl
set_option maxRecDepth 100000 in
theorem hpq_3 : hp_389.2.2 3 = qcell s0 3 := rfl
set_option maxRecDepth 100000 in
theorem hpq_4 : hp_389.2.2 4 = qcell s0 4 := rfl
set_option maxRecDepth 100000 in
theorem hpq_5 : hp_389.2.2 5 = qcell s0 5 := rfl
set_option maxRecDepth 100000 in
theorem hpq_6 : hp_389.2.2 6 = qcell s0 6 := rfl
set_option maxRecDepth 100000 in
theorem hpq_7 : hp_389.2.2 7 = qcell s0 7 := rfl
set_option maxRecDepth 100000 in
theorem hpq_8 : hp_389.2.2 8 = qcell s0 8 := rfl
set_option maxRecDepth 100000 in
theorem hpq_9 : hp_389.2.2 9 = qcell s0 9 := rfl
set_option maxRecDepth 100000 in
theorem hpq_10 : hp_389.2.2 10 = qcell s0 10 := rfl
set_option maxRecDepth 100000 in
theorem hpq_11 : hp_389.2.2 11 = qcell s0 11 := rfl
set_option maxRecDepth 100000 in
theorem hpq_12 : hp_389.2.2 12 = qcell s0 12 := rfl
set_option maxRecDepth 100000 in
theorem hpq_13 : hp_389.2.2 13 = qcell s0 13 := rfl
set_option maxRecDepth 100000 in
theorem hpq_14 : hp_389.2.2 14 = qcell s0 14 := rfl
set_option maxRecDepth 100000 in
theorem hpq_15 : hp_389.2.2 15 = qcell s0 15 := rfl
set_option maxRecDepth 100000 in
theorem hpq_16 : hp_389.2.2 16 = qcell s0 16 := rfl
set_option maxRecDepth 100000 in
theorem hpq_17 : hp_389.2.2 17 = qcell s0 17 := rfl
set_option maxRecDepth 100000 in
theorem hpq_18 : hp_389.2.2 18 = qcell s0 18 := rfl
set_option maxRecDepth 100000 in
theorem hpq_19 : hp_389.2.2 19 = qcell s0 19 := rfl
set_option maxRecDepth 100000 in
theorem hpq_20 : hp_389.2.2 20 = qcell s0 20 := rfl
set_option maxRecDepth 100000 in
theorem hpq_21 : hp_389.2.2 21 = qcell s0 21 := rfl
set_option maxRecDepth 100000 in
theorem hpq_22 : hp_389.2.2 22 = qcell s0 22 := rfl
set_option maxRecDepth 100000 in
theorem hpq_23 : hp_389.2.2 23 = qcell s0 23 := rfl
set_option maxRecDepth 100000 in
theorem hpq_24 : hp_389.2.2 24 = qcell s0 24 := rfl
set_option maxRecDepth 100000 in
theorem hpq_25 : hp_389.2.2 25 = qcell s0 25 := rfl
set_option maxRecDepth 100000 in
theorem hpq_26 : hp_389.2.2 26 = qcell s0 26 := rfl
set_option maxRecDepth 100000 in
theorem hpq_27 : hp_389.2.2 27 = qcell s0 27 := rfl
set_option maxRecDepth 100000 in
theorem hpq_28 : hp_389.2.2 28 = qcell s0 28 := rfl
set_option maxRecDepth 100000 in
theorem hpq_29 : hp_389.2.2 29 = qcell s0 29 := rfl
set_option maxRecDepth 100000 in
theorem hpq_30 : hp_389.2.2 30 = qcell s0 30 := rfl
set_option maxRecDepth 100000 in
theorem hpq_31 : hp_389.2.2 31 = qcell s0 31 := rfl
set_option maxRecDepth 100000 in
theorem hpq_32 : hp_389.2.2 32 = qcell s0 32 := rfl
set_option maxRecDepth 100000 in
theorem hpq_33 : hp_389.2.2 33 = qcell s0 33 := rfl
set_option maxRecDepth 100000 in
theorem hpq_34 : hp_389.2.2 34 = qcell s0 34 := rfl
set_option maxRecDepth 100000 in
theorem hpq_35 : hp_389.2.2 35 = qcell s0 35 := rfl
set_option maxRecDepth 100000 in
theorem hpq_36 : hp_389.2.2 36 = qcell s0 36 := rfl
set_option maxRecDepth 100000 in
theorem hpq_37 : hp_389.2.2 37 = qcell s0 37 := rfl
set_option maxRecDepth 100000 in
theorem hpq_38 : hp_389.2.2 38 = qcell s0 38 := rfl
set_option maxRecDepth 100000 in
theorem hpq_39 : hp_389.2.2 39 = qcell s0 39 := rfl
set_option maxRecDepth 100000 in
theorem hpq_40 : hp_389.2.2 40 = qcell s0 40 := rfl
set_option maxRecDepth 100000 in
theorem hpq_41 : hp_389.2.2 41 = qcell s0 41 := rfl
set_option maxRecDepth 100000 in
theorem hpq_42 : hp_389.2.2 42 = qcell s0 42 := rfl
set_option maxRecDepth 100000 in
theorem hpq_43 : hp_389.2.2 43 = qcell s0 43 := rfl
set_option maxRecDepth 100000 in
theorem hpq_44 : hp_389.2.2 44 = qcell s0 44 := rfl
set_option maxRecDepth 100000 in
theorem hpq_45 : hp_389.2.2 45 = qcell s0 45 := rfl
set_option maxRecDepth 100000 in
theorem hpq_46 : hp_389.2.2 46 = qcell s0 46 := rfl
set_option maxRecDepth 100000 in
theorem hpq_47 : hp_389.2.2 47 = qcell s0 47 := rfl
set_option maxRecDepth 100000 in
theorem hpq_48 : hp_389.2.2 48 = qcell s0 48 := rfl
set_option maxRecDepth 100000 in
theorem hpq_49 : hp_389.2.2 49 = qcell s0 49 := rfl
set_option maxRecDepth 100000 in
theorem hpq_50 : hp_389.2.2 50 = qcell s0 50 := rfl
set_option maxRecDepth 100000 in
theorem hpq_51 : hp_389.2.2 51 = qcell s0 51 := rfl
set_option maxRecDepth 100000 in
theorem hpq_52 : hp_389.2.2 52 = qcell s0 52 := rfl
set_option maxRecDepth 100000 in
theorem hpq_53 : hp_389.2.2 53 = qcell s0 53 := rfl
set_option maxRecDepth 100000 in
theorem hpq_54 : hp_389.2.2 54 = qcell s0 54 := rfl
set_option maxRecDepth 100000 in
theorem hpq_55 : hp_389.2.2 55 = qcell s0 55 := rfl
set_option maxRecDepth 100000 in
theorem hpq_56 : hp_389.2.2 56 = qcell s0 56 := rfl
set_option maxRecDepth 100000 in
theorem hpq_57 : hp_389.2.2 57 = qcell s0 57 := rfl
set_option maxRecDepth 100000 in
theorem hpq_58 : hp_389.2.2 58 = qcell s0 58 := rfl
set_option maxRecDepth 100000 in
theorem hpq_59 : hp_389.2.2 59 = qcell s0 59 := rfl
set_option maxRecDepth 100000 in
theorem hpq_60 : hp_389.2.2 60 = qcell s0 60 := rfl
set_option maxRecDepth 100000 in
theorem hpq_61 : hp_389.2.2 61 = qcell s0 61 := rfl
set_option maxRecDepth 100000 in
theorem hpq_62 : hp_389.2.2 62 = qcell s0 62 := rfl
set_option maxRecDepth 100000 in
theorem hpq_63 : hp_389.2.2 63 = qcell s0 63 := rfl
set_option maxRecDepth 100000 in
theorem hpq_64 : hp_389.2.2 64 = qcell s0 64 := rfl
set_option maxRecDepth 100000 in
theorem hpq_65 : hp_389.2.2 65 = qcell s0 65 := rfl
set_option maxRecDepth 100000 in
theorem hpq_66 : hp_389.2.2 66 = qcell s0 66 := rfl
set_option maxRecDepth 100000 in
theorem hpq_67 : hp_389.2.2 67 = qcell s0 67 := rfl
set_option maxRecDepth 100000 in
theorem hpq_68 : hp_389.2.2 68 = qcell s0 68 := rfl
set_option maxRecDepth 100000 in
theorem hpq_69 : hp_389.2.2 69 = qcell s0 69 := rfl
set_option maxRecDepth 100000 in
theorem hpq_70 : hp_389.2.2 70 = qcell s0 70 := rfl
set_option maxRecDepth 100000 in
theorem hpq_71 : hp_389.2.2 71 = qcell s0 71 := rfl
set_option maxRecDepth 100000 in
theorem hpq_72 : hp_389.2.2 72 = qcell s0 72 := rfl
set_option maxRecDepth 100000 in
theorem hpq_73 : hp_389.2.2 73 = qcell s0 73 := rfl
set_option maxRecDepth 100000 in
theorem hpq_74 : hp_389.2.2 74 = qcell s0 74 := rfl
set_option maxRecDepth 100000 in
theorem hpq_75 : hp_389.2.2 75 = qcell s0 75 := rfl
set_option maxRecDepth 100000 in
theorem hpq_76 : hp_389.2.2 76 = qcell s0 76 := rfl
set_option maxRecDepth 100000 in
theorem hpq_77 : hp_389.2.2 77 = qcell s0 77 := rfl
set_option maxRecDepth 100000 in
theorem hpq_78 : hp_389.2.2 78 = qcell s0 78 := rfl
set_option maxRecDepth 100000 in
theorem hpq_79 : hp_389.2.2 79 = qcell s0 79 := rfl
set_option maxRecDepth 100000 in
theorem hpq_80 : hp_389.2.2 80 = qcell s0 80 := rfl
set_option maxRecDepth 100000 in
theorem hpq_81 : hp_389.2.2 81 = qcell s0 81 := rfl
set_option maxRecDepth 100000 in
theorem hpq_82 : hp_389.2.2 82 = qcell s0 82 := rfl
set_option maxRecDepth 100000 in
theorem hpq_83 : hp_389.2.2 83 = qcell s0 83 := rfl
set_option maxRecDepth 100000 in
theorem hpq_84 : hp_389.2.2 84 = qcell s0 84 := rfl
set_option maxRecDepth 100000 in
theorem hpq_85 : hp_389.2.2 85 = qcell s0 85 := rfl
set_option maxRecDepth 100000 in
theorem hpq_86 : hp_389.2.2 86 = qcell s0 86 := rfl
set_option maxRecDepth 100000 in
theorem hpq_87 : hp_389.2.2 87 = qcell s0 87 := rfl
set_option maxRecDepth 100000 in
theorem hpq_88 : hp_389.2.2 88 = qcell s0 88 := rfl
set_option maxRecDepth 100000 in
theorem hpq_89 : hp_389.2.2 89 = qcell s0 89 := rfl
set_option maxRecDepth 100000 in
theorem hpq_90 : hp_389.2.2 90 = qcell s0 90 := rfl
set_option maxRecDepth 100000 in
theorem hpq_91 : hp_389.2.2 91 = qcell s0 91 := rfl
set_option maxRecDepth 100000 in
theorem hpq_92 : hp_389.2.2 92 = qcell s0 92 := rfl
set_option maxRecDepth 100000 in
theorem hpq_93 : hp_389.2.2 93 = qcell s0 93 := rfl
set_option maxRecDepth 100000 in
theorem hpq_94 : hp_389.2.2 94 = qcell s0 94 := rfl
set_option maxRecDepth 100000 in
theorem hpq_95 : hp_389.2.2 95 = qcell s0 95 := rfl
set_option maxRecDepth 100000 in
theorem hpq_96 : hp_389.2.2 96 = qcell s0 96 := rfl
set_option maxRecDepth 100000 in
theorem hpq_97 : hp_389.2.2 97 = qcell s0 97 := rfl
set_option maxRecDepth 100000 in
theorem hpq_98 : hp_389.2.2 98 = qcell s0 98 := rfl
set_option maxRecDepth 100000 in
theorem hpq_99 : hp_389.2.2 99 = qcell s0 99 := rfl
set_option maxRecDepth 100000 in
theorem hpq_100 : hp_389.2.2 100 = qcell s0 100 := rfl
set_option maxRecDepth 100000 in
theorem hpq_101 : hp_389.2.2 101 = qcell s0 101 := rfl
set_option maxRecDepth 100000 in
theorem hpq_102 : hp_389.2.2 102 = qcell s0 102 := rfl
set_option maxRecDepth 100000 in
theorem hpq_103 : hp_389.2.2 103 = qcell s0 103 := rfl
set_option maxRecDepth 100000 in
theorem hpq_104 : hp_389.2.2 104 = qcell s0 104 := rfl
set_option maxRecDepth 100000 in
theorem hpq_105 : hp_389.2.2 105 = qcell s0 105 := rfl
set_option maxRecDepth 100000 in
theorem hpq_106 : hp_389.2.2 106 = qcell s0 106 := rfl
set_option maxRecDepth 100000 in
theorem hpq_107 : hp_389.2.2 107 = qcell s0 107 := rfl
set_option maxRecDepth 100000 in
theorem hpq_108 : hp_389.2.2 108 = qcell s0 108 := rfl
set_option maxRecDepth 100000 in
theorem hpq_109 : hp_389.2.2 109 = qcell s0 109 := rfl
set_option maxRecDepth 100000 in
theorem hpq_110 : hp_389.2.2 110 = qcell s0 110 := rfl
set_option maxRecDepth 100000 in
theorem hpq_111 : hp_389.2.2 111 = qcell s0 111 := rfl
set_option maxRecDepth 100000 in
theorem hpq_112 : hp_389.2.2 112 = qcell s0 112 := rfl
set_option maxRecDepth 100000 in
theorem hpq_113 : hp_389.2.2 113 = qcell s0 113 := rfl
set_option maxRecDepth 100000 in
theorem hpq_114 : hp_389.2.2 114 = qcell s0 114 := rfl
set_option maxRecDepth 100000 in
theorem hpq_115 : hp_389.2.2 115 = qcell s0 115 := rfl
set_option maxRecDepth 100000 in
theorem hpq_116 : hp_389.2.2 116 = qcell s0 116 := rfl
set_option maxRecDepth 100000 in
theorem hpq_117 : hp_389.2.2 117 = qcell s0 117 := rfl
set_option maxRecDepth 100000 in
theorem hpq_118 : hp_389.2.2 118 = qcell s0 118 := rfl
set_option maxRecDepth 100000 in
theorem hpq_119 : hp_389.2.2 119 = qcell s0 119 := rfl
set_option maxRecDepth 100000 in
theorem hpq_120 : hp_389.2.2 120 = qcell s0 120 := rfl
set_option maxRecDepth 100000 in
theorem hpq_121 : hp_389.2.2 121 = qcell s0 121 := rfl
set_option maxRecDepth 100000 in
theorem hpq_122 : hp_389.2.2 122 = qcell s0 122 := rfl
set_option maxRecDepth 100000 in
theorem hpq_123 : hp_389.2.2 123 = qcell s0 123 := rfl
set_option maxRecDepth 100000 in
theorem hpq_124 : hp_389.2.2 124 = qcell s0 124 := rfl
set_option maxRecDepth 100000 in
theorem hpq_125 : hp_389.2.2 125 = qcell s0 125 := rfl
set_option maxRecDepth 100000 in
theorem hpq_126 : hp_389.2.2 126 = qcell s0 126 := rfl
set_option maxRecDepth 100000 in
theorem hpq_127 : hp_389.2.2 127 = qcell s0 127 := rfl
set_option maxRecDepth 100000 in
theorem hpq_128 : hp_389.2.2 128 = qcell s0 128 := rfl
set_option maxRecDepth 100000 in
theorem hpq_129 : hp_389.2.2 129 = qcell s0 129 := rfl
set_option maxRecDepth 100000 in
theorem hpq_130 : hp_389.2.2 130 = qcell s0 130 := rfl
set_option maxRecDepth 100000 in
theorem hpq_131 : hp_389.2.2 131 = qcell s0 131 := rfl
set_option maxRecDepth 100000 in
theorem hpq_132 : hp_389.2.2 132 = qcell s0 132 := rfl
set_option maxRecDepth 100000 in
theorem hpq_133 : hp_389.2.2 133 = qcell s0 133 := rfl
set_option maxRecDepth 100000 in
theorem hpq_134 : hp_389.2.2 134 = qcell s0 134 := rfl
set_option maxRecDepth 100000 in
theorem hpq_135 : hp_389.2.2 135 = qcell s0 135 := rfl
set_option maxRecDepth 100000 in
theorem hpq_136 : hp_389.2.2 136 = qcell s0 136 := rfl
set_option maxRecDepth 100000 in
theorem hpq_137 : hp_389.2.2 137 = qcell s0 137 := rfl
set_option maxRecDepth 100000 in
theorem hpq_138 : hp_389.2.2 138 = qcell s0 138 := rfl
set_option maxRecDepth 100000 in
theorem hpq_139 : hp_389.2.2 139 = qcell s0 139 := rfl
set_option maxRecDepth 100000 in
theorem hpq_140 : hp_389.2.2 140 = qcell s0 140 := rfl
set_option maxRecDepth 100000 in
theorem hpq_141 : hp_389.2.2 141 = qcell s0 141 := rfl
set_option maxRecDepth 100000 in
theorem hpq_142 : hp_389.2.2 142 = qcell s0 142 := rfl
set_option maxRecDepth 100000 in
theorem hpq_143 : hp_389.2.2 143 = qcell s0 143 := rfl
set_option maxRecDepth 100000 in
theorem hpq_144 : hp_389.2.2 144 = qcell s0 144 := rfl
set_option maxRecDepth 100000 in
theorem hpq_145 : hp_389.2.2 145 = qcell s0 145 := rfl
set_option maxRecDepth 100000 in
theorem hpq_146 : hp_389.2.2 146 = qcell s0 146 := rfl
set_option maxRecDepth 100000 in
theorem hpq_147 : hp_389.2.2 147 = qcell s0 147 := rfl
set_option maxRecDepth 100000 in
theorem hpq_148 : hp_389.2.2 148 = qcell s0 148 := rfl
set_option maxRecDepth 100000 in
theorem hpq_149 : hp_389.2.2 149 = qcell s0 149 := rfl
set_option maxRecDepth 100000 in
theorem hpq_150 : hp_389.2.2 150 = qcell s0 150 := rfl
set_option maxRecDepth 100000 in
theorem hpq_151 : hp_389.2.2 151 = qcell s0 151 := rfl
set_option maxRecDepth 100000 in
theorem hpq_152 : hp_389.2.2 152 = qcell s0 152 := rfl
set_option maxRecDepth 100000 in
theorem hpq_153 : hp_389.2.2 153 = qcell s0 153 := rfl
set_option maxRecDepth 100000 in
theorem hpq_154 : hp_389.2.2 154 = qcell s0 154 := rfl
set_option maxRecDepth 100000 in
theorem hpq_155 : hp_389.2.2 155 = qcell s0 155 := rfl
set_option maxRecDepth 100000 in
theorem hpq_156 : hp_389.2.2 156 = qcell s0 156 := rfl
set_option maxRecDepth 100000 in
theorem hpq_157 : hp_389.2.2 157 = qcell s0 157 := rfl
set_option maxRecDepth 100000 in
theorem hpq_158 : hp_389.2.2 158 = qcell s0 158 := rfl
set_option maxRecDepth 100000 in
theorem hpq_159 : hp_389.2.2 159 = qcell s0 159 := rfl
set_option maxRecDepth 100000 in
theorem hpq_160 : hp_389.2.2 160 = qcell s0 160 := rfl
set_option maxRecDepth 100000 in
theorem hpq_161 : hp_389.2.2 161 = qcell s0 161 := rfl
set_option maxRecDepth 100000 in
theorem hpq_162 : hp_389.2.2 162 = qcell s0 162 := rfl
set_option maxRecDepth 100000 in
theorem hpq_163 : hp_389.2.2 163 = qcell s0 163 := rfl
set_option maxRecDepth 100000 in
theorem hpq_164 : hp_389.2.2 164 = qcell s0 164 := rfl
set_option maxRecDepth 100000 in
theorem hpq_165 : hp_389.2.2 165 = qcell s0 165 := rfl
set_option maxRecDepth 100000 in
theorem hpq_166 : hp_389.2.2 166 = qcell s0 166 := rfl
set_option maxRecDepth 100000 in
theorem hpq_167 : hp_389.2.2 167 = qcell s0 167 := rfl
set_option maxRecDepth 100000 in
theorem hpq_168 : hp_389.2.2 168 = qcell s0 168 := rfl
set_option maxRecDepth 100000 in
theorem hpq_169 : hp_389.2.2 169 = qcell s0 169 := rfl
set_option maxRecDepth 100000 in
theorem hpq_170 : hp_389.2.2 170 = qcell s0 170 := rfl
set_option maxRecDepth 100000 in
theorem hpq_171 : hp_389.2.2 171 = qcell s0 171 := rfl
set_option maxRecDepth 100000 in
theorem hpq_172 : hp_389.2.2 172 = qcell s0 172 := rfl
set_option maxRecDepth 100000 in
theorem hpq_173 : hp_389.2.2 173 = qcell s0 173 := rfl
set_option maxRecDepth 100000 in
theorem hpq_174 : hp_389.2.2 174 = qcell s0 174 := rfl
set_option maxRecDepth 100000 in
theorem hpq_175 : hp_389.2.2 175 = qcell s0 175 := rfl
set_option maxRecDepth 100000 in
theorem hpq_176 : hp_389.2.2 176 = qcell s0 176 := rfl
set_option maxRecDepth 100000 in
theorem hpq_177 : hp_389.2.2 177 = qcell s0 177 := rfl
set_option maxRecDepth 100000 in
theorem hpq_178 : hp_389.2.2 178 = qcell s0 178 := rfl
set_option maxRecDepth 100000 in
theorem hpq_179 : hp_389.2.2 179 = qcell s0 179 := rfl
set_option maxRecDepth 100000 in
theorem hpq_180 : hp_389.2.2 180 = qcell s0 180 := rfl
set_option maxRecDepth 100000 in
theorem hpq_181 : hp_389.2.2 181 = qcell s0 181 := rfl
set_option maxRecDepth 100000 in
theorem hpq_182 : hp_389.2.2 182 = qcell s0 182 := rfl
set_option maxRecDepth 100000 in
theorem hpq_183 : hp_389.2.2 183 = qcell s0 183 := rfl
set_option maxRecDepth 100000 in
theorem hpq_184 : hp_389.2.2 184 = qcell s0 184 := rfl
set_option maxRecDepth 100000 in
theorem hpq_185 : hp_389.2.2 185 = qcell s0 185 := rfl
set_option maxRecDepth 100000 in
theorem hpq_186 : hp_389.2.2 186 = qcell s0 186 := rfl
set_option maxRecDepth 100000 in
theorem hpq_187 : hp_389.2.2 187 = qcell s0 187 := rfl
set_option maxRecDepth 100000 in
theorem hpq_188 : hp_389.2.2 188 = qcell s0 188 := rfl
set_option maxRecDepth 100000 in
theorem hpq_189 : hp_389.2.2 189 = qcell s0 189 := rfl
set_option maxRecDepth 100000 in
theorem hpq_190 : hp_389.2.2 190 = qcell s0 190 := rfl
set_option maxRecDepth 100000 in
theorem hpq_191 : hp_389.2.2 191 = qcell s0 191 := rfl
set_option maxRecDepth 100000 in
theorem hpq_192 : hp_389.2.2 192 = qcell s0 192 := rfl
set_option maxRecDepth 100000 in
theorem hpq_193 : hp_389.2.2 193 = qcell s0 193 := rfl
set_option maxRecDepth 100000 in
theorem hpq_194 : hp_389.2.2 194 = qcell s0 194 := rfl
set_option maxRecDepth 100000 in
theorem hpq_195 : hp_389.2.2 195 = qcell s0 195 := rfl
set_option maxRecDepth 100000 in
theorem hpq_196 : hp_389.2.2 196 = qcell s0 196 := rfl
set_option maxRecDepth 100000 in
theorem hpq_197 : hp_389.2.2 197 = qcell s0 197 := rfl
set_option maxRecDepth 100000 in
theorem hpq_198 : hp_389.2.2 198 = qcell s0 198 := rfl
set_option maxRecDepth 100000 in
theorem hpq_199 : hp_389.2.2 199 = qcell s0 199 := rfl
set_option maxRecDepth 100000 in
theorem hpq_200 : hp_389.2.2 200 = qcell s0 200 := rfl
set_option maxRecDepth 100000 in
theorem hpq_201 : hp_389.2.2 201 = qcell s0 201 := rfl
set_option maxRecDepth 100000 in
theorem hpq_202 : hp_389.2.2 202 = qcell s0 202 := rfl
set_option maxRecDepth 100000 in
theorem hpq_203 : hp_389.2.2 203 = qcell s0 203 := rfl
set_option maxRecDepth 100000 in
theorem hpq_204 : hp_389.2.2 204 = qcell s0 204 := rfl
set_option maxRecDepth 100000 in
theorem hpq_205 : hp_389.2.2 205 = qcell s0 205 := rfl
set_option maxRecDepth 100000 in
theorem hpq_206 : hp_389.2.2 206 = qcell s0 206 := rfl
set_option maxRecDepth 100000 in
theorem hpq_207 : hp_389.2.2 207 = qcell s0 207 := rfl
set_option maxRecDepth 100000 in
theorem hpq_208 : hp_389.2.2 208 = qcell s0 208 := rfl
set_option maxRecDepth 100000 in
theorem hpq_209 : hp_389.2.2 209 = qcell s0 209 := rfl
set_option maxRecDepth 100000 in
theorem hpq_210 : hp_389.2.2 210 = qcell s0 210 := rfl
set_option maxRecDepth 100000 in
theorem hpq_211 : hp_389.2.2 211 = qcell s0 211 := rfl
set_option maxRecDepth 100000 in
theorem hpq_212 : hp_389.2.2 212 = qcell s0 212 := rfl
set_option maxRecDepth 100000 in
theorem hpq_213 : hp_389.2.2 213 = qcell s0 213 := rfl
set_option maxRecDepth 100000 in
theorem hpq_214 : hp_389.2.2 214 = qcell s0 214 := rfl
set_option maxRecDepth 100000 in
theorem hpq_215 : hp_389.2.2 215 = qcell s0 215 := rfl
set_option maxRecDepth 100000 in
theorem hpq_216 : hp_389.2.2 216 = qcell s0 216 := rfl
set_option maxRecDepth 100000 in
theorem hpq_217 : hp_389.2.2 217 = qcell s0 217 := rfl
set_option maxRecDepth 100000 in
theorem hpq_218 : hp_389.2.2 218 = qcell s0 218 := rfl
set_option maxRecDepth 100000 in
theorem hpq_219 : hp_389.2.2 219 = qcell s0 219 := rfl
set_option maxRecDepth 100000 in
theorem hpq_220 : hp_389.2.2 220 = qcell s0 220 := rfl
set_option maxRecDepth 100000 in
theorem hpq_221 : hp_389.2.2 221 = qcell s0 221 := rfl
set_option maxRecDepth 100000 in
theorem hpq_222 : hp_389.2.2 222 = qcell s0 222 := rfl
set_option maxRecDepth 100000 in
theorem hpq_223 : hp_389.2.2 223 = qcell s0 223 := rfl
set_option maxRecDepth 100000 in
theorem hpq_224 : hp_389.2.2 224 = qcell s0 224 := rfl
set_option maxRecDepth 100000 in
theorem hpq_225 : hp_389.2.2 225 = qcell s0 225 := rfl
set_option maxRecDepth 100000 in
theorem hpq_226 : hp_389.2.2 226 = qcell s0 226 := rfl
set_option maxRecDepth 100000 in
theorem hpq_227 : hp_389.2.2 227 = qcell s0 227 := rfl
set_option maxRecDepth 100000 in
theorem hpq_228 : hp_389.2.2 228 = qcell s0 228 := rfl
set_option maxRecDepth 100000 in
theorem hpq_229 : hp_389.2.2 229 = qcell s0 229 := rfl
set_option maxRecDepth 100000 in
theorem hpq_230 : hp_389.2.2 230 = qcell s0 230 := rfl
set_option maxRecDepth 100000 in
theorem hpq_231 : hp_389.2.2 231 = qcell s0 231 := rfl
set_option maxRecDepth 100000 in
theorem hpq_232 : hp_389.2.2 232 = qcell s0 232 := rfl
set_option maxRecDepth 100000 in
theorem hpq_233 : hp_389.2.2 233 = qcell s0 233 := rfl
set_option maxRecDepth 100000 in
theorem hpq_234 : hp_389.2.2 234 = qcell s0 234 := rfl
set_option maxRecDepth 100000 in
theorem hpq_235 : hp_389.2.2 235 = qcell s0 235 := rfl
set_option maxRecDepth 100000 in
theorem hpq_236 : hp_389.2.2 236 = qcell s0 236 := rfl
set_option maxRecDepth 100000 in
theorem hpq_237 : hp_389.2.2 237 = qcell s0 237 := rfl
set_option maxRecDepth 100000 in
theorem hpq_238 : hp_389.2.2 238 = qcell s0 238 := rfl
set_option maxRecDepth 100000 in
theorem hpq_239 : hp_389.2.2 239 = qcell s0 239 := rfl
set_option maxRecDepth 100000 in
theorem hpq_240 : hp_389.2.2 240 = qcell s0 240 := rfl
set_option maxRecDepth 100000 in
theorem hpq_241 : hp_389.2.2 241 = qcell s0 241 := rfl
set_option maxRecDepth 100000 in
theorem hpq_242 : hp_389.2.2 242 = qcell s0 242 := rfl
set_option maxRecDepth 100000 in
theorem hpq_243 : hp_389.2.2 243 = qcell s0 243 := rfl
set_option maxRecDepth 100000 in
theorem hpq_244 : hp_389.2.2 244 = qcell s0 244 := rfl
set_option maxRecDepth 100000 in
theorem hpq_245 : hp_389.2.2 245 = qcell s0 245 := rfl
set_option maxRecDepth 100000 in
theorem hpq_246 : hp_389.2.2 246 = qcell s0 246 := rfl
set_option maxRecDepth 100000 in
theorem hpq_247 : hp_389.2.2 247 = qcell s0 247 := rfl
set_option maxRecDepth 100000 in
theorem hpq_248 : hp_389.2.2 248 = qcell s0 248 := rfl
set_option maxRecDepth 100000 in
theorem hpq_249 : hp_389.2.2 249 = qcell s0 249 := rfl
theorem hpqb_0 : ∀ k : Nat, k < 25 → hp_389.2.2 (0 + k) = qcell s0 (0 + k) := by
  intro k hk
  match k, hk with
  | 0, _ => exact hpq_0
  | 1, _ => exact hpq_1
  | 2, _ => exact hpq_2
  | 3, _ => exact hpq_3
  | 4, _ => exact hpq_4
  | 5, _ => exact hpq_5
  | 6, _ => exact hpq_6
  | 7, _ => exact hpq_7
  | 8, _ => exact hpq_8
  | 9, _ => exact hpq_9
  | 10, _ => exact hpq_10
  | 11, _ => exact hpq_11
  | 12, _ => exact hpq_12
  | 13, _ => exact hpq_13
  | 14, _ => exact hpq_14
  | 15, _ => exact hpq_15
  | 16, _ => exact hpq_16
  | 17, _ => exact hpq_17
  | 18, _ => exact hpq_18
  | 19, _ => exact hpq_19
  | 20, _ => exact hpq_20
  | 21, _ => exact hpq_21
  | 22, _ => exact hpq_22
  | 23, _ => exact hpq_23
  | 24, _ => exact hpq_24
  | k + 25, hk => exact absurd hk (by omega)
theorem hpqb_1 : ∀ k : Nat, k < 25 → hp_389.2.2 (25 + k) = qcell s0 (25 + k) := by
  intro k hk
  match k, hk with
  | 0, _ => exact hpq_25
  | 1, _ => exact hpq_26
  | 2, _ => exact hpq_27
  | 3, _ => exact hpq_28
  | 4, _ => exact hpq_29
  | 5, _ => exact hpq_30
  | 6, _ => exact hpq_31
  | 7, _ => exact hpq_32
  | 8, _ => exact hpq_33
  | 9, _ => exact hpq_34
  | 10, _ => exact hpq_35
  | 11, _ => exact hpq_36
  | 12, _ => exact hpq_37
  | 13, _ => exact hpq_38
  | 14, _ => exact hpq_39
  | 15, _ => exact hpq_40
  | 16, _ => exact hpq_41
  | 17, _ => exact hpq_42
  | 18, _ => exact hpq_43
  | 19, _ => exact hpq_44
  | 20, _ => exact hpq_45
  | 21, _ => exact hpq_46
  | 22, _ => exact hpq_47
  | 23, _ => exact hpq_48
  | 24, _ => exact hpq_49
  | k + 25, hk => exact absurd hk (by omega)
theorem hpqb_2 : ∀ k : Nat, k < 25 → hp_389.2.2 (50 + k) = qcell s0 (50 + k) := by
  intro k hk
  match k, hk with
  | 0, _ => exact hpq_50
  | 1, _ => exact hpq_51
  | 2, _ => exact hpq_52
  | 3, _ => exact hpq_53
  | 4, _ => exact hpq_54
  | 5, _ => exact hpq_55
  | 6, _ => exact hpq_56
  | 7, _ => exact hpq_57
  | 8, _ => exact hpq_58
  | 9, _ => exact hpq_59
  | 10, _ => exact hpq_60
  | 11, _ => exact hpq_61
  | 12, _ => exact hpq_62
  | 13, _ => exact hpq_63
  | 14, _ => exact hpq_64
  | 15, _ => exact hpq_65
  | 16, _ => exact hpq_66
  | 17, _ => exact hpq_67
  | 18, _ => exact hpq_68
  | 19, _ => exact hpq_69
  | 20, _ => exact hpq_70
  | 21, _ => exact hpq_71
  | 22, _ => exact hpq_72
  | 23, _ => exact hpq_73
  | 24, _ => exact hpq_74
  | k + 25, hk => exact absurd hk (by omega)
theorem hpqb_3 : ∀ k : Nat, k < 25 → hp_389.2.2 (75 + k) = qcell s0 (75 + k) := by
  intro k hk
  match k, hk with
  | 0, _ => exact hpq_75
  | 1, _ => exact hpq_76
  | 2, _ => exact hpq_77
  | 3, _ => exact hpq_78
  | 4, _ => exact hpq_79
  | 5, _ => exact hpq_80
  | 6, _ => exact hpq_81
  | 7, _ => exact hpq_82
  | 8, _ => exact hpq_83
  | 9, _ => exact hpq_84
  | 10, _ => exact hpq_85
  | 11, _ => exact hpq_86
  | 12, _ => exact hpq_87
  | 13, _ => exact hpq_88
  | 14, _ => exact hpq_89
  | 15, _ => exact hpq_90
  | 16, _ => exact hpq_91
  | 17, _ => exact hpq_92
  | 18, _ => exact hpq_93
  | 19, _ => exact hpq_94
  | 20, _ => exact hpq_95
  | 21, _ => exact hpq_96
  | 22, _ => exact hpq_97
  | 23, _ => exact hpq_98
  | 24, _ => exact hpq_99
  | k + 25, hk => exact absurd hk (by omega)
theorem hpqb_4 : ∀ k : Nat, k < 25 → hp_389.2.2 (100 + k) = qcell s0 (100 + k) := by
  intro k hk
  match k, hk with
  | 0, _ => exact hpq_100
  | 1, _ => exact hpq_101
  | 2, _ => exact hpq_102
  | 3, _ => exact hpq_103
  | 4, _ => exact hpq_104
  | 5, _ => exact hpq_105
  | 6, _ => exact hpq_106
  | 7, _ => exact hpq_107
  | 8, _ => exact hpq_108
  | 9, _ => exact hpq_109
  | 10, _ => exact hpq_110
  | 11, _ => exact hpq_111
  | 12, _ => exact hpq_112
  | 13, _ => exact hpq_113
  | 14, _ => exact hpq_114
  | 15, _ => exact hpq_115
  | 16, _ => exact hpq_116
  | 17, _ => exact hpq_117
  | 18, _ => exact hpq_118
  | 19, _ => exact hpq_119
  | 20, _ => exact hpq_120
  | 21, _ => exact hpq_121
  | 22, _ => exact hpq_122
  | 23, _ => exact hpq_123
  | 24, _ => exact hpq_124
  | k + 25, hk => exact absurd hk (by omega)
theorem hpqb_5 : ∀ k : Nat, k < 25 → hp_389.2.2 (125 + k) = qcell s0 (125 + k) := by
  intro k hk
  match k, hk with
  | 0, _ => exact hpq_125
  | 1, _ => exact hpq_126
  | 2, _ => exact hpq_127
  | 3, _ => exact hpq_128
  | 4, _ => exact hpq_129
  | 5, _ => exact hpq_130
  | 6, _ => exact hpq_131
  | 7, _ => exact hpq_132
  | 8, _ => exact hpq_133
  | 9, _ => exact hpq_134
  | 10, _ => exact hpq_135
  | 11, _ => exact hpq_136
  | 12, _ => exact hpq_137
  | 13, _ => exact hpq_138
  | 14, _ => exact hpq_139
  | 15, _ => exact hpq_140
  | 16, _ => exact hpq_141
  | 17, _ => exact hpq_142
  | 18, _ => exact hpq_143
  | 19, _ => exact hpq_144
  | 20, _ => exact hpq_145
  | 21, _ => exact hpq_146
  | 22, _ => exact hpq_147
  | 23, _ => exact hpq_148
  | 24, _ => exact hpq_149
  | k + 25, hk => exact absurd hk (by omega)
theorem hpqb_6 : ∀ k : Nat, k < 25 → hp_389.2.2 (150 + k) = qcell s0 (150 + k) := by
  intro k hk
  match k, hk with
  | 0, _ => exact hpq_150
  | 1, _ => exact hpq_151
  | 2, _ => exact hpq_152
  | 3, _ => exact hpq_153
  | 4, _ => exact hpq_154
  | 5, _ => exact hpq_155
  | 6, _ => exact hpq_156
  | 7, _ => exact hpq_157
  | 8, _ => exact hpq_158
  | 9, _ => exact hpq_159
  | 10, _ => exact hpq_160
  | 11, _ => exact hpq_161
  | 12, _ => exact hpq_162
  | 13, _ => exact hpq_163
  | 14, _ => exact hpq_164
  | 15, _ => exact hpq_165
  | 16, _ => exact hpq_166
  | 17, _ => exact hpq_167
  | 18, _ => exact hpq_168
  | 19, _ => exact hpq_169
  | 20, _ => exact hpq_170
  | 21, _ => exact hpq_171
  | 22, _ => exact hpq_172
  | 23, _ => exact hpq_173
  | 24, _ => exact hpq_174
  | k + 25, hk => exact absurd hk (by omega)
theorem hpqb_7 : ∀ k : Nat, k < 25 → hp_389.2.2 (175 + k) = qcell s0 (175 + k) := by
  intro k hk
  match k, hk with
  | 0, _ => exact hpq_175
  | 1, _ => exact hpq_176
  | 2, _ => exact hpq_177
  | 3, _ => exact hpq_178
  | 4, _ => exact hpq_179
  | 5, _ => exact hpq_180
  | 6, _ => exact hpq_181
  | 7, _ => exact hpq_182
  | 8, _ => exact hpq_183
  | 9, _ => exact hpq_184
  | 10, _ => exact hpq_185
  | 11, _ => exact hpq_186
  | 12, _ => exact hpq_187
  | 13, _ => exact hpq_188
  | 14, _ => exact hpq_189
  | 15, _ => exact hpq_190
  | 16, _ => exact hpq_191
  | 17, _ => exact hpq_192
  | 18, _ => exact hpq_193
  | 19, _ => exact hpq_194
  | 20, _ => exact hpq_195
  | 21, _ => exact hpq_196
  | 22, _ => exact hpq_197
  | 23, _ => exact hpq_198
  | 24, _ => exact hpq_199
  | k + 25, hk => exact absurd hk (by omega)
theorem hpqb_8 : ∀ k : Nat, k < 25 → hp_389.2.2 (200 + k) = qcell s0 (200 + k) := by
  intro k hk
  match k, hk with
  | 0, _ => exact hpq_200
  | 1, _ => exact hpq_201
  | 2, _ => exact hpq_202
  | 3, _ => exact hpq_203
  | 4, _ => exact hpq_204
  | 5, _ => exact hpq_205
  | 6, _ => exact hpq_206
  | 7, _ => exact hpq_207
  | 8, _ => exact hpq_208
  | 9, _ => exact hpq_209
  | 10, _ => exact hpq_210
  | 11, _ => exact hpq_211
  | 12, _ => exact hpq_212
  | 13, _ => exact hpq_213
  | 14, _ => exact hpq_214
  | 15, _ => exact hpq_215
  | 16, _ => exact hpq_216
  | 17, _ => exact hpq_217
  | 18, _ => exact hpq_218
  | 19, _ => exact hpq_219
  | 20, _ => exact hpq_220
  | 21, _ => exact hpq_221
  | 22, _ => exact hpq_222
  | 23, _ => exact hpq_223
  | 24, _ => exact hpq_224
  | k + 25, hk => exact absurd hk (by omega)
theorem hpqb_9 : ∀ k : Nat, k < 25 → hp_389.2.2 (225 + k) = qcell s0 (225 + k) := by
  intro k hk
  match k, hk with
  | 0, _ => exact hpq_225
  | 1, _ => exact hpq_226
  | 2, _ => exact hpq_227
  | 3, _ => exact hpq_228
  | 4, _ => exact hpq_229
  | 5, _ => exact hpq_230
  | 6, _ => exact hpq_231
  | 7, _ => exact hpq_232
  | 8, _ => exact hpq_233
  | 9, _ => exact hpq_234
  | 10, _ => exact hpq_235
  | 11, _ => exact hpq_236
  | 12, _ => exact hpq_237
  | 13, _ => exact hpq_238
  | 14, _ => exact hpq_239
  | 15, _ => exact hpq_240
  | 16, _ => exact hpq_241
  | 17, _ => exact hpq_242
  | 18, _ => exact hpq_243
  | 19, _ => exact hpq_244
  | 20, _ => exact hpq_245
  | 21, _ => exact hpq_246
  | 22, _ => exact hpq_247
  | 23, _ => exact hpq_248
  | 24, _ => exact hpq_249
  | k + 25, hk => exact absurd hk (by omega)
theorem hpq : ∀ a : Nat, a < qNC → hp_389.2.2 a = qcell s0 a := by
  intro a ha
  have ha : a < 250 := ha
  by_cases h0 : a < 25
  · have := hpqb_0 (a - 0) (by omega)
    rw [show 0 + (a - 0) = a by omega] at this
    exact this
  by_cases h1 : a < 50
  · have := hpqb_1 (a - 25) (by omega)
    rw [show 25 + (a - 25) = a by omega] at this
    exact this
  by_cases h2 : a < 75
  · have := hpqb_2 (a - 50) (by omega)
    rw [show 50 + (a - 50) = a by omega] at this
    exact this
  by_cases h3 : a < 100
  · have := hpqb_3 (a - 75) (by omega)
    rw [show 75 + (a - 75) = a by omega] at this
    exact this
  by_cases h4 : a < 125
  · have := hpqb_4 (a - 100) (by omega)
    rw [show 100 + (a - 100) = a by omega] at this
    exact this
  by_cases h5 : a < 150
  · have := hpqb_5 (a - 125) (by omega)
    rw [show 125 + (a - 125) = a by omega] at this
    exact this
  by_cases h6 : a < 175
  · have := hpqb_6 (a - 150) (by omega)
    rw [show 150 + (a - 150) = a by omega] at this
    exact this
  by_cases h7 : a < 200
  · have := hpqb_7 (a - 175) (by omega)
    rw [show 175 + (a - 175) = a by omega] at this
    exact this
  by_cases h8 : a < 225
  · have := hpqb_8 (a - 200) (by omega)
    rw [show 200 + (a - 200) = a by omega] at this
    exact this
  by_cases h9 : a < 250
  · have := hpqb_9 (a - 225) (by omega)
    rw [show 225 + (a - 225) = a by omega] at this
    exact this
  omega
abbrev hpL : pH := hp_389
