/-! THE CONSTRUCTORS: what they leave, cell by cell (printed by program). -/
def kw0 : List Int64 := [1634547, 1602148, 228323819, 4049845613035, 251163892, 251164133, 526729365452396, 31114951028, 224130286, 27594043877, 219706996, 3364007541108, 209221228, 30815303289, 13542, 32163657317, 213596645, 209286764, 66920014801434213, 4013887680740, 29196366578, 222018159, 3362136816883, 29741658866, 1798393, 230521332, 29204443763, 215512306, 27344319204, 32184727399, 32148978291, 219772516, 31115276779]
def kw1 : List Int64 := [32184629861, 240742628, 236665587, 236812776, 1849328, 1850100, 1700596]
/-- what the system's cells hold behind the constructors -/
def s0 : qS := (fun a k => if a = 0 then (if k = 13 then -2 else if k = 14 then -2 else 0) else if a = 65 then (if k = 12 then -2 else 0) else 0, fun a k => if a = 3 then kw0.getD k 0 else if a = 66 then kw1.getD k 0 else 0, fun a k => if a = 65 then (if k = 7 then 62 else 0) else 0)
def hp_0 : pH := (0, 0, fun _ => .inr (0, []))
set_option maxRecDepth 100000 in
theorem kw0_ok : (cdS (stBy 0) 33 (stBy 0).length).2 = kw0 := by decide +kernel
set_option maxRecDepth 100000 in
theorem kw1_ok : (cdS (stBy 1) 7 (stBy 1).length).2 = kw1 := by decide +kernel
theorem byAll {n : Nat} {p : Nat → Bool} (h : (List.range n).all p = true) : ∀ i : Nat, i < n → p i = true := fun i hi => List.all_eq_true.mp h i (List.mem_range.mpr hi)
set_option maxRecDepth 100000 in
theorem kw0_run {en : pN} {d : Nat} (h : pH) : pev msL en (d + 5) 164 [.retAddr 1, .int (33 : Int32)] h = some (some (.ref h.1), (h.1 + 1, h.2.1 + 33, p_up h.2.2 h.1 (cdE 33 kw0))) := by
  have K := x_codes (en := en) (d := d) (q := 1) (cnt := 33) (bs := stBy 0) (h := h) (by decide) rfl (by decide +kernel) (by decide) (fun i hi => of_decide_eq_true (byAll (p := fun i => decide (narrow .char (.int (chB ((stBy 0).getD i 0))) = .int (chB ((stBy 0).getD i 0)))) (by decide +kernel) i hi)) (fun i hi => of_decide_eq_true (byAll (p := fun i => decide ((cdS (stBy 0) 33 i).1 < 33)) (by decide +kernel) i hi))
  rw [kw0_ok] at K
  exact K
set_option maxRecDepth 100000 in
theorem kw1_run {en : pN} {d : Nat} (h : pH) : pev msL en (d + 5) 164 [.retAddr 2, .int (7 : Int32)] h = some (some (.ref h.1), (h.1 + 1, h.2.1 + 7, p_up h.2.2 h.1 (cdE 7 kw1))) := by
  have K := x_codes (en := en) (d := d) (q := 2) (cnt := 7) (bs := stBy 1) (h := h) (by decide) rfl (by decide +kernel) (by decide) (fun i hi => of_decide_eq_true (byAll (p := fun i => decide (narrow .char (.int (chB ((stBy 1).getD i 0))) = .int (chB ((stBy 1).getD i 0)))) (by decide +kernel) i hi)) (fun i hi => of_decide_eq_true (byAll (p := fun i => decide ((cdS (stBy 1) 7 i).1 < 7)) (by decide +kernel) i hi))
  rw [kw1_ok] at K
  exact K
def hp_1 : pH := (1, 15, p_up hp_0.2.2 0 (.inr (11, p_dfl 11 15)))
def hp_2 : pH := (2, 27, p_up hp_1.2.2 1 (.inr (9, p_dfl 9 12)))
def hp_3 : pH := (3, 4027, p_up hp_2.2.2 2 (.inl (3, 4000, p_zero 3)))
def hp_4 : pH := (3, 4027, p_up hp_3.2.2 1 (.inr (9, [.ref 2, .null, .null, .null, .null, .int (0 : Int32), .int (0 : Int32), .int (0 : Int32), .int (0 : Int32), .int (0 : Int32), .int (0 : Int32), .long (0 : Int64)])))
def hp_5 : pH := (4, 4060, p_up hp_4.2.2 3 (cdE 33 kw0))
def hp_6 : pH := (4, 4060, p_up hp_5.2.2 1 (.inr (9, [.ref 2, .ref 3, .null, .null, .null, .int (0 : Int32), .int (0 : Int32), .int (0 : Int32), .int (0 : Int32), .int (0 : Int32), .int (0 : Int32), .long (0 : Int64)])))
def hp_7 : pH := (5, 8061, p_up hp_6.2.2 4 (.inl (0, 4001, p_zero 0)))
def hp_8 : pH := (5, 8061, p_up hp_7.2.2 1 (.inr (9, [.ref 2, .ref 3, .ref 4, .null, .null, .int (0 : Int32), .int (0 : Int32), .int (0 : Int32), .int (0 : Int32), .int (0 : Int32), .int (0 : Int32), .long (0 : Int64)])))
def hp_9 : pH := (6, 12062, p_up hp_8.2.2 5 (.inl (0, 4001, p_zero 0)))
def hp_10 : pH := (6, 12062, p_up hp_9.2.2 1 (.inr (9, [.ref 2, .ref 3, .ref 4, .ref 5, .null, .int (0 : Int32), .int (0 : Int32), .int (0 : Int32), .int (0 : Int32), .int (0 : Int32), .int (0 : Int32), .long (0 : Int64)])))
def hp_11 : pH := (7, 16063, p_up hp_10.2.2 6 (.inl (1, 4001, p_zero 1)))
def hp_12 : pH := (7, 16063, p_up hp_11.2.2 1 (.inr (9, [.ref 2, .ref 3, .ref 4, .ref 5, .ref 6, .int (0 : Int32), .int (0 : Int32), .int (0 : Int32), .int (0 : Int32), .int (0 : Int32), .int (0 : Int32), .long (0 : Int64)])))
set_option maxRecDepth 100000 in
set_option maxHeartbeats 4000000 in
theorem ct_X9_init_1 {en : pN} {d : Nat} : pev msL en (d + 6) 163 [.ref 1] hp_2 = some (none, hp_12) := by
  refine x_enter ix_X9_init (Nat.le_of_ble_eq_true rfl) ?_
  show xW _ en none tb_X9_init (0, [(0, .ref 1)], []) hp_2 _
  refine x_L 1 (f' := (1, [(0, .ref 1)], [.ref 1])) rfl ?_
  refine x_obj rfl rfl (Nat.le_of_ble_eq_true rfl) ?_
  show xW _ en none tb_X9_init (4, [(0, .ref 1)], []) hp_2 _
  refine x_L 2 (f' := (8, [(0, .ref 1)], [.int (4000 : Int32), .ref 1])) rfl ?_
  refine x_H ((10, [(0, .ref 1)], [.ref 2, .ref 1]), hp_3) rfl rfl rfl rfl rfl ?_
  refine x_H ((13, [(0, .ref 1)], []), hp_4) rfl rfl rfl rfl rfl ?_
  refine x_L 1 (f' := (14, [(0, .ref 1)], [.ref 1])) rfl ?_
  refine x_H ((16, [(0, .ref 1)], [.retAddr 1, .ref 1]), hp_4) rfl rfl rfl rfl rfl ?_
  refine x_L 1 (f' := (18, [(0, .ref 1)], [.int (33 : Int32), .retAddr 1, .ref 1])) rfl ?_
  refine x_stat 164 rfl rfl rfl ix_X9_codes rfl (Nat.le_of_ble_eq_true rfl) (kw0_run (d := d) hp_4) ?_
  show xW _ en none tb_X9_init (21, [(0, .ref 1)], [.ref 3, .ref 1]) hp_5 _
  refine x_H ((24, [(0, .ref 1)], []), hp_6) rfl rfl rfl rfl rfl ?_
  refine x_L 2 (f' := (28, [(0, .ref 1)], [.int (4001 : Int32), .ref 1])) rfl ?_
  refine x_H ((30, [(0, .ref 1)], [.ref 4, .ref 1]), hp_7) rfl rfl rfl rfl rfl ?_
  refine x_H ((33, [(0, .ref 1)], []), hp_8) rfl rfl rfl rfl rfl ?_
  refine x_L 2 (f' := (37, [(0, .ref 1)], [.int (4001 : Int32), .ref 1])) rfl ?_
  refine x_H ((39, [(0, .ref 1)], [.ref 5, .ref 1]), hp_9) rfl rfl rfl rfl rfl ?_
  refine x_H ((42, [(0, .ref 1)], []), hp_10) rfl rfl rfl rfl rfl ?_
  refine x_L 2 (f' := (46, [(0, .ref 1)], [.int (4001 : Int32), .ref 1])) rfl ?_
  refine x_H ((48, [(0, .ref 1)], [.ref 6, .ref 1]), hp_11) rfl rfl rfl rfl rfl ?_
  refine x_H ((51, [(0, .ref 1)], []), hp_12) rfl rfl rfl rfl rfl ?_
  exact x_ret rfl rfl
def hp_13 : pH := (7, 16063, p_up hp_12.2.2 0 (.inr (11, [.ref 1, .null, .null, .null, .null, .null, .null, .null, .null, .int (0 : Int32), .int (0 : Int32), .int (0 : Int32), .int (0 : Int32), .int (0 : Int32), .int (0 : Int32)])))
def hp_14 : pH := (8, 16068, p_up hp_13.2.2 7 (.inr (4, p_dfl 4 5)))
def hp_15 : pH := (9, 16568, p_up hp_14.2.2 8 (.inl (0, 500, p_zero 0)))
def hp_16 : pH := (9, 16568, p_up hp_15.2.2 7 (.inr (4, [.ref 8, .null, .null, .int (0 : Int32), .int (0 : Int32)])))
def hp_17 : pH := (10, 17068, p_up hp_16.2.2 9 (.inl (0, 500, p_zero 0)))
def hp_18 : pH := (10, 17068, p_up hp_17.2.2 7 (.inr (4, [.ref 8, .ref 9, .null, .int (0 : Int32), .int (0 : Int32)])))
def hp_19 : pH := (11, 17570, p_up hp_18.2.2 10 (.inl (0, 502, p_zero 0)))
def hp_20 : pH := (11, 17570, p_up hp_19.2.2 7 (.inr (4, [.ref 8, .ref 9, .ref 10, .int (0 : Int32), .int (0 : Int32)])))
set_option maxRecDepth 100000 in
set_option maxHeartbeats 4000000 in
theorem ct_X4_init_1 {en : pN} {d : Nat} : pev msL en (d + 1) 75 [.ref 7, .int (500 : Int32)] hp_14 = some (none, hp_20) := by
  refine x_enter ix_X4_init (Nat.le_of_ble_eq_true rfl) ?_
  show xW _ en none tb_X4_init (0, [(0, .ref 7), (1, .int (500 : Int32))], []) hp_14 _
  refine x_L 1 (f' := (1, [(0, .ref 7), (1, .int (500 : Int32))], [.ref 7])) rfl ?_
  refine x_obj rfl rfl (Nat.le_of_ble_eq_true rfl) ?_
  show xW _ en none tb_X4_init (4, [(0, .ref 7), (1, .int (500 : Int32))], []) hp_14 _
  refine x_L 2 (f' := (6, [(0, .ref 7), (1, .int (500 : Int32))], [.int (500 : Int32), .ref 7])) rfl ?_
  refine x_H ((8, [(0, .ref 7), (1, .int (500 : Int32))], [.ref 8, .ref 7]), hp_15) rfl rfl rfl rfl rfl ?_
  refine x_H ((11, [(0, .ref 7), (1, .int (500 : Int32))], []), hp_16) rfl rfl rfl rfl rfl ?_
  refine x_L 2 (f' := (13, [(0, .ref 7), (1, .int (500 : Int32))], [.int (500 : Int32), .ref 7])) rfl ?_
  refine x_H ((15, [(0, .ref 7), (1, .int (500 : Int32))], [.ref 9, .ref 7]), hp_17) rfl rfl rfl rfl rfl ?_
  refine x_H ((18, [(0, .ref 7), (1, .int (500 : Int32))], []), hp_18) rfl rfl rfl rfl rfl ?_
  refine x_L 4 (f' := (22, [(0, .ref 7), (1, .int (500 : Int32))], [.int (502 : Int32), .ref 7])) rfl ?_
  refine x_H ((24, [(0, .ref 7), (1, .int (500 : Int32))], [.ref 10, .ref 7]), hp_19) rfl rfl rfl rfl rfl ?_
  refine x_H ((27, [(0, .ref 7), (1, .int (500 : Int32))], []), hp_20) rfl rfl rfl rfl rfl ?_
  exact x_ret rfl rfl
def hp_21 : pH := (12, 17584, p_up hp_20.2.2 11 (.inr (5, p_dfl 5 14)))
def hp_22 : pH := (13, 17600, p_up hp_21.2.2 12 (.inl (1, 16, p_zero 1)))
def hp_23 : pH := (13, 17600, p_up hp_22.2.2 11 (.inr (5, [.null, .ref 12, .null, .null, .null, .null, .null, .int (0 : Int32), .int (0 : Int32), .int (0 : Int32), .int (0 : Int32), .int (0 : Int32), .int (0 : Int32), .int (0 : Int32)])))
def hp_24 : pH := (14, 17624, p_up hp_23.2.2 13 (.inl (1, 24, p_zero 1)))
def hp_25 : pH := (14, 17624, p_up hp_24.2.2 11 (.inr (5, [.null, .ref 12, .ref 13, .null, .null, .null, .null, .int (0 : Int32), .int (0 : Int32), .int (0 : Int32), .int (0 : Int32), .int (0 : Int32), .int (0 : Int32), .int (0 : Int32)])))
def hp_26 : pH := (15, 17628, p_up hp_25.2.2 14 (.inl (0, 4, p_zero 0)))
def hp_27 : pH := (15, 17628, p_up hp_26.2.2 11 (.inr (5, [.null, .ref 12, .ref 13, .ref 14, .null, .null, .null, .int (0 : Int32), .int (0 : Int32), .int (0 : Int32), .int (0 : Int32), .int (0 : Int32), .int (0 : Int32), .int (0 : Int32)])))
def hp_28 : pH := (16, 17636, p_up hp_27.2.2 15 (.inl (0, 8, p_zero 0)))
def hp_29 : pH := (16, 17636, p_up hp_28.2.2 11 (.inr (5, [.null, .ref 12, .ref 13, .ref 14, .ref 15, .null, .null, .int (0 : Int32), .int (0 : Int32), .int (0 : Int32), .int (0 : Int32), .int (0 : Int32), .int (0 : Int32), .int (0 : Int32)])))
def hp_30 : pH := (17, 17640, p_up hp_29.2.2 16 (.inl (0, 4, p_zero 0)))
def hp_31 : pH := (17, 17640, p_up hp_30.2.2 11 (.inr (5, [.null, .ref 12, .ref 13, .ref 14, .ref 15, .ref 16, .null, .int (0 : Int32), .int (0 : Int32), .int (0 : Int32), .int (0 : Int32), .int (0 : Int32), .int (0 : Int32), .int (0 : Int32)])))
def hp_32 : pH := (36, 19458, (p_mna 18 100 hp_31).2.2)
def hp_33 : pH := (36, 19458, p_up hp_32.2.2 11 (.inr (5, [.null, .ref 12, .ref 13, .ref 14, .ref 15, .ref 16, .ref 17, .int (0 : Int32), .int (0 : Int32), .int (0 : Int32), .int (0 : Int32), .int (0 : Int32), .int (0 : Int32), .int (0 : Int32)])))
def hp_34 : pH := (36, 19458, p_up hp_33.2.2 11 (.inr (5, [.ref 7, .ref 12, .ref 13, .ref 14, .ref 15, .ref 16, .ref 17, .int (0 : Int32), .int (0 : Int32), .int (0 : Int32), .int (0 : Int32), .int (0 : Int32), .int (0 : Int32), .int (0 : Int32)])))
set_option maxRecDepth 100000 in
set_option maxHeartbeats 4000000 in
theorem ct_X5_init_1 {en : pN} {d : Nat} : pev msL en (d + 1) 80 [.ref 11, .ref 7] hp_21 = some (none, hp_34) := by
  refine x_enter ix_X5_init (Nat.le_of_ble_eq_true rfl) ?_
  show xW _ en none tb_X5_init (0, [(0, .ref 11), (1, .ref 7)], []) hp_21 _
  refine x_L 1 (f' := (1, [(0, .ref 11), (1, .ref 7)], [.ref 11])) rfl ?_
  refine x_obj rfl rfl (Nat.le_of_ble_eq_true rfl) ?_
  show xW _ en none tb_X5_init (4, [(0, .ref 11), (1, .ref 7)], []) hp_21 _
  refine x_L 2 (f' := (7, [(0, .ref 11), (1, .ref 7)], [.int (16 : Int32), .ref 11])) rfl ?_
  refine x_H ((9, [(0, .ref 11), (1, .ref 7)], [.ref 12, .ref 11]), hp_22) rfl rfl rfl rfl rfl ?_
  refine x_H ((12, [(0, .ref 11), (1, .ref 7)], []), hp_23) rfl rfl rfl rfl rfl ?_
  refine x_L 2 (f' := (15, [(0, .ref 11), (1, .ref 7)], [.int (24 : Int32), .ref 11])) rfl ?_
  refine x_H ((17, [(0, .ref 11), (1, .ref 7)], [.ref 13, .ref 11]), hp_24) rfl rfl rfl rfl rfl ?_
  refine x_H ((20, [(0, .ref 11), (1, .ref 7)], []), hp_25) rfl rfl rfl rfl rfl ?_
  refine x_L 2 (f' := (22, [(0, .ref 11), (1, .ref 7)], [.int (4 : Int32), .ref 11])) rfl ?_
  refine x_H ((24, [(0, .ref 11), (1, .ref 7)], [.ref 14, .ref 11]), hp_26) rfl rfl rfl rfl rfl ?_
  refine x_H ((27, [(0, .ref 11), (1, .ref 7)], []), hp_27) rfl rfl rfl rfl rfl ?_
  refine x_L 2 (f' := (30, [(0, .ref 11), (1, .ref 7)], [.int (8 : Int32), .ref 11])) rfl ?_
  refine x_H ((32, [(0, .ref 11), (1, .ref 7)], [.ref 15, .ref 11]), hp_28) rfl rfl rfl rfl rfl ?_
  refine x_H ((35, [(0, .ref 11), (1, .ref 7)], []), hp_29) rfl rfl rfl rfl rfl ?_
  refine x_L 2 (f' := (37, [(0, .ref 11), (1, .ref 7)], [.int (4 : Int32), .ref 11])) rfl ?_
  refine x_H ((39, [(0, .ref 11), (1, .ref 7)], [.ref 16, .ref 11]), hp_30) rfl rfl rfl rfl rfl ?_
  refine x_H ((42, [(0, .ref 11), (1, .ref 7)], []), hp_31) rfl rfl rfl rfl rfl ?_
  refine x_L 3 (f' := (47, [(0, .ref 11), (1, .ref 7)], [.int (100 : Int32), .int (18 : Int32), .ref 11])) rfl ?_
  refine x_H ((51, [(0, .ref 11), (1, .ref 7)], [.ref 17, .ref 11]), hp_32) rfl rfl rfl rfl rfl ?_
  refine x_H ((54, [(0, .ref 11), (1, .ref 7)], []), hp_33) rfl rfl rfl rfl rfl ?_
  refine x_L 2 (f' := (56, [(0, .ref 11), (1, .ref 7)], [.ref 7, .ref 11])) rfl ?_
  refine x_H ((59, [(0, .ref 11), (1, .ref 7)], []), hp_34) rfl rfl rfl rfl rfl ?_
  exact x_ret rfl rfl
def hp_35 : pH := (36, 19458, p_up hp_34.2.2 0 (.inr (11, [.ref 1, .ref 11, .null, .null, .null, .null, .null, .null, .null, .int (0 : Int32), .int (0 : Int32), .int (0 : Int32), .int (0 : Int32), .int (0 : Int32), .int (0 : Int32)])))
def hp_36 : pH := (37, 19472, p_up hp_35.2.2 36 (.inr (5, p_dfl 5 14)))
def hp_37 : pH := (38, 19488, p_up hp_36.2.2 37 (.inl (1, 16, p_zero 1)))
def hp_38 : pH := (38, 19488, p_up hp_37.2.2 36 (.inr (5, [.null, .ref 37, .null, .null, .null, .null, .null, .int (0 : Int32), .int (0 : Int32), .int (0 : Int32), .int (0 : Int32), .int (0 : Int32), .int (0 : Int32), .int (0 : Int32)])))
def hp_39 : pH := (39, 19512, p_up hp_38.2.2 38 (.inl (1, 24, p_zero 1)))
def hp_40 : pH := (39, 19512, p_up hp_39.2.2 36 (.inr (5, [.null, .ref 37, .ref 38, .null, .null, .null, .null, .int (0 : Int32), .int (0 : Int32), .int (0 : Int32), .int (0 : Int32), .int (0 : Int32), .int (0 : Int32), .int (0 : Int32)])))
def hp_41 : pH := (40, 19516, p_up hp_40.2.2 39 (.inl (0, 4, p_zero 0)))
def hp_42 : pH := (40, 19516, p_up hp_41.2.2 36 (.inr (5, [.null, .ref 37, .ref 38, .ref 39, .null, .null, .null, .int (0 : Int32), .int (0 : Int32), .int (0 : Int32), .int (0 : Int32), .int (0 : Int32), .int (0 : Int32), .int (0 : Int32)])))
def hp_43 : pH := (41, 19524, p_up hp_42.2.2 40 (.inl (0, 8, p_zero 0)))
def hp_44 : pH := (41, 19524, p_up hp_43.2.2 36 (.inr (5, [.null, .ref 37, .ref 38, .ref 39, .ref 40, .null, .null, .int (0 : Int32), .int (0 : Int32), .int (0 : Int32), .int (0 : Int32), .int (0 : Int32), .int (0 : Int32), .int (0 : Int32)])))
def hp_45 : pH := (42, 19528, p_up hp_44.2.2 41 (.inl (0, 4, p_zero 0)))
def hp_46 : pH := (42, 19528, p_up hp_45.2.2 36 (.inr (5, [.null, .ref 37, .ref 38, .ref 39, .ref 40, .ref 41, .null, .int (0 : Int32), .int (0 : Int32), .int (0 : Int32), .int (0 : Int32), .int (0 : Int32), .int (0 : Int32), .int (0 : Int32)])))
def hp_47 : pH := (61, 21346, (p_mna 18 100 hp_46).2.2)
def hp_48 : pH := (61, 21346, p_up hp_47.2.2 36 (.inr (5, [.null, .ref 37, .ref 38, .ref 39, .ref 40, .ref 41, .ref 42, .int (0 : Int32), .int (0 : Int32), .int (0 : Int32), .int (0 : Int32), .int (0 : Int32), .int (0 : Int32), .int (0 : Int32)])))
def hp_49 : pH := (61, 21346, p_up hp_48.2.2 36 (.inr (5, [.ref 7, .ref 37, .ref 38, .ref 39, .ref 40, .ref 41, .ref 42, .int (0 : Int32), .int (0 : Int32), .int (0 : Int32), .int (0 : Int32), .int (0 : Int32), .int (0 : Int32), .int (0 : Int32)])))
set_option maxRecDepth 100000 in
set_option maxHeartbeats 4000000 in
theorem ct_X5_init_2 {en : pN} {d : Nat} : pev msL en (d + 1) 80 [.ref 36, .ref 7] hp_36 = some (none, hp_49) := by
  refine x_enter ix_X5_init (Nat.le_of_ble_eq_true rfl) ?_
  show xW _ en none tb_X5_init (0, [(0, .ref 36), (1, .ref 7)], []) hp_36 _
  refine x_L 1 (f' := (1, [(0, .ref 36), (1, .ref 7)], [.ref 36])) rfl ?_
  refine x_obj rfl rfl (Nat.le_of_ble_eq_true rfl) ?_
  show xW _ en none tb_X5_init (4, [(0, .ref 36), (1, .ref 7)], []) hp_36 _
  refine x_L 2 (f' := (7, [(0, .ref 36), (1, .ref 7)], [.int (16 : Int32), .ref 36])) rfl ?_
  refine x_H ((9, [(0, .ref 36), (1, .ref 7)], [.ref 37, .ref 36]), hp_37) rfl rfl rfl rfl rfl ?_
  refine x_H ((12, [(0, .ref 36), (1, .ref 7)], []), hp_38) rfl rfl rfl rfl rfl ?_
  refine x_L 2 (f' := (15, [(0, .ref 36), (1, .ref 7)], [.int (24 : Int32), .ref 36])) rfl ?_
  refine x_H ((17, [(0, .ref 36), (1, .ref 7)], [.ref 38, .ref 36]), hp_39) rfl rfl rfl rfl rfl ?_
  refine x_H ((20, [(0, .ref 36), (1, .ref 7)], []), hp_40) rfl rfl rfl rfl rfl ?_
  refine x_L 2 (f' := (22, [(0, .ref 36), (1, .ref 7)], [.int (4 : Int32), .ref 36])) rfl ?_
  refine x_H ((24, [(0, .ref 36), (1, .ref 7)], [.ref 39, .ref 36]), hp_41) rfl rfl rfl rfl rfl ?_
  refine x_H ((27, [(0, .ref 36), (1, .ref 7)], []), hp_42) rfl rfl rfl rfl rfl ?_
  refine x_L 2 (f' := (30, [(0, .ref 36), (1, .ref 7)], [.int (8 : Int32), .ref 36])) rfl ?_
  refine x_H ((32, [(0, .ref 36), (1, .ref 7)], [.ref 40, .ref 36]), hp_43) rfl rfl rfl rfl rfl ?_
  refine x_H ((35, [(0, .ref 36), (1, .ref 7)], []), hp_44) rfl rfl rfl rfl rfl ?_
  refine x_L 2 (f' := (37, [(0, .ref 36), (1, .ref 7)], [.int (4 : Int32), .ref 36])) rfl ?_
  refine x_H ((39, [(0, .ref 36), (1, .ref 7)], [.ref 41, .ref 36]), hp_45) rfl rfl rfl rfl rfl ?_
  refine x_H ((42, [(0, .ref 36), (1, .ref 7)], []), hp_46) rfl rfl rfl rfl rfl ?_
  refine x_L 3 (f' := (47, [(0, .ref 36), (1, .ref 7)], [.int (100 : Int32), .int (18 : Int32), .ref 36])) rfl ?_
  refine x_H ((51, [(0, .ref 36), (1, .ref 7)], [.ref 42, .ref 36]), hp_47) rfl rfl rfl rfl rfl ?_
  refine x_H ((54, [(0, .ref 36), (1, .ref 7)], []), hp_48) rfl rfl rfl rfl rfl ?_
  refine x_L 2 (f' := (56, [(0, .ref 36), (1, .ref 7)], [.ref 7, .ref 36])) rfl ?_
  refine x_H ((59, [(0, .ref 36), (1, .ref 7)], []), hp_49) rfl rfl rfl rfl rfl ?_
  exact x_ret rfl rfl
def hp_50 : pH := (61, 21346, p_up hp_49.2.2 0 (.inr (11, [.ref 1, .ref 11, .ref 36, .null, .null, .null, .null, .null, .null, .int (0 : Int32), .int (0 : Int32), .int (0 : Int32), .int (0 : Int32), .int (0 : Int32), .int (0 : Int32)])))
def hp_51 : pH := (62, 21351, p_up hp_50.2.2 61 (.inr (4, p_dfl 4 5)))
def hp_52 : pH := (63, 21751, p_up hp_51.2.2 62 (.inl (0, 400, p_zero 0)))
def hp_53 : pH := (63, 21751, p_up hp_52.2.2 61 (.inr (4, [.ref 62, .null, .null, .int (0 : Int32), .int (0 : Int32)])))
def hp_54 : pH := (64, 22151, p_up hp_53.2.2 63 (.inl (0, 400, p_zero 0)))
def hp_55 : pH := (64, 22151, p_up hp_54.2.2 61 (.inr (4, [.ref 62, .ref 63, .null, .int (0 : Int32), .int (0 : Int32)])))
def hp_56 : pH := (65, 22553, p_up hp_55.2.2 64 (.inl (0, 402, p_zero 0)))
def hp_57 : pH := (65, 22553, p_up hp_56.2.2 61 (.inr (4, [.ref 62, .ref 63, .ref 64, .int (0 : Int32), .int (0 : Int32)])))
set_option maxRecDepth 100000 in
set_option maxHeartbeats 4000000 in
theorem ct_X4_init_2 {en : pN} {d : Nat} : pev msL en (d + 1) 75 [.ref 61, .int (400 : Int32)] hp_51 = some (none, hp_57) := by
  refine x_enter ix_X4_init (Nat.le_of_ble_eq_true rfl) ?_
  show xW _ en none tb_X4_init (0, [(0, .ref 61), (1, .int (400 : Int32))], []) hp_51 _
  refine x_L 1 (f' := (1, [(0, .ref 61), (1, .int (400 : Int32))], [.ref 61])) rfl ?_
  refine x_obj rfl rfl (Nat.le_of_ble_eq_true rfl) ?_
  show xW _ en none tb_X4_init (4, [(0, .ref 61), (1, .int (400 : Int32))], []) hp_51 _
  refine x_L 2 (f' := (6, [(0, .ref 61), (1, .int (400 : Int32))], [.int (400 : Int32), .ref 61])) rfl ?_
  refine x_H ((8, [(0, .ref 61), (1, .int (400 : Int32))], [.ref 62, .ref 61]), hp_52) rfl rfl rfl rfl rfl ?_
  refine x_H ((11, [(0, .ref 61), (1, .int (400 : Int32))], []), hp_53) rfl rfl rfl rfl rfl ?_
  refine x_L 2 (f' := (13, [(0, .ref 61), (1, .int (400 : Int32))], [.int (400 : Int32), .ref 61])) rfl ?_
  refine x_H ((15, [(0, .ref 61), (1, .int (400 : Int32))], [.ref 63, .ref 61]), hp_54) rfl rfl rfl rfl rfl ?_
  refine x_H ((18, [(0, .ref 61), (1, .int (400 : Int32))], []), hp_55) rfl rfl rfl rfl rfl ?_
  refine x_L 4 (f' := (22, [(0, .ref 61), (1, .int (400 : Int32))], [.int (402 : Int32), .ref 61])) rfl ?_
  refine x_H ((24, [(0, .ref 61), (1, .int (400 : Int32))], [.ref 64, .ref 61]), hp_56) rfl rfl rfl rfl rfl ?_
  refine x_H ((27, [(0, .ref 61), (1, .int (400 : Int32))], []), hp_57) rfl rfl rfl rfl rfl ?_
  exact x_ret rfl rfl
def hp_58 : pH := (66, 22568, p_up hp_57.2.2 65 (.inr (6, p_dfl 6 15)))
def hp_59 : pH := (67, 22575, p_up hp_58.2.2 66 (cdE 7 kw1))
def hp_60 : pH := (67, 22575, p_up hp_59.2.2 65 (.inr (6, [.null, .null, .null, .ref 66, .null, .null, .null, .null, .int (0 : Int32), .int (0 : Int32), .int (0 : Int32), .int (0 : Int32), .int (0 : Int32), .int (0 : Int32), .int (0 : Int32)])))
def hp_61 : pH := (68, 22675, p_up hp_60.2.2 67 (.inl (1, 100, p_zero 1)))
def hp_62 : pH := (68, 22675, p_up hp_61.2.2 65 (.inr (6, [.null, .null, .null, .ref 66, .ref 67, .null, .null, .null, .int (0 : Int32), .int (0 : Int32), .int (0 : Int32), .int (0 : Int32), .int (0 : Int32), .int (0 : Int32), .int (0 : Int32)])))
def hp_63 : pH := (69, 22775, p_up hp_62.2.2 68 (.inl (0, 100, p_zero 0)))
def hp_64 : pH := (69, 22775, p_up hp_63.2.2 65 (.inr (6, [.null, .null, .null, .ref 66, .ref 67, .ref 68, .null, .null, .int (0 : Int32), .int (0 : Int32), .int (0 : Int32), .int (0 : Int32), .int (0 : Int32), .int (0 : Int32), .int (0 : Int32)])))
def hp_65 : pH := (70, 22779, p_up hp_64.2.2 69 (.inl (0, 4, p_zero 0)))
def hp_66 : pH := (70, 22779, p_up hp_65.2.2 65 (.inr (6, [.null, .null, .null, .ref 66, .ref 67, .ref 68, .ref 69, .null, .int (0 : Int32), .int (0 : Int32), .int (0 : Int32), .int (0 : Int32), .int (0 : Int32), .int (0 : Int32), .int (0 : Int32)])))
def hp_67 : pH := (70, 22779, p_up hp_66.2.2 65 (.inr (6, [.ref 1, .null, .null, .ref 66, .ref 67, .ref 68, .ref 69, .null, .int (0 : Int32), .int (0 : Int32), .int (0 : Int32), .int (0 : Int32), .int (0 : Int32), .int (0 : Int32), .int (0 : Int32)])))
def hp_68 : pH := (70, 22779, p_up hp_67.2.2 65 (.inr (6, [.ref 1, .ref 11, .null, .ref 66, .ref 67, .ref 68, .ref 69, .null, .int (0 : Int32), .int (0 : Int32), .int (0 : Int32), .int (0 : Int32), .int (0 : Int32), .int (0 : Int32), .int (0 : Int32)])))
def hp_69 : pH := (70, 22779, p_up hp_68.2.2 65 (.inr (6, [.ref 1, .ref 11, .ref 61, .ref 66, .ref 67, .ref 68, .ref 69, .null, .int (0 : Int32), .int (0 : Int32), .int (0 : Int32), .int (0 : Int32), .int (0 : Int32), .int (0 : Int32), .int (0 : Int32)])))
def hp_70 : pH := (70, 22779, p_up hp_69.2.2 65 (.inr (6, [.ref 1, .ref 11, .ref 61, .ref 66, .ref 67, .ref 68, .ref 69, .ref 61, .int (0 : Int32), .int (0 : Int32), .int (0 : Int32), .int (0 : Int32), .int (0 : Int32), .int (0 : Int32), .int (0 : Int32)])))
def hp_71 : pH := (70, 22779, p_up hp_70.2.2 65 (.inr (6, [.ref 1, .ref 11, .ref 61, .ref 66, .ref 67, .ref 68, .ref 69, .ref 61, .int (0 : Int32), .int (0 : Int32), .int (0 : Int32), .int (0 : Int32), .int (-2 : Int32), .int (0 : Int32), .int (0 : Int32)])))
set_option maxRecDepth 100000 in
set_option maxHeartbeats 4000000 in
theorem ct_X6_init_1 {en : pN} {d : Nat} : pev msL en (d + 6) 112 [.ref 65, .ref 1, .ref 11, .ref 61] hp_58 = some (none, hp_71) := by
  refine x_enter ix_X6_init (Nat.le_of_ble_eq_true rfl) ?_
  show xW _ en none tb_X6_init (0, [(0, .ref 65), (1, .ref 1), (2, .ref 11), (3, .ref 61)], []) hp_58 _
  refine x_L 1 (f' := (1, [(0, .ref 65), (1, .ref 1), (2, .ref 11), (3, .ref 61)], [.ref 65])) rfl ?_
  refine x_obj rfl rfl (Nat.le_of_ble_eq_true rfl) ?_
  show xW _ en none tb_X6_init (4, [(0, .ref 65), (1, .ref 1), (2, .ref 11), (3, .ref 61)], []) hp_58 _
  refine x_L 1 (f' := (5, [(0, .ref 65), (1, .ref 1), (2, .ref 11), (3, .ref 61)], [.ref 65])) rfl ?_
  refine x_H ((7, [(0, .ref 65), (1, .ref 1), (2, .ref 11), (3, .ref 61)], [.retAddr 2, .ref 65]), hp_58) rfl rfl rfl rfl rfl ?_
  refine x_L 1 (f' := (9, [(0, .ref 65), (1, .ref 1), (2, .ref 11), (3, .ref 61)], [.int (7 : Int32), .retAddr 2, .ref 65])) rfl ?_
  refine x_stat 164 rfl rfl rfl ix_X9_codes rfl (Nat.le_of_ble_eq_true rfl) (kw1_run (d := d) hp_58) ?_
  show xW _ en none tb_X6_init (12, [(0, .ref 65), (1, .ref 1), (2, .ref 11), (3, .ref 61)], [.ref 66, .ref 65]) hp_59 _
  refine x_H ((15, [(0, .ref 65), (1, .ref 1), (2, .ref 11), (3, .ref 61)], []), hp_60) rfl rfl rfl rfl rfl ?_
  refine x_L 2 (f' := (18, [(0, .ref 65), (1, .ref 1), (2, .ref 11), (3, .ref 61)], [.int (100 : Int32), .ref 65])) rfl ?_
  refine x_H ((20, [(0, .ref 65), (1, .ref 1), (2, .ref 11), (3, .ref 61)], [.ref 67, .ref 65]), hp_61) rfl rfl rfl rfl rfl ?_
  refine x_H ((23, [(0, .ref 65), (1, .ref 1), (2, .ref 11), (3, .ref 61)], []), hp_62) rfl rfl rfl rfl rfl ?_
  refine x_L 2 (f' := (26, [(0, .ref 65), (1, .ref 1), (2, .ref 11), (3, .ref 61)], [.int (100 : Int32), .ref 65])) rfl ?_
  refine x_H ((28, [(0, .ref 65), (1, .ref 1), (2, .ref 11), (3, .ref 61)], [.ref 68, .ref 65]), hp_63) rfl rfl rfl rfl rfl ?_
  refine x_H ((31, [(0, .ref 65), (1, .ref 1), (2, .ref 11), (3, .ref 61)], []), hp_64) rfl rfl rfl rfl rfl ?_
  refine x_L 2 (f' := (33, [(0, .ref 65), (1, .ref 1), (2, .ref 11), (3, .ref 61)], [.int (4 : Int32), .ref 65])) rfl ?_
  refine x_H ((35, [(0, .ref 65), (1, .ref 1), (2, .ref 11), (3, .ref 61)], [.ref 69, .ref 65]), hp_65) rfl rfl rfl rfl rfl ?_
  refine x_H ((38, [(0, .ref 65), (1, .ref 1), (2, .ref 11), (3, .ref 61)], []), hp_66) rfl rfl rfl rfl rfl ?_
  refine x_L 2 (f' := (40, [(0, .ref 65), (1, .ref 1), (2, .ref 11), (3, .ref 61)], [.ref 1, .ref 65])) rfl ?_
  refine x_H ((43, [(0, .ref 65), (1, .ref 1), (2, .ref 11), (3, .ref 61)], []), hp_67) rfl rfl rfl rfl rfl ?_
  refine x_L 2 (f' := (45, [(0, .ref 65), (1, .ref 1), (2, .ref 11), (3, .ref 61)], [.ref 11, .ref 65])) rfl ?_
  refine x_H ((48, [(0, .ref 65), (1, .ref 1), (2, .ref 11), (3, .ref 61)], []), hp_68) rfl rfl rfl rfl rfl ?_
  refine x_L 2 (f' := (50, [(0, .ref 65), (1, .ref 1), (2, .ref 11), (3, .ref 61)], [.ref 61, .ref 65])) rfl ?_
  refine x_H ((53, [(0, .ref 65), (1, .ref 1), (2, .ref 11), (3, .ref 61)], []), hp_69) rfl rfl rfl rfl rfl ?_
  refine x_L 2 (f' := (55, [(0, .ref 65), (1, .ref 1), (2, .ref 11), (3, .ref 61)], [.ref 61, .ref 65])) rfl ?_
  refine x_H ((58, [(0, .ref 65), (1, .ref 1), (2, .ref 11), (3, .ref 61)], []), hp_70) rfl rfl rfl rfl rfl ?_
  refine x_L 2 (f' := (61, [(0, .ref 65), (1, .ref 1), (2, .ref 11), (3, .ref 61)], [.int (-2 : Int32), .ref 65])) rfl ?_
  refine x_H ((64, [(0, .ref 65), (1, .ref 1), (2, .ref 11), (3, .ref 61)], []), hp_71) rfl rfl rfl rfl rfl ?_
  exact x_ret rfl rfl
def hp_72 : pH := (70, 22779, p_up hp_71.2.2 0 (.inr (11, [.ref 1, .ref 11, .ref 36, .ref 65, .null, .null, .null, .null, .null, .int (0 : Int32), .int (0 : Int32), .int (0 : Int32), .int (0 : Int32), .int (0 : Int32), .int (0 : Int32)])))
def hp_73 : pH := (71, 22799, p_up hp_72.2.2 70 (.inr (10, p_dfl 10 20)))
def hp_74 : pH := (72, 22812, p_up hp_73.2.2 71 (.inr (3, p_dfl 3 13)))
def hp_75 : pH := (73, 23048, p_up hp_74.2.2 72 (.inl (0, 236, p_zero 0)))
def hp_76 : pH := (73, 23048, p_up hp_75.2.2 71 (.inr (3, [.ref 72, .null, .null, .int (0 : Int32), .null, .int (0 : Int32), .int (0 : Int32), .null, .int (0 : Int32), .int (0 : Int32), .int (0 : Int32), .int (0 : Int32), .int (0 : Int32)])))
def hp_77 : pH := (74, 23284, p_up hp_76.2.2 73 (.inl (0, 236, p_zero 0)))
def hp_78 : pH := (74, 23284, p_up hp_77.2.2 71 (.inr (3, [.ref 72, .ref 73, .null, .int (0 : Int32), .null, .int (0 : Int32), .int (0 : Int32), .null, .int (0 : Int32), .int (0 : Int32), .int (0 : Int32), .int (0 : Int32), .int (0 : Int32)])))
def hp_79 : pH := (75, 23324, p_up hp_78.2.2 74 (.inl (0, 40, p_zero 0)))
def hp_80 : pH := (75, 23324, p_up hp_79.2.2 71 (.inr (3, [.ref 72, .ref 73, .ref 74, .int (0 : Int32), .null, .int (0 : Int32), .int (0 : Int32), .null, .int (0 : Int32), .int (0 : Int32), .int (0 : Int32), .int (0 : Int32), .int (0 : Int32)])))
def hp_81 : pH := (76, 23544, p_up hp_80.2.2 75 (.inl (0, 220, p_zero 0)))
def hp_82 : pH := (76, 23544, p_up hp_81.2.2 71 (.inr (3, [.ref 72, .ref 73, .ref 74, .int (0 : Int32), .ref 75, .int (0 : Int32), .int (0 : Int32), .null, .int (0 : Int32), .int (0 : Int32), .int (0 : Int32), .int (0 : Int32), .int (0 : Int32)])))
set_option maxRecDepth 100000 in
set_option maxHeartbeats 4000000 in
theorem ct_X3_init_1 {en : pN} {d : Nat} : pev msL en (d + 1) 31 [.ref 71] hp_74 = some (none, hp_82) := by
  refine x_enter ix_X3_init (Nat.le_of_ble_eq_true rfl) ?_
  show xW _ en none tb_X3_init (0, [(0, .ref 71)], []) hp_74 _
  refine x_L 1 (f' := (1, [(0, .ref 71)], [.ref 71])) rfl ?_
  refine x_obj rfl rfl (Nat.le_of_ble_eq_true rfl) ?_
  show xW _ en none tb_X3_init (4, [(0, .ref 71)], []) hp_74 _
  refine x_L 2 (f' := (8, [(0, .ref 71)], [.int (236 : Int32), .ref 71])) rfl ?_
  refine x_H ((10, [(0, .ref 71)], [.ref 72, .ref 71]), hp_75) rfl rfl rfl rfl rfl ?_
  refine x_H ((13, [(0, .ref 71)], []), hp_76) rfl rfl rfl rfl rfl ?_
  refine x_L 2 (f' := (17, [(0, .ref 71)], [.int (236 : Int32), .ref 71])) rfl ?_
  refine x_H ((19, [(0, .ref 71)], [.ref 73, .ref 71]), hp_77) rfl rfl rfl rfl rfl ?_
  refine x_H ((22, [(0, .ref 71)], []), hp_78) rfl rfl rfl rfl rfl ?_
  refine x_L 2 (f' := (25, [(0, .ref 71)], [.int (40 : Int32), .ref 71])) rfl ?_
  refine x_H ((27, [(0, .ref 71)], [.ref 74, .ref 71]), hp_79) rfl rfl rfl rfl rfl ?_
  refine x_H ((30, [(0, .ref 71)], []), hp_80) rfl rfl rfl rfl rfl ?_
  refine x_L 2 (f' := (34, [(0, .ref 71)], [.int (220 : Int32), .ref 71])) rfl ?_
  refine x_H ((36, [(0, .ref 71)], [.ref 75, .ref 71]), hp_81) rfl rfl rfl rfl rfl ?_
  refine x_H ((39, [(0, .ref 71)], []), hp_82) rfl rfl rfl rfl rfl ?_
  exact x_ret rfl rfl
def hp_83 : pH := (76, 23544, p_up hp_82.2.2 70 (.inr (10, [.ref 71, .null, .null, .null, .null, .null, .null, .null, .null, .null, .null, .null, .null, .int (0 : Int32), .int (0 : Int32), .int (0 : Int32), .int (0 : Int32), .int (0 : Int32), .int (0 : Int32), .int (0 : Int32)])))
def hp_84 : pH := (77, 23551, p_up hp_83.2.2 76 (.inr (0, p_dfl 0 7)))
def hp_85 : pH := (78, 33551, p_up hp_84.2.2 77 (.inl (0, 10000, p_zero 0)))
def hp_86 : pH := (78, 33551, p_up hp_85.2.2 76 (.inr (0, [.ref 77, .null, .null, .null, .null, .null, .int (0 : Int32)])))
def hp_87 : pH := (79, 33559, p_up hp_86.2.2 78 (.inl (0, 8, p_zero 0)))
def hp_88 : pH := (79, 33559, p_up hp_87.2.2 76 (.inr (0, [.ref 77, .ref 78, .null, .null, .null, .null, .int (0 : Int32)])))
def hp_89 : pH := (80, 33563, p_up hp_88.2.2 79 (.inl (0, 4, p_zero 0)))
def hp_90 : pH := (80, 33563, p_up hp_89.2.2 76 (.inr (0, [.ref 77, .ref 78, .ref 79, .null, .null, .null, .int (0 : Int32)])))
def hp_91 : pH := (81, 33568, p_up hp_90.2.2 80 (.inl (0, 5, p_zero 0)))
def hp_92 : pH := (81, 33568, p_up hp_91.2.2 76 (.inr (0, [.ref 77, .ref 78, .ref 79, .ref 80, .null, .null, .int (0 : Int32)])))
def hp_93 : pH := (82, 33572, p_up hp_92.2.2 81 (.inl (0, 4, p_zero 0)))
def hp_94 : pH := (82, 33572, p_up hp_93.2.2 76 (.inr (0, [.ref 77, .ref 78, .ref 79, .ref 80, .ref 81, .null, .int (0 : Int32)])))
def hp_95 : pH := (83, 33576, p_up hp_94.2.2 82 (.inl (0, 4, p_zero 0)))
def hp_96 : pH := (83, 33576, p_up hp_95.2.2 76 (.inr (0, [.ref 77, .ref 78, .ref 79, .ref 80, .ref 81, .ref 82, .int (0 : Int32)])))
set_option maxRecDepth 100000 in
set_option maxHeartbeats 4000000 in
theorem ct_X0_init_1 {en : pN} {d : Nat} : pev msL en (d + 1) 0 [.ref 76] hp_84 = some (none, hp_96) := by
  refine x_enter ix_X0_init (Nat.le_of_ble_eq_true rfl) ?_
  show xW _ en none tb_X0_init (0, [(0, .ref 76)], []) hp_84 _
  refine x_L 1 (f' := (1, [(0, .ref 76)], [.ref 76])) rfl ?_
  refine x_obj rfl rfl (Nat.le_of_ble_eq_true rfl) ?_
  show xW _ en none tb_X0_init (4, [(0, .ref 76)], []) hp_84 _
  refine x_L 2 (f' := (8, [(0, .ref 76)], [.int (10000 : Int32), .ref 76])) rfl ?_
  refine x_H ((10, [(0, .ref 76)], [.ref 77, .ref 76]), hp_85) rfl rfl rfl rfl rfl ?_
  refine x_H ((13, [(0, .ref 76)], []), hp_86) rfl rfl rfl rfl rfl ?_
  refine x_L 2 (f' := (16, [(0, .ref 76)], [.int (8 : Int32), .ref 76])) rfl ?_
  refine x_H ((18, [(0, .ref 76)], [.ref 78, .ref 76]), hp_87) rfl rfl rfl rfl rfl ?_
  refine x_H ((21, [(0, .ref 76)], []), hp_88) rfl rfl rfl rfl rfl ?_
  refine x_L 2 (f' := (23, [(0, .ref 76)], [.int (4 : Int32), .ref 76])) rfl ?_
  refine x_H ((25, [(0, .ref 76)], [.ref 79, .ref 76]), hp_89) rfl rfl rfl rfl rfl ?_
  refine x_H ((28, [(0, .ref 76)], []), hp_90) rfl rfl rfl rfl rfl ?_
  refine x_L 2 (f' := (30, [(0, .ref 76)], [.int (5 : Int32), .ref 76])) rfl ?_
  refine x_H ((32, [(0, .ref 76)], [.ref 80, .ref 76]), hp_91) rfl rfl rfl rfl rfl ?_
  refine x_H ((35, [(0, .ref 76)], []), hp_92) rfl rfl rfl rfl rfl ?_
  refine x_L 2 (f' := (37, [(0, .ref 76)], [.int (4 : Int32), .ref 76])) rfl ?_
  refine x_H ((39, [(0, .ref 76)], [.ref 81, .ref 76]), hp_93) rfl rfl rfl rfl rfl ?_
  refine x_H ((42, [(0, .ref 76)], []), hp_94) rfl rfl rfl rfl rfl ?_
  refine x_L 2 (f' := (44, [(0, .ref 76)], [.int (4 : Int32), .ref 76])) rfl ?_
  refine x_H ((46, [(0, .ref 76)], [.ref 82, .ref 76]), hp_95) rfl rfl rfl rfl rfl ?_
  refine x_H ((49, [(0, .ref 76)], []), hp_96) rfl rfl rfl rfl rfl ?_
  exact x_ret rfl rfl
def hp_97 : pH := (83, 33576, p_up hp_96.2.2 70 (.inr (10, [.ref 71, .ref 76, .null, .null, .null, .null, .null, .null, .null, .null, .null, .null, .null, .int (0 : Int32), .int (0 : Int32), .int (0 : Int32), .int (0 : Int32), .int (0 : Int32), .int (0 : Int32), .int (0 : Int32)])))
def hp_98 : pH := (84, 33582, p_up hp_97.2.2 83 (.inr (7, p_dfl 7 6)))
def hp_99 : pH := (85, 773582, p_up hp_98.2.2 84 (.inl (1, 740000, p_zero 1)))
def hp_100 : pH := (85, 773582, p_up hp_99.2.2 83 (.inr (7, [.ref 84, .null, .null, .int (0 : Int32), .int (0 : Int32), .int (0 : Int32)])))
def hp_101 : pH := (86, 793582, p_up hp_100.2.2 85 (.inl (0, 20000, p_zero 0)))
def hp_102 : pH := (86, 793582, p_up hp_101.2.2 83 (.inr (7, [.ref 84, .ref 85, .null, .int (0 : Int32), .int (0 : Int32), .int (0 : Int32)])))
def hp_103 : pH := (87, 826350, p_up hp_102.2.2 86 (.inl (0, 32768, p_zero 0)))
def hp_104 : pH := (87, 826350, p_up hp_103.2.2 83 (.inr (7, [.ref 84, .ref 85, .ref 86, .int (0 : Int32), .int (0 : Int32), .int (0 : Int32)])))
set_option maxRecDepth 100000 in
set_option maxHeartbeats 4000000 in
theorem ct_X7_init_1 {en : pN} {d : Nat} : pev msL en (d + 1) 145 [.ref 83, .ref 84, .int (20000 : Int32), .int (32768 : Int32)] hp_99 = some (none, hp_104) := by
  refine x_enter ix_X7_init (Nat.le_of_ble_eq_true rfl) ?_
  show xW _ en none tb_X7_init (0, [(0, .ref 83), (1, .ref 84), (2, .int (20000 : Int32)), (3, .int (32768 : Int32))], []) hp_99 _
  refine x_L 1 (f' := (1, [(0, .ref 83), (1, .ref 84), (2, .int (20000 : Int32)), (3, .int (32768 : Int32))], [.ref 83])) rfl ?_
  refine x_obj rfl rfl (Nat.le_of_ble_eq_true rfl) ?_
  show xW _ en none tb_X7_init (4, [(0, .ref 83), (1, .ref 84), (2, .int (20000 : Int32)), (3, .int (32768 : Int32))], []) hp_99 _
  refine x_L 2 (f' := (6, [(0, .ref 83), (1, .ref 84), (2, .int (20000 : Int32)), (3, .int (32768 : Int32))], [.ref 84, .ref 83])) rfl ?_
  refine x_H ((9, [(0, .ref 83), (1, .ref 84), (2, .int (20000 : Int32)), (3, .int (32768 : Int32))], []), hp_100) rfl rfl rfl rfl rfl ?_
  refine x_L 2 (f' := (11, [(0, .ref 83), (1, .ref 84), (2, .int (20000 : Int32)), (3, .int (32768 : Int32))], [.int (20000 : Int32), .ref 83])) rfl ?_
  refine x_H ((13, [(0, .ref 83), (1, .ref 84), (2, .int (20000 : Int32)), (3, .int (32768 : Int32))], [.ref 85, .ref 83]), hp_101) rfl rfl rfl rfl rfl ?_
  refine x_H ((16, [(0, .ref 83), (1, .ref 84), (2, .int (20000 : Int32)), (3, .int (32768 : Int32))], []), hp_102) rfl rfl rfl rfl rfl ?_
  refine x_L 2 (f' := (18, [(0, .ref 83), (1, .ref 84), (2, .int (20000 : Int32)), (3, .int (32768 : Int32))], [.int (32768 : Int32), .ref 83])) rfl ?_
  refine x_H ((20, [(0, .ref 83), (1, .ref 84), (2, .int (20000 : Int32)), (3, .int (32768 : Int32))], [.ref 86, .ref 83]), hp_103) rfl rfl rfl rfl rfl ?_
  refine x_H ((23, [(0, .ref 83), (1, .ref 84), (2, .int (20000 : Int32)), (3, .int (32768 : Int32))], []), hp_104) rfl rfl rfl rfl rfl ?_
  exact x_ret rfl rfl
def hp_105 : pH := (87, 826350, p_up hp_104.2.2 70 (.inr (10, [.ref 71, .ref 76, .ref 83, .null, .null, .null, .null, .null, .null, .null, .null, .null, .null, .int (0 : Int32), .int (0 : Int32), .int (0 : Int32), .int (0 : Int32), .int (0 : Int32), .int (0 : Int32), .int (0 : Int32)])))
def hp_106 : pH := (88, 826356, p_up hp_105.2.2 87 (.inr (7, p_dfl 7 6)))
def hp_107 : pH := (88, 826356, p_up hp_106.2.2 87 (.inr (7, [.ref 84, .null, .null, .int (0 : Int32), .int (0 : Int32), .int (0 : Int32)])))
def hp_108 : pH := (89, 846356, p_up hp_107.2.2 88 (.inl (0, 20000, p_zero 0)))
def hp_109 : pH := (89, 846356, p_up hp_108.2.2 87 (.inr (7, [.ref 84, .ref 88, .null, .int (0 : Int32), .int (0 : Int32), .int (0 : Int32)])))
def hp_110 : pH := (90, 879124, p_up hp_109.2.2 89 (.inl (0, 32768, p_zero 0)))
def hp_111 : pH := (90, 879124, p_up hp_110.2.2 87 (.inr (7, [.ref 84, .ref 88, .ref 89, .int (0 : Int32), .int (0 : Int32), .int (0 : Int32)])))
set_option maxRecDepth 100000 in
set_option maxHeartbeats 4000000 in
theorem ct_X7_init_2 {en : pN} {d : Nat} : pev msL en (d + 1) 145 [.ref 87, .ref 84, .int (20000 : Int32), .int (32768 : Int32)] hp_106 = some (none, hp_111) := by
  refine x_enter ix_X7_init (Nat.le_of_ble_eq_true rfl) ?_
  show xW _ en none tb_X7_init (0, [(0, .ref 87), (1, .ref 84), (2, .int (20000 : Int32)), (3, .int (32768 : Int32))], []) hp_106 _
  refine x_L 1 (f' := (1, [(0, .ref 87), (1, .ref 84), (2, .int (20000 : Int32)), (3, .int (32768 : Int32))], [.ref 87])) rfl ?_
  refine x_obj rfl rfl (Nat.le_of_ble_eq_true rfl) ?_
  show xW _ en none tb_X7_init (4, [(0, .ref 87), (1, .ref 84), (2, .int (20000 : Int32)), (3, .int (32768 : Int32))], []) hp_106 _
  refine x_L 2 (f' := (6, [(0, .ref 87), (1, .ref 84), (2, .int (20000 : Int32)), (3, .int (32768 : Int32))], [.ref 84, .ref 87])) rfl ?_
  refine x_H ((9, [(0, .ref 87), (1, .ref 84), (2, .int (20000 : Int32)), (3, .int (32768 : Int32))], []), hp_107) rfl rfl rfl rfl rfl ?_
  refine x_L 2 (f' := (11, [(0, .ref 87), (1, .ref 84), (2, .int (20000 : Int32)), (3, .int (32768 : Int32))], [.int (20000 : Int32), .ref 87])) rfl ?_
  refine x_H ((13, [(0, .ref 87), (1, .ref 84), (2, .int (20000 : Int32)), (3, .int (32768 : Int32))], [.ref 88, .ref 87]), hp_108) rfl rfl rfl rfl rfl ?_
  refine x_H ((16, [(0, .ref 87), (1, .ref 84), (2, .int (20000 : Int32)), (3, .int (32768 : Int32))], []), hp_109) rfl rfl rfl rfl rfl ?_
  refine x_L 2 (f' := (18, [(0, .ref 87), (1, .ref 84), (2, .int (20000 : Int32)), (3, .int (32768 : Int32))], [.int (32768 : Int32), .ref 87])) rfl ?_
  refine x_H ((20, [(0, .ref 87), (1, .ref 84), (2, .int (20000 : Int32)), (3, .int (32768 : Int32))], [.ref 89, .ref 87]), hp_110) rfl rfl rfl rfl rfl ?_
  refine x_H ((23, [(0, .ref 87), (1, .ref 84), (2, .int (20000 : Int32)), (3, .int (32768 : Int32))], []), hp_111) rfl rfl rfl rfl rfl ?_
  exact x_ret rfl rfl
def hp_112 : pH := (90, 879124, p_up hp_111.2.2 70 (.inr (10, [.ref 71, .ref 76, .ref 83, .ref 87, .null, .null, .null, .null, .null, .null, .null, .null, .null, .int (0 : Int32), .int (0 : Int32), .int (0 : Int32), .int (0 : Int32), .int (0 : Int32), .int (0 : Int32), .int (0 : Int32)])))
def hp_113 : pH := (91, 1079124, p_up hp_112.2.2 90 (.inl (0, 200000, p_zero 0)))
def hp_114 : pH := (91, 1079124, p_up hp_113.2.2 70 (.inr (10, [.ref 71, .ref 76, .ref 83, .ref 87, .ref 90, .null, .null, .null, .null, .null, .null, .null, .null, .int (0 : Int32), .int (0 : Int32), .int (0 : Int32), .int (0 : Int32), .int (0 : Int32), .int (0 : Int32), .int (0 : Int32)])))
def hp_115 : pH := (92, 1099124, p_up hp_114.2.2 91 (.inl (0, 20000, p_zero 0)))
def hp_116 : pH := (92, 1099124, p_up hp_115.2.2 70 (.inr (10, [.ref 71, .ref 76, .ref 83, .ref 87, .ref 90, .ref 91, .null, .null, .null, .null, .null, .null, .null, .int (0 : Int32), .int (0 : Int32), .int (0 : Int32), .int (0 : Int32), .int (0 : Int32), .int (0 : Int32), .int (0 : Int32)])))
def hp_117 : pH := (93, 1119125, p_up hp_116.2.2 92 (.inl (0, 20001, p_zero 0)))
def hp_118 : pH := (93, 1119125, p_up hp_117.2.2 70 (.inr (10, [.ref 71, .ref 76, .ref 83, .ref 87, .ref 90, .ref 91, .ref 92, .null, .null, .null, .null, .null, .null, .int (0 : Int32), .int (0 : Int32), .int (0 : Int32), .int (0 : Int32), .int (0 : Int32), .int (0 : Int32), .int (0 : Int32)])))
def hp_119 : pH := (94, 1139125, p_up hp_118.2.2 93 (.inl (0, 20000, p_zero 0)))
def hp_120 : pH := (94, 1139125, p_up hp_119.2.2 70 (.inr (10, [.ref 71, .ref 76, .ref 83, .ref 87, .ref 90, .ref 91, .ref 92, .ref 93, .null, .null, .null, .null, .null, .int (0 : Int32), .int (0 : Int32), .int (0 : Int32), .int (0 : Int32), .int (0 : Int32), .int (0 : Int32), .int (0 : Int32)])))
def hp_121 : pH := (95, 1139235, p_up hp_120.2.2 94 (.inl (1, 110, p_zero 1)))
def hp_122 : pH := (95, 1139235, p_up hp_121.2.2 70 (.inr (10, [.ref 71, .ref 76, .ref 83, .ref 87, .ref 90, .ref 91, .ref 92, .ref 93, .ref 94, .null, .null, .null, .null, .int (0 : Int32), .int (0 : Int32), .int (0 : Int32), .int (0 : Int32), .int (0 : Int32), .int (0 : Int32), .int (0 : Int32)])))
def hp_123 : pH := (96, 1139239, p_up hp_122.2.2 95 (.inl (0, 4, p_zero 0)))
def hp_124 : pH := (96, 1139239, p_up hp_123.2.2 70 (.inr (10, [.ref 71, .ref 76, .ref 83, .ref 87, .ref 90, .ref 91, .ref 92, .ref 93, .ref 94, .ref 95, .null, .null, .null, .int (0 : Int32), .int (0 : Int32), .int (0 : Int32), .int (0 : Int32), .int (0 : Int32), .int (0 : Int32), .int (0 : Int32)])))
def hp_125 : pH := (97, 1219239, p_up hp_124.2.2 96 (.inl (0, 80000, p_zero 0)))
def hp_126 : pH := (97, 1219239, p_up hp_125.2.2 70 (.inr (10, [.ref 71, .ref 76, .ref 83, .ref 87, .ref 90, .ref 91, .ref 92, .ref 93, .ref 94, .ref 95, .ref 96, .null, .null, .int (0 : Int32), .int (0 : Int32), .int (0 : Int32), .int (0 : Int32), .int (0 : Int32), .int (0 : Int32), .int (0 : Int32)])))
def hp_127 : pH := (98, 1299239, p_up hp_126.2.2 97 (.inl (0, 80000, p_zero 0)))
def hp_128 : pH := (98, 1299239, p_up hp_127.2.2 70 (.inr (10, [.ref 71, .ref 76, .ref 83, .ref 87, .ref 90, .ref 91, .ref 92, .ref 93, .ref 94, .ref 95, .ref 96, .ref 97, .null, .int (0 : Int32), .int (0 : Int32), .int (0 : Int32), .int (0 : Int32), .int (0 : Int32), .int (0 : Int32), .int (0 : Int32)])))
def hp_129 : pH := (99, 1379239, p_up hp_128.2.2 98 (.inl (0, 80000, p_zero 0)))
def hp_130 : pH := (99, 1379239, p_up hp_129.2.2 70 (.inr (10, [.ref 71, .ref 76, .ref 83, .ref 87, .ref 90, .ref 91, .ref 92, .ref 93, .ref 94, .ref 95, .ref 96, .ref 97, .ref 98, .int (0 : Int32), .int (0 : Int32), .int (0 : Int32), .int (0 : Int32), .int (0 : Int32), .int (0 : Int32), .int (0 : Int32)])))
set_option maxRecDepth 100000 in
set_option maxHeartbeats 4000000 in
theorem ct_X10_init_1 {en : pN} {d : Nat} : pev msL en (d + 2) 176 [.ref 70] hp_73 = some (none, hp_130) := by
  refine x_enter ix_X10_init (Nat.le_of_ble_eq_true rfl) ?_
  show xW _ en none tb_X10_init (0, [(0, .ref 70)], []) hp_73 _
  refine x_L 1 (f' := (1, [(0, .ref 70)], [.ref 70])) rfl ?_
  refine x_obj rfl rfl (Nat.le_of_ble_eq_true rfl) ?_
  show xW _ en none tb_X10_init (4, [(0, .ref 70)], []) hp_73 _
  refine x_L 1 (f' := (5, [(0, .ref 70)], [.ref 70])) rfl ?_
  refine x_H ((8, [(0, .ref 70)], [.ref 71, .ref 70]), hp_74) rfl rfl rfl rfl rfl ?_
  refine x_L 1 (f' := (9, [(0, .ref 70)], [.ref 71, .ref 71, .ref 70])) rfl ?_
  refine x_spec 31 rfl rfl rfl ix_X3_init rfl (Nat.le_of_ble_eq_true rfl) (ct_X3_init_1 (d := d + 0)) ?_
  show xW _ en none tb_X10_init (12, [(0, .ref 70)], [.ref 71, .ref 70]) hp_82 _
  refine x_H ((15, [(0, .ref 70)], []), hp_83) rfl rfl rfl rfl rfl ?_
  refine x_L 1 (f' := (16, [(0, .ref 70)], [.ref 70])) rfl ?_
  refine x_H ((19, [(0, .ref 70)], [.ref 76, .ref 70]), hp_84) rfl rfl rfl rfl rfl ?_
  refine x_L 1 (f' := (20, [(0, .ref 70)], [.ref 76, .ref 76, .ref 70])) rfl ?_
  refine x_spec 0 rfl rfl rfl ix_X0_init rfl (Nat.le_of_ble_eq_true rfl) (ct_X0_init_1 (d := d + 0)) ?_
  show xW _ en none tb_X10_init (23, [(0, .ref 70)], [.ref 76, .ref 70]) hp_96 _
  refine x_H ((26, [(0, .ref 70)], []), hp_97) rfl rfl rfl rfl rfl ?_
  refine x_L 1 (f' := (27, [(0, .ref 70)], [.ref 70])) rfl ?_
  refine x_H ((30, [(0, .ref 70)], [.ref 83, .ref 70]), hp_98) rfl rfl rfl rfl rfl ?_
  refine x_L 1 (f' := (31, [(0, .ref 70)], [.ref 83, .ref 83, .ref 70])) rfl ?_
  refine x_H ((33, [(0, .ref 70)], [.int (740000 : Int32), .ref 83, .ref 83, .ref 70]), hp_98) rfl rfl rfl rfl rfl ?_
  refine x_H ((35, [(0, .ref 70)], [.ref 84, .ref 83, .ref 83, .ref 70]), hp_99) rfl rfl rfl rfl rfl ?_
  refine x_L 1 (f' := (38, [(0, .ref 70)], [.int (20000 : Int32), .ref 84, .ref 83, .ref 83, .ref 70])) rfl ?_
  refine x_H ((40, [(0, .ref 70)], [.int (32768 : Int32), .int (20000 : Int32), .ref 84, .ref 83, .ref 83, .ref 70]), hp_99) rfl rfl rfl rfl rfl ?_
  refine x_spec 145 rfl rfl rfl ix_X7_init rfl (Nat.le_of_ble_eq_true rfl) (ct_X7_init_1 (d := d + 0)) ?_
  show xW _ en none tb_X10_init (43, [(0, .ref 70)], [.ref 83, .ref 70]) hp_104 _
  refine x_H ((46, [(0, .ref 70)], []), hp_105) rfl rfl rfl rfl rfl ?_
  refine x_L 1 (f' := (47, [(0, .ref 70)], [.ref 70])) rfl ?_
  refine x_H ((50, [(0, .ref 70)], [.ref 87, .ref 70]), hp_106) rfl rfl rfl rfl rfl ?_
  refine x_L 2 (f' := (52, [(0, .ref 70)], [.ref 70, .ref 87, .ref 87, .ref 70])) rfl ?_
  refine x_H ((55, [(0, .ref 70)], [.ref 83, .ref 87, .ref 87, .ref 70]), hp_106) rfl rfl rfl rfl rfl ?_
  refine x_H ((58, [(0, .ref 70)], [.ref 84, .ref 87, .ref 87, .ref 70]), hp_106) rfl rfl rfl rfl rfl ?_
  refine x_L 1 (f' := (61, [(0, .ref 70)], [.int (20000 : Int32), .ref 84, .ref 87, .ref 87, .ref 70])) rfl ?_
  refine x_H ((63, [(0, .ref 70)], [.int (32768 : Int32), .int (20000 : Int32), .ref 84, .ref 87, .ref 87, .ref 70]), hp_106) rfl rfl rfl rfl rfl ?_
  refine x_spec 145 rfl rfl rfl ix_X7_init rfl (Nat.le_of_ble_eq_true rfl) (ct_X7_init_2 (d := d + 0)) ?_
  show xW _ en none tb_X10_init (66, [(0, .ref 70)], [.ref 87, .ref 70]) hp_111 _
  refine x_H ((69, [(0, .ref 70)], []), hp_112) rfl rfl rfl rfl rfl ?_
  refine x_L 1 (f' := (70, [(0, .ref 70)], [.ref 70])) rfl ?_
  refine x_H ((72, [(0, .ref 70)], [.int (200000 : Int32), .ref 70]), hp_112) rfl rfl rfl rfl rfl ?_
  refine x_H ((74, [(0, .ref 70)], [.ref 90, .ref 70]), hp_113) rfl rfl rfl rfl rfl ?_
  refine x_H ((77, [(0, .ref 70)], []), hp_114) rfl rfl rfl rfl rfl ?_
  refine x_L 2 (f' := (81, [(0, .ref 70)], [.int (20000 : Int32), .ref 70])) rfl ?_
  refine x_H ((83, [(0, .ref 70)], [.ref 91, .ref 70]), hp_115) rfl rfl rfl rfl rfl ?_
  refine x_H ((86, [(0, .ref 70)], []), hp_116) rfl rfl rfl rfl rfl ?_
  refine x_L 2 (f' := (90, [(0, .ref 70)], [.int (20001 : Int32), .ref 70])) rfl ?_
  refine x_H ((92, [(0, .ref 70)], [.ref 92, .ref 70]), hp_117) rfl rfl rfl rfl rfl ?_
  refine x_H ((95, [(0, .ref 70)], []), hp_118) rfl rfl rfl rfl rfl ?_
  refine x_L 2 (f' := (99, [(0, .ref 70)], [.int (20000 : Int32), .ref 70])) rfl ?_
  refine x_H ((101, [(0, .ref 70)], [.ref 93, .ref 70]), hp_119) rfl rfl rfl rfl rfl ?_
  refine x_H ((104, [(0, .ref 70)], []), hp_120) rfl rfl rfl rfl rfl ?_
  refine x_L 2 (f' := (107, [(0, .ref 70)], [.int (110 : Int32), .ref 70])) rfl ?_
  refine x_H ((109, [(0, .ref 70)], [.ref 94, .ref 70]), hp_121) rfl rfl rfl rfl rfl ?_
  refine x_H ((112, [(0, .ref 70)], []), hp_122) rfl rfl rfl rfl rfl ?_
  refine x_L 2 (f' := (114, [(0, .ref 70)], [.int (4 : Int32), .ref 70])) rfl ?_
  refine x_H ((116, [(0, .ref 70)], [.ref 95, .ref 70]), hp_123) rfl rfl rfl rfl rfl ?_
  refine x_H ((119, [(0, .ref 70)], []), hp_124) rfl rfl rfl rfl rfl ?_
  refine x_L 1 (f' := (120, [(0, .ref 70)], [.ref 70])) rfl ?_
  refine x_H ((122, [(0, .ref 70)], [.int (80000 : Int32), .ref 70]), hp_124) rfl rfl rfl rfl rfl ?_
  refine x_H ((124, [(0, .ref 70)], [.ref 96, .ref 70]), hp_125) rfl rfl rfl rfl rfl ?_
  refine x_H ((127, [(0, .ref 70)], []), hp_126) rfl rfl rfl rfl rfl ?_
  refine x_L 1 (f' := (128, [(0, .ref 70)], [.ref 70])) rfl ?_
  refine x_H ((130, [(0, .ref 70)], [.int (80000 : Int32), .ref 70]), hp_126) rfl rfl rfl rfl rfl ?_
  refine x_H ((132, [(0, .ref 70)], [.ref 97, .ref 70]), hp_127) rfl rfl rfl rfl rfl ?_
  refine x_H ((135, [(0, .ref 70)], []), hp_128) rfl rfl rfl rfl rfl ?_
  refine x_L 1 (f' := (136, [(0, .ref 70)], [.ref 70])) rfl ?_
  refine x_H ((138, [(0, .ref 70)], [.int (80000 : Int32), .ref 70]), hp_128) rfl rfl rfl rfl rfl ?_
  refine x_H ((140, [(0, .ref 70)], [.ref 98, .ref 70]), hp_129) rfl rfl rfl rfl rfl ?_
  refine x_H ((143, [(0, .ref 70)], []), hp_130) rfl rfl rfl rfl rfl ?_
  exact x_ret rfl rfl
def hp_131 : pH := (99, 1379239, p_up hp_130.2.2 0 (.inr (11, [.ref 1, .ref 11, .ref 36, .ref 65, .ref 70, .null, .null, .null, .null, .int (0 : Int32), .int (0 : Int32), .int (0 : Int32), .int (0 : Int32), .int (0 : Int32), .int (0 : Int32)])))
def hp_132 : pH := (100, 1379245, p_up hp_131.2.2 99 (.inr (7, p_dfl 7 6)))
def hp_133 : pH := (101, 1447245, p_up hp_132.2.2 100 (.inl (1, 68000, p_zero 1)))
def hp_134 : pH := (101, 1447245, p_up hp_133.2.2 99 (.inr (7, [.ref 100, .null, .null, .int (0 : Int32), .int (0 : Int32), .int (0 : Int32)])))
def hp_135 : pH := (102, 1451245, p_up hp_134.2.2 101 (.inl (0, 4000, p_zero 0)))
def hp_136 : pH := (102, 1451245, p_up hp_135.2.2 99 (.inr (7, [.ref 100, .ref 101, .null, .int (0 : Int32), .int (0 : Int32), .int (0 : Int32)])))
def hp_137 : pH := (103, 1459437, p_up hp_136.2.2 102 (.inl (0, 8192, p_zero 0)))
def hp_138 : pH := (103, 1459437, p_up hp_137.2.2 99 (.inr (7, [.ref 100, .ref 101, .ref 102, .int (0 : Int32), .int (0 : Int32), .int (0 : Int32)])))
set_option maxRecDepth 100000 in
set_option maxHeartbeats 4000000 in
theorem ct_X7_init_3 {en : pN} {d : Nat} : pev msL en (d + 1) 145 [.ref 99, .ref 100, .int (4000 : Int32), .int (8192 : Int32)] hp_133 = some (none, hp_138) := by
  refine x_enter ix_X7_init (Nat.le_of_ble_eq_true rfl) ?_
  show xW _ en none tb_X7_init (0, [(0, .ref 99), (1, .ref 100), (2, .int (4000 : Int32)), (3, .int (8192 : Int32))], []) hp_133 _
  refine x_L 1 (f' := (1, [(0, .ref 99), (1, .ref 100), (2, .int (4000 : Int32)), (3, .int (8192 : Int32))], [.ref 99])) rfl ?_
  refine x_obj rfl rfl (Nat.le_of_ble_eq_true rfl) ?_
  show xW _ en none tb_X7_init (4, [(0, .ref 99), (1, .ref 100), (2, .int (4000 : Int32)), (3, .int (8192 : Int32))], []) hp_133 _
  refine x_L 2 (f' := (6, [(0, .ref 99), (1, .ref 100), (2, .int (4000 : Int32)), (3, .int (8192 : Int32))], [.ref 100, .ref 99])) rfl ?_
  refine x_H ((9, [(0, .ref 99), (1, .ref 100), (2, .int (4000 : Int32)), (3, .int (8192 : Int32))], []), hp_134) rfl rfl rfl rfl rfl ?_
  refine x_L 2 (f' := (11, [(0, .ref 99), (1, .ref 100), (2, .int (4000 : Int32)), (3, .int (8192 : Int32))], [.int (4000 : Int32), .ref 99])) rfl ?_
  refine x_H ((13, [(0, .ref 99), (1, .ref 100), (2, .int (4000 : Int32)), (3, .int (8192 : Int32))], [.ref 101, .ref 99]), hp_135) rfl rfl rfl rfl rfl ?_
  refine x_H ((16, [(0, .ref 99), (1, .ref 100), (2, .int (4000 : Int32)), (3, .int (8192 : Int32))], []), hp_136) rfl rfl rfl rfl rfl ?_
  refine x_L 2 (f' := (18, [(0, .ref 99), (1, .ref 100), (2, .int (4000 : Int32)), (3, .int (8192 : Int32))], [.int (8192 : Int32), .ref 99])) rfl ?_
  refine x_H ((20, [(0, .ref 99), (1, .ref 100), (2, .int (4000 : Int32)), (3, .int (8192 : Int32))], [.ref 102, .ref 99]), hp_137) rfl rfl rfl rfl rfl ?_
  refine x_H ((23, [(0, .ref 99), (1, .ref 100), (2, .int (4000 : Int32)), (3, .int (8192 : Int32))], []), hp_138) rfl rfl rfl rfl rfl ?_
  exact x_ret rfl rfl
def hp_139 : pH := (103, 1459437, p_up hp_138.2.2 0 (.inr (11, [.ref 1, .ref 11, .ref 36, .ref 65, .ref 70, .ref 99, .null, .null, .null, .int (0 : Int32), .int (0 : Int32), .int (0 : Int32), .int (0 : Int32), .int (0 : Int32), .int (0 : Int32)])))
def hp_140 : pH := (104, 1459451, p_up hp_139.2.2 103 (.inr (2, p_dfl 2 14)))
def hp_141 : pH := (105, 1479451, p_up hp_140.2.2 104 (.inl (0, 20000, p_zero 0)))
def hp_142 : pH := (105, 1479451, p_up hp_141.2.2 103 (.inr (2, [.null, .null, .ref 104, .null, .null, .null, .null, .null, .null, .int (0 : Int32), .int (0 : Int32), .int (0 : Int32), .int (0 : Int32), .int (0 : Int32)])))
def hp_143 : pH := (106, 1499451, p_up hp_142.2.2 105 (.inl (0, 20000, p_zero 0)))
def hp_144 : pH := (106, 1499451, p_up hp_143.2.2 103 (.inr (2, [.null, .null, .ref 104, .ref 105, .null, .null, .null, .null, .null, .int (0 : Int32), .int (0 : Int32), .int (0 : Int32), .int (0 : Int32), .int (0 : Int32)])))
def hp_145 : pH := (107, 1519451, p_up hp_144.2.2 106 (.inl (0, 20000, p_zero 0)))
def hp_146 : pH := (107, 1519451, p_up hp_145.2.2 103 (.inr (2, [.null, .null, .ref 104, .ref 105, .ref 106, .null, .null, .null, .null, .int (0 : Int32), .int (0 : Int32), .int (0 : Int32), .int (0 : Int32), .int (0 : Int32)])))
def hp_147 : pH := (108, 1539451, p_up hp_146.2.2 107 (.inl (0, 20000, p_zero 0)))
def hp_148 : pH := (108, 1539451, p_up hp_147.2.2 103 (.inr (2, [.null, .null, .ref 104, .ref 105, .ref 106, .ref 107, .null, .null, .null, .int (0 : Int32), .int (0 : Int32), .int (0 : Int32), .int (0 : Int32), .int (0 : Int32)])))
def hp_149 : pH := (109, 1559451, p_up hp_148.2.2 108 (.inl (0, 20000, p_zero 0)))
def hp_150 : pH := (109, 1559451, p_up hp_149.2.2 103 (.inr (2, [.null, .null, .ref 104, .ref 105, .ref 106, .ref 107, .ref 108, .null, .null, .int (0 : Int32), .int (0 : Int32), .int (0 : Int32), .int (0 : Int32), .int (0 : Int32)])))
def hp_151 : pH := (110, 1579451, p_up hp_150.2.2 109 (.inl (0, 20000, p_zero 0)))
def hp_152 : pH := (110, 1579451, p_up hp_151.2.2 103 (.inr (2, [.null, .null, .ref 104, .ref 105, .ref 106, .ref 107, .ref 108, .ref 109, .null, .int (0 : Int32), .int (0 : Int32), .int (0 : Int32), .int (0 : Int32), .int (0 : Int32)])))
def hp_153 : pH := (111, 1599451, p_up hp_152.2.2 110 (.inl (0, 20000, p_zero 0)))
def hp_154 : pH := (111, 1599451, p_up hp_153.2.2 103 (.inr (2, [.null, .null, .ref 104, .ref 105, .ref 106, .ref 107, .ref 108, .ref 109, .ref 110, .int (0 : Int32), .int (0 : Int32), .int (0 : Int32), .int (0 : Int32), .int (0 : Int32)])))
def hp_155 : pH := (111, 1599451, p_up hp_154.2.2 103 (.inr (2, [.ref 70, .null, .ref 104, .ref 105, .ref 106, .ref 107, .ref 108, .ref 109, .ref 110, .int (0 : Int32), .int (0 : Int32), .int (0 : Int32), .int (0 : Int32), .int (0 : Int32)])))
def hp_156 : pH := (111, 1599451, p_up hp_155.2.2 103 (.inr (2, [.ref 70, .ref 61, .ref 104, .ref 105, .ref 106, .ref 107, .ref 108, .ref 109, .ref 110, .int (0 : Int32), .int (0 : Int32), .int (0 : Int32), .int (0 : Int32), .int (0 : Int32)])))
set_option maxRecDepth 100000 in
set_option maxHeartbeats 4000000 in
theorem ct_X2_init_1 {en : pN} {d : Nat} : pev msL en (d + 1) 18 [.ref 103, .ref 70, .ref 61] hp_140 = some (none, hp_156) := by
  refine x_enter ix_X2_init (Nat.le_of_ble_eq_true rfl) ?_
  show xW _ en none tb_X2_init (0, [(0, .ref 103), (1, .ref 70), (2, .ref 61)], []) hp_140 _
  refine x_L 1 (f' := (1, [(0, .ref 103), (1, .ref 70), (2, .ref 61)], [.ref 103])) rfl ?_
  refine x_obj rfl rfl (Nat.le_of_ble_eq_true rfl) ?_
  show xW _ en none tb_X2_init (4, [(0, .ref 103), (1, .ref 70), (2, .ref 61)], []) hp_140 _
  refine x_L 2 (f' := (8, [(0, .ref 103), (1, .ref 70), (2, .ref 61)], [.int (20000 : Int32), .ref 103])) rfl ?_
  refine x_H ((10, [(0, .ref 103), (1, .ref 70), (2, .ref 61)], [.ref 104, .ref 103]), hp_141) rfl rfl rfl rfl rfl ?_
  refine x_H ((13, [(0, .ref 103), (1, .ref 70), (2, .ref 61)], []), hp_142) rfl rfl rfl rfl rfl ?_
  refine x_L 2 (f' := (17, [(0, .ref 103), (1, .ref 70), (2, .ref 61)], [.int (20000 : Int32), .ref 103])) rfl ?_
  refine x_H ((19, [(0, .ref 103), (1, .ref 70), (2, .ref 61)], [.ref 105, .ref 103]), hp_143) rfl rfl rfl rfl rfl ?_
  refine x_H ((22, [(0, .ref 103), (1, .ref 70), (2, .ref 61)], []), hp_144) rfl rfl rfl rfl rfl ?_
  refine x_L 2 (f' := (26, [(0, .ref 103), (1, .ref 70), (2, .ref 61)], [.int (20000 : Int32), .ref 103])) rfl ?_
  refine x_H ((28, [(0, .ref 103), (1, .ref 70), (2, .ref 61)], [.ref 106, .ref 103]), hp_145) rfl rfl rfl rfl rfl ?_
  refine x_H ((31, [(0, .ref 103), (1, .ref 70), (2, .ref 61)], []), hp_146) rfl rfl rfl rfl rfl ?_
  refine x_L 2 (f' := (35, [(0, .ref 103), (1, .ref 70), (2, .ref 61)], [.int (20000 : Int32), .ref 103])) rfl ?_
  refine x_H ((37, [(0, .ref 103), (1, .ref 70), (2, .ref 61)], [.ref 107, .ref 103]), hp_147) rfl rfl rfl rfl rfl ?_
  refine x_H ((40, [(0, .ref 103), (1, .ref 70), (2, .ref 61)], []), hp_148) rfl rfl rfl rfl rfl ?_
  refine x_L 2 (f' := (44, [(0, .ref 103), (1, .ref 70), (2, .ref 61)], [.int (20000 : Int32), .ref 103])) rfl ?_
  refine x_H ((46, [(0, .ref 103), (1, .ref 70), (2, .ref 61)], [.ref 108, .ref 103]), hp_149) rfl rfl rfl rfl rfl ?_
  refine x_H ((49, [(0, .ref 103), (1, .ref 70), (2, .ref 61)], []), hp_150) rfl rfl rfl rfl rfl ?_
  refine x_L 2 (f' := (53, [(0, .ref 103), (1, .ref 70), (2, .ref 61)], [.int (20000 : Int32), .ref 103])) rfl ?_
  refine x_H ((55, [(0, .ref 103), (1, .ref 70), (2, .ref 61)], [.ref 109, .ref 103]), hp_151) rfl rfl rfl rfl rfl ?_
  refine x_H ((58, [(0, .ref 103), (1, .ref 70), (2, .ref 61)], []), hp_152) rfl rfl rfl rfl rfl ?_
  refine x_L 2 (f' := (62, [(0, .ref 103), (1, .ref 70), (2, .ref 61)], [.int (20000 : Int32), .ref 103])) rfl ?_
  refine x_H ((64, [(0, .ref 103), (1, .ref 70), (2, .ref 61)], [.ref 110, .ref 103]), hp_153) rfl rfl rfl rfl rfl ?_
  refine x_H ((67, [(0, .ref 103), (1, .ref 70), (2, .ref 61)], []), hp_154) rfl rfl rfl rfl rfl ?_
  refine x_L 2 (f' := (69, [(0, .ref 103), (1, .ref 70), (2, .ref 61)], [.ref 70, .ref 103])) rfl ?_
  refine x_H ((72, [(0, .ref 103), (1, .ref 70), (2, .ref 61)], []), hp_155) rfl rfl rfl rfl rfl ?_
  refine x_L 2 (f' := (74, [(0, .ref 103), (1, .ref 70), (2, .ref 61)], [.ref 61, .ref 103])) rfl ?_
  refine x_H ((77, [(0, .ref 103), (1, .ref 70), (2, .ref 61)], []), hp_156) rfl rfl rfl rfl rfl ?_
  exact x_ret rfl rfl
def hp_157 : pH := (111, 1599451, p_up hp_156.2.2 0 (.inr (11, [.ref 1, .ref 11, .ref 36, .ref 65, .ref 70, .ref 99, .ref 103, .null, .null, .int (0 : Int32), .int (0 : Int32), .int (0 : Int32), .int (0 : Int32), .int (0 : Int32), .int (0 : Int32)])))
def hp_158 : pH := (112, 1599456, p_up hp_157.2.2 111 (.inr (8, p_dfl 8 5)))
def hp_159 : pH := (113, 1599469, p_up hp_158.2.2 112 (.inr (3, p_dfl 3 13)))
def hp_160 : pH := (114, 1599705, p_up hp_159.2.2 113 (.inl (0, 236, p_zero 0)))
def hp_161 : pH := (114, 1599705, p_up hp_160.2.2 112 (.inr (3, [.ref 113, .null, .null, .int (0 : Int32), .null, .int (0 : Int32), .int (0 : Int32), .null, .int (0 : Int32), .int (0 : Int32), .int (0 : Int32), .int (0 : Int32), .int (0 : Int32)])))
def hp_162 : pH := (115, 1599941, p_up hp_161.2.2 114 (.inl (0, 236, p_zero 0)))
def hp_163 : pH := (115, 1599941, p_up hp_162.2.2 112 (.inr (3, [.ref 113, .ref 114, .null, .int (0 : Int32), .null, .int (0 : Int32), .int (0 : Int32), .null, .int (0 : Int32), .int (0 : Int32), .int (0 : Int32), .int (0 : Int32), .int (0 : Int32)])))
def hp_164 : pH := (116, 1599981, p_up hp_163.2.2 115 (.inl (0, 40, p_zero 0)))
def hp_165 : pH := (116, 1599981, p_up hp_164.2.2 112 (.inr (3, [.ref 113, .ref 114, .ref 115, .int (0 : Int32), .null, .int (0 : Int32), .int (0 : Int32), .null, .int (0 : Int32), .int (0 : Int32), .int (0 : Int32), .int (0 : Int32), .int (0 : Int32)])))
def hp_166 : pH := (117, 1600201, p_up hp_165.2.2 116 (.inl (0, 220, p_zero 0)))
def hp_167 : pH := (117, 1600201, p_up hp_166.2.2 112 (.inr (3, [.ref 113, .ref 114, .ref 115, .int (0 : Int32), .ref 116, .int (0 : Int32), .int (0 : Int32), .null, .int (0 : Int32), .int (0 : Int32), .int (0 : Int32), .int (0 : Int32), .int (0 : Int32)])))
set_option maxRecDepth 100000 in
set_option maxHeartbeats 4000000 in
theorem ct_X3_init_2 {en : pN} {d : Nat} : pev msL en (d + 1) 31 [.ref 112] hp_159 = some (none, hp_167) := by
  refine x_enter ix_X3_init (Nat.le_of_ble_eq_true rfl) ?_
  show xW _ en none tb_X3_init (0, [(0, .ref 112)], []) hp_159 _
  refine x_L 1 (f' := (1, [(0, .ref 112)], [.ref 112])) rfl ?_
  refine x_obj rfl rfl (Nat.le_of_ble_eq_true rfl) ?_
  show xW _ en none tb_X3_init (4, [(0, .ref 112)], []) hp_159 _
  refine x_L 2 (f' := (8, [(0, .ref 112)], [.int (236 : Int32), .ref 112])) rfl ?_
  refine x_H ((10, [(0, .ref 112)], [.ref 113, .ref 112]), hp_160) rfl rfl rfl rfl rfl ?_
  refine x_H ((13, [(0, .ref 112)], []), hp_161) rfl rfl rfl rfl rfl ?_
  refine x_L 2 (f' := (17, [(0, .ref 112)], [.int (236 : Int32), .ref 112])) rfl ?_
  refine x_H ((19, [(0, .ref 112)], [.ref 114, .ref 112]), hp_162) rfl rfl rfl rfl rfl ?_
  refine x_H ((22, [(0, .ref 112)], []), hp_163) rfl rfl rfl rfl rfl ?_
  refine x_L 2 (f' := (25, [(0, .ref 112)], [.int (40 : Int32), .ref 112])) rfl ?_
  refine x_H ((27, [(0, .ref 112)], [.ref 115, .ref 112]), hp_164) rfl rfl rfl rfl rfl ?_
  refine x_H ((30, [(0, .ref 112)], []), hp_165) rfl rfl rfl rfl rfl ?_
  refine x_L 2 (f' := (34, [(0, .ref 112)], [.int (220 : Int32), .ref 112])) rfl ?_
  refine x_H ((36, [(0, .ref 112)], [.ref 116, .ref 112]), hp_166) rfl rfl rfl rfl rfl ?_
  refine x_H ((39, [(0, .ref 112)], []), hp_167) rfl rfl rfl rfl rfl ?_
  exact x_ret rfl rfl
def hp_168 : pH := (117, 1600201, p_up hp_167.2.2 111 (.inr (8, [.ref 112, .null, .null, .int (0 : Int32), .int (0 : Int32)])))
def hp_169 : pH := (124, 1601407, (p_mna 6 200 hp_168).2.2)
def hp_170 : pH := (124, 1601407, p_up hp_169.2.2 111 (.inr (8, [.ref 112, .ref 117, .null, .int (0 : Int32), .int (0 : Int32)])))
def hp_171 : pH := (125, 1602207, p_up hp_170.2.2 124 (.inl (1, 800, p_zero 1)))
def hp_172 : pH := (125, 1602207, p_up hp_171.2.2 111 (.inr (8, [.ref 112, .ref 117, .ref 124, .int (0 : Int32), .int (0 : Int32)])))
set_option maxRecDepth 100000 in
set_option maxHeartbeats 4000000 in
theorem ct_X8_init_1 {en : pN} {d : Nat} : pev msL en (d + 2) 153 [.ref 111] hp_158 = some (none, hp_172) := by
  refine x_enter ix_X8_init (Nat.le_of_ble_eq_true rfl) ?_
  show xW _ en none tb_X8_init (0, [(0, .ref 111)], []) hp_158 _
  refine x_L 1 (f' := (1, [(0, .ref 111)], [.ref 111])) rfl ?_
  refine x_obj rfl rfl (Nat.le_of_ble_eq_true rfl) ?_
  show xW _ en none tb_X8_init (4, [(0, .ref 111)], []) hp_158 _
  refine x_L 1 (f' := (5, [(0, .ref 111)], [.ref 111])) rfl ?_
  refine x_H ((8, [(0, .ref 111)], [.ref 112, .ref 111]), hp_159) rfl rfl rfl rfl rfl ?_
  refine x_L 1 (f' := (9, [(0, .ref 111)], [.ref 112, .ref 112, .ref 111])) rfl ?_
  refine x_spec 31 rfl rfl rfl ix_X3_init rfl (Nat.le_of_ble_eq_true rfl) (ct_X3_init_2 (d := d + 0)) ?_
  show xW _ en none tb_X8_init (12, [(0, .ref 111)], [.ref 112, .ref 111]) hp_167 _
  refine x_H ((15, [(0, .ref 111)], []), hp_168) rfl rfl rfl rfl rfl ?_
  refine x_L 3 (f' := (21, [(0, .ref 111)], [.int (200 : Int32), .int (6 : Int32), .ref 111])) rfl ?_
  refine x_H ((25, [(0, .ref 111)], [.ref 117, .ref 111]), hp_169) rfl rfl rfl rfl rfl ?_
  refine x_H ((28, [(0, .ref 111)], []), hp_170) rfl rfl rfl rfl rfl ?_
  refine x_L 2 (f' := (32, [(0, .ref 111)], [.int (800 : Int32), .ref 111])) rfl ?_
  refine x_H ((34, [(0, .ref 111)], [.ref 124, .ref 111]), hp_171) rfl rfl rfl rfl rfl ?_
  refine x_H ((37, [(0, .ref 111)], []), hp_172) rfl rfl rfl rfl rfl ?_
  exact x_ret rfl rfl
def hp_173 : pH := (125, 1602207, p_up hp_172.2.2 0 (.inr (11, [.ref 1, .ref 11, .ref 36, .ref 65, .ref 70, .ref 99, .ref 103, .ref 111, .null, .int (0 : Int32), .int (0 : Int32), .int (0 : Int32), .int (0 : Int32), .int (0 : Int32), .int (0 : Int32)])))
def hp_174 : pH := (126, 1602218, p_up hp_173.2.2 125 (.inr (1, p_dfl 1 11)))
def hp_175 : pH := (133, 1603424, (p_mna 6 200 hp_174).2.2)
def hp_176 : pH := (133, 1603424, p_up hp_175.2.2 125 (.inr (1, [.ref 126, .null, .null, .null, .null, .null, .int (0 : Int32), .int (0 : Int32), .int (0 : Int32), .int (0 : Int32), .int (0 : Int32)])))
def hp_177 : pH := (147, 1603606, (p_mna 13 13 hp_176).2.2)
def hp_178 : pH := (147, 1603606, p_up hp_177.2.2 125 (.inr (1, [.ref 126, .ref 133, .null, .null, .null, .null, .int (0 : Int32), .int (0 : Int32), .int (0 : Int32), .int (0 : Int32), .int (0 : Int32)])))
def hp_179 : pH := (148, 1603619, p_up hp_178.2.2 147 (.inl (0, 13, p_zero 0)))
def hp_180 : pH := (148, 1603619, p_up hp_179.2.2 125 (.inr (1, [.ref 126, .ref 133, .ref 147, .null, .null, .null, .int (0 : Int32), .int (0 : Int32), .int (0 : Int32), .int (0 : Int32), .int (0 : Int32)])))
def hp_181 : pH := (149, 1603623, p_up hp_180.2.2 148 (.inl (0, 4, p_zero 0)))
def hp_182 : pH := (149, 1603623, p_up hp_181.2.2 125 (.inr (1, [.ref 126, .ref 133, .ref 147, .ref 148, .null, .null, .int (0 : Int32), .int (0 : Int32), .int (0 : Int32), .int (0 : Int32), .int (0 : Int32)])))
def hp_183 : pH := (150, 1603635, p_up hp_182.2.2 149 (.inl (0, 12, p_zero 0)))
def hp_184 : pH := (150, 1603635, p_up hp_183.2.2 125 (.inr (1, [.ref 126, .ref 133, .ref 147, .ref 148, .ref 149, .null, .int (0 : Int32), .int (0 : Int32), .int (0 : Int32), .int (0 : Int32), .int (0 : Int32)])))
def hp_185 : pH := (151, 1603647, p_up hp_184.2.2 150 (.inl (0, 12, p_zero 0)))
def hp_186 : pH := (151, 1603647, p_up hp_185.2.2 125 (.inr (1, [.ref 126, .ref 133, .ref 147, .ref 148, .ref 149, .ref 150, .int (0 : Int32), .int (0 : Int32), .int (0 : Int32), .int (0 : Int32), .int (0 : Int32)])))
set_option maxRecDepth 100000 in
set_option maxHeartbeats 4000000 in
theorem ct_X1_init_1 {en : pN} {d : Nat} : pev msL en (d + 1) 10 [.ref 125] hp_174 = some (none, hp_186) := by
  refine x_enter ix_X1_init (Nat.le_of_ble_eq_true rfl) ?_
  show xW _ en none tb_X1_init (0, [(0, .ref 125)], []) hp_174 _
  refine x_L 1 (f' := (1, [(0, .ref 125)], [.ref 125])) rfl ?_
  refine x_obj rfl rfl (Nat.le_of_ble_eq_true rfl) ?_
  show xW _ en none tb_X1_init (4, [(0, .ref 125)], []) hp_174 _
  refine x_L 3 (f' := (10, [(0, .ref 125)], [.int (200 : Int32), .int (6 : Int32), .ref 125])) rfl ?_
  refine x_H ((14, [(0, .ref 125)], [.ref 126, .ref 125]), hp_175) rfl rfl rfl rfl rfl ?_
  refine x_H ((17, [(0, .ref 125)], []), hp_176) rfl rfl rfl rfl rfl ?_
  refine x_L 3 (f' := (22, [(0, .ref 125)], [.int (13 : Int32), .int (13 : Int32), .ref 125])) rfl ?_
  refine x_H ((26, [(0, .ref 125)], [.ref 133, .ref 125]), hp_177) rfl rfl rfl rfl rfl ?_
  refine x_H ((29, [(0, .ref 125)], []), hp_178) rfl rfl rfl rfl rfl ?_
  refine x_L 2 (f' := (32, [(0, .ref 125)], [.int (13 : Int32), .ref 125])) rfl ?_
  refine x_H ((34, [(0, .ref 125)], [.ref 147, .ref 125]), hp_179) rfl rfl rfl rfl rfl ?_
  refine x_H ((37, [(0, .ref 125)], []), hp_180) rfl rfl rfl rfl rfl ?_
  refine x_L 2 (f' := (39, [(0, .ref 125)], [.int (4 : Int32), .ref 125])) rfl ?_
  refine x_H ((41, [(0, .ref 125)], [.ref 148, .ref 125]), hp_181) rfl rfl rfl rfl rfl ?_
  refine x_H ((44, [(0, .ref 125)], []), hp_182) rfl rfl rfl rfl rfl ?_
  refine x_L 2 (f' := (47, [(0, .ref 125)], [.int (12 : Int32), .ref 125])) rfl ?_
  refine x_H ((49, [(0, .ref 125)], [.ref 149, .ref 125]), hp_183) rfl rfl rfl rfl rfl ?_
  refine x_H ((52, [(0, .ref 125)], []), hp_184) rfl rfl rfl rfl rfl ?_
  refine x_L 2 (f' := (55, [(0, .ref 125)], [.int (12 : Int32), .ref 125])) rfl ?_
  refine x_H ((57, [(0, .ref 125)], [.ref 150, .ref 125]), hp_185) rfl rfl rfl rfl rfl ?_
  refine x_H ((60, [(0, .ref 125)], []), hp_186) rfl rfl rfl rfl rfl ?_
  exact x_ret rfl rfl
def hp_187 : pH := (151, 1603647, p_up hp_186.2.2 0 (.inr (11, [.ref 1, .ref 11, .ref 36, .ref 65, .ref 70, .ref 99, .ref 103, .ref 111, .ref 125, .int (0 : Int32), .int (0 : Int32), .int (0 : Int32), .int (0 : Int32), .int (0 : Int32), .int (0 : Int32)])))
def hp_188 : pH := (151, 1603647, p_up hp_187.2.2 0 (.inr (11, [.ref 1, .ref 11, .ref 36, .ref 65, .ref 70, .ref 99, .ref 103, .ref 111, .ref 125, .int (0 : Int32), .int (0 : Int32), .int (0 : Int32), .int (0 : Int32), .int (-2 : Int32), .int (0 : Int32)])))
def hp_189 : pH := (151, 1603647, p_up hp_188.2.2 0 (.inr (11, [.ref 1, .ref 11, .ref 36, .ref 65, .ref 70, .ref 99, .ref 103, .ref 111, .ref 125, .int (0 : Int32), .int (0 : Int32), .int (0 : Int32), .int (0 : Int32), .int (-2 : Int32), .int (-2 : Int32)])))
set_option maxRecDepth 100000 in
set_option maxHeartbeats 4000000 in
theorem ct_X11_init_1 {en : pN} {d : Nat} : pev msL en (d + 7) 201 [.ref 0] hp_1 = some (none, hp_189) := by
  refine x_enter ix_X11_init (Nat.le_of_ble_eq_true rfl) ?_
  show xW _ en none tb_X11_init (0, [(0, .ref 0)], []) hp_1 _
  refine x_L 1 (f' := (1, [(0, .ref 0)], [.ref 0])) rfl ?_
  refine x_obj rfl rfl (Nat.le_of_ble_eq_true rfl) ?_
  show xW _ en none tb_X11_init (4, [(0, .ref 0)], []) hp_1 _
  refine x_L 1 (f' := (5, [(0, .ref 0)], [.ref 0])) rfl ?_
  refine x_H ((8, [(0, .ref 0)], [.ref 1, .ref 0]), hp_2) rfl rfl rfl rfl rfl ?_
  refine x_L 1 (f' := (9, [(0, .ref 0)], [.ref 1, .ref 1, .ref 0])) rfl ?_
  refine x_spec 163 rfl rfl rfl ix_X9_init rfl (Nat.le_of_ble_eq_true rfl) (ct_X9_init_1 (d := d + 0)) ?_
  show xW _ en none tb_X11_init (12, [(0, .ref 0)], [.ref 1, .ref 0]) hp_12 _
  refine x_H ((15, [(0, .ref 0)], []), hp_13) rfl rfl rfl rfl rfl ?_
  refine x_H ((18, [(0, .ref 0)], [.ref 7]), hp_14) rfl rfl rfl rfl rfl ?_
  refine x_L 2 (f' := (22, [(0, .ref 0)], [.int (500 : Int32), .ref 7, .ref 7])) rfl ?_
  refine x_spec 75 rfl rfl rfl ix_X4_init rfl (Nat.le_of_ble_eq_true rfl) (ct_X4_init_1 (d := d + 5)) ?_
  show xW _ en none tb_X11_init (25, [(0, .ref 0)], [.ref 7]) hp_20 _
  refine x_L 2 (f' := (27, [(1, .ref 7), (0, .ref 0)], [.ref 0])) rfl ?_
  refine x_H ((30, [(1, .ref 7), (0, .ref 0)], [.ref 11, .ref 0]), hp_21) rfl rfl rfl rfl rfl ?_
  refine x_L 2 (f' := (32, [(1, .ref 7), (0, .ref 0)], [.ref 7, .ref 11, .ref 11, .ref 0])) rfl ?_
  refine x_spec 80 rfl rfl rfl ix_X5_init rfl (Nat.le_of_ble_eq_true rfl) (ct_X5_init_1 (d := d + 5)) ?_
  show xW _ en none tb_X11_init (35, [(1, .ref 7), (0, .ref 0)], [.ref 11, .ref 0]) hp_34 _
  refine x_H ((38, [(1, .ref 7), (0, .ref 0)], []), hp_35) rfl rfl rfl rfl rfl ?_
  refine x_L 1 (f' := (39, [(1, .ref 7), (0, .ref 0)], [.ref 0])) rfl ?_
  refine x_H ((42, [(1, .ref 7), (0, .ref 0)], [.ref 36, .ref 0]), hp_36) rfl rfl rfl rfl rfl ?_
  refine x_L 2 (f' := (44, [(1, .ref 7), (0, .ref 0)], [.ref 7, .ref 36, .ref 36, .ref 0])) rfl ?_
  refine x_spec 80 rfl rfl rfl ix_X5_init rfl (Nat.le_of_ble_eq_true rfl) (ct_X5_init_2 (d := d + 5)) ?_
  show xW _ en none tb_X11_init (47, [(1, .ref 7), (0, .ref 0)], [.ref 36, .ref 0]) hp_49 _
  refine x_H ((50, [(1, .ref 7), (0, .ref 0)], []), hp_50) rfl rfl rfl rfl rfl ?_
  refine x_H ((53, [(1, .ref 7), (0, .ref 0)], [.ref 61]), hp_51) rfl rfl rfl rfl rfl ?_
  refine x_L 2 (f' := (57, [(1, .ref 7), (0, .ref 0)], [.int (400 : Int32), .ref 61, .ref 61])) rfl ?_
  refine x_spec 75 rfl rfl rfl ix_X4_init rfl (Nat.le_of_ble_eq_true rfl) (ct_X4_init_2 (d := d + 5)) ?_
  show xW _ en none tb_X11_init (60, [(1, .ref 7), (0, .ref 0)], [.ref 61]) hp_57 _
  refine x_L 2 (f' := (62, [(2, .ref 61), (1, .ref 7), (0, .ref 0)], [.ref 0])) rfl ?_
  refine x_H ((65, [(2, .ref 61), (1, .ref 7), (0, .ref 0)], [.ref 65, .ref 0]), hp_58) rfl rfl rfl rfl rfl ?_
  refine x_L 2 (f' := (67, [(2, .ref 61), (1, .ref 7), (0, .ref 0)], [.ref 0, .ref 65, .ref 65, .ref 0])) rfl ?_
  refine x_H ((70, [(2, .ref 61), (1, .ref 7), (0, .ref 0)], [.ref 1, .ref 65, .ref 65, .ref 0]), hp_58) rfl rfl rfl rfl rfl ?_
  refine x_L 1 (f' := (71, [(2, .ref 61), (1, .ref 7), (0, .ref 0)], [.ref 0, .ref 1, .ref 65, .ref 65, .ref 0])) rfl ?_
  refine x_H ((74, [(2, .ref 61), (1, .ref 7), (0, .ref 0)], [.ref 11, .ref 1, .ref 65, .ref 65, .ref 0]), hp_58) rfl rfl rfl rfl rfl ?_
  refine x_L 1 (f' := (75, [(2, .ref 61), (1, .ref 7), (0, .ref 0)], [.ref 61, .ref 11, .ref 1, .ref 65, .ref 65, .ref 0])) rfl ?_
  refine x_spec 112 rfl rfl rfl ix_X6_init rfl (Nat.le_of_ble_eq_true rfl) (ct_X6_init_1 (d := d + 0)) ?_
  show xW _ en none tb_X11_init (78, [(2, .ref 61), (1, .ref 7), (0, .ref 0)], [.ref 65, .ref 0]) hp_71 _
  refine x_H ((81, [(2, .ref 61), (1, .ref 7), (0, .ref 0)], []), hp_72) rfl rfl rfl rfl rfl ?_
  refine x_L 1 (f' := (82, [(2, .ref 61), (1, .ref 7), (0, .ref 0)], [.ref 0])) rfl ?_
  refine x_H ((85, [(2, .ref 61), (1, .ref 7), (0, .ref 0)], [.ref 70, .ref 0]), hp_73) rfl rfl rfl rfl rfl ?_
  refine x_L 1 (f' := (86, [(2, .ref 61), (1, .ref 7), (0, .ref 0)], [.ref 70, .ref 70, .ref 0])) rfl ?_
  refine x_spec 176 rfl rfl rfl ix_X10_init rfl (Nat.le_of_ble_eq_true rfl) (ct_X10_init_1 (d := d + 4)) ?_
  show xW _ en none tb_X11_init (89, [(2, .ref 61), (1, .ref 7), (0, .ref 0)], [.ref 70, .ref 0]) hp_130 _
  refine x_H ((92, [(2, .ref 61), (1, .ref 7), (0, .ref 0)], []), hp_131) rfl rfl rfl rfl rfl ?_
  refine x_L 1 (f' := (93, [(2, .ref 61), (1, .ref 7), (0, .ref 0)], [.ref 0])) rfl ?_
  refine x_H ((96, [(2, .ref 61), (1, .ref 7), (0, .ref 0)], [.ref 99, .ref 0]), hp_132) rfl rfl rfl rfl rfl ?_
  refine x_L 1 (f' := (97, [(2, .ref 61), (1, .ref 7), (0, .ref 0)], [.ref 99, .ref 99, .ref 0])) rfl ?_
  refine x_H ((99, [(2, .ref 61), (1, .ref 7), (0, .ref 0)], [.int (68000 : Int32), .ref 99, .ref 99, .ref 0]), hp_132) rfl rfl rfl rfl rfl ?_
  refine x_H ((101, [(2, .ref 61), (1, .ref 7), (0, .ref 0)], [.ref 100, .ref 99, .ref 99, .ref 0]), hp_133) rfl rfl rfl rfl rfl ?_
  refine x_L 2 (f' := (107, [(2, .ref 61), (1, .ref 7), (0, .ref 0)], [.int (8192 : Int32), .int (4000 : Int32), .ref 100, .ref 99, .ref 99, .ref 0])) rfl ?_
  refine x_spec 145 rfl rfl rfl ix_X7_init rfl (Nat.le_of_ble_eq_true rfl) (ct_X7_init_3 (d := d + 5)) ?_
  show xW _ en none tb_X11_init (110, [(2, .ref 61), (1, .ref 7), (0, .ref 0)], [.ref 99, .ref 0]) hp_138 _
  refine x_H ((113, [(2, .ref 61), (1, .ref 7), (0, .ref 0)], []), hp_139) rfl rfl rfl rfl rfl ?_
  refine x_L 1 (f' := (114, [(2, .ref 61), (1, .ref 7), (0, .ref 0)], [.ref 0])) rfl ?_
  refine x_H ((117, [(2, .ref 61), (1, .ref 7), (0, .ref 0)], [.ref 103, .ref 0]), hp_140) rfl rfl rfl rfl rfl ?_
  refine x_L 2 (f' := (119, [(2, .ref 61), (1, .ref 7), (0, .ref 0)], [.ref 0, .ref 103, .ref 103, .ref 0])) rfl ?_
  refine x_H ((122, [(2, .ref 61), (1, .ref 7), (0, .ref 0)], [.ref 70, .ref 103, .ref 103, .ref 0]), hp_140) rfl rfl rfl rfl rfl ?_
  refine x_L 1 (f' := (123, [(2, .ref 61), (1, .ref 7), (0, .ref 0)], [.ref 61, .ref 70, .ref 103, .ref 103, .ref 0])) rfl ?_
  refine x_spec 18 rfl rfl rfl ix_X2_init rfl (Nat.le_of_ble_eq_true rfl) (ct_X2_init_1 (d := d + 5)) ?_
  show xW _ en none tb_X11_init (126, [(2, .ref 61), (1, .ref 7), (0, .ref 0)], [.ref 103, .ref 0]) hp_156 _
  refine x_H ((129, [(2, .ref 61), (1, .ref 7), (0, .ref 0)], []), hp_157) rfl rfl rfl rfl rfl ?_
  refine x_L 1 (f' := (130, [(2, .ref 61), (1, .ref 7), (0, .ref 0)], [.ref 0])) rfl ?_
  refine x_H ((133, [(2, .ref 61), (1, .ref 7), (0, .ref 0)], [.ref 111, .ref 0]), hp_158) rfl rfl rfl rfl rfl ?_
  refine x_L 1 (f' := (134, [(2, .ref 61), (1, .ref 7), (0, .ref 0)], [.ref 111, .ref 111, .ref 0])) rfl ?_
  refine x_spec 153 rfl rfl rfl ix_X8_init rfl (Nat.le_of_ble_eq_true rfl) (ct_X8_init_1 (d := d + 4)) ?_
  show xW _ en none tb_X11_init (137, [(2, .ref 61), (1, .ref 7), (0, .ref 0)], [.ref 111, .ref 0]) hp_172 _
  refine x_H ((140, [(2, .ref 61), (1, .ref 7), (0, .ref 0)], []), hp_173) rfl rfl rfl rfl rfl ?_
  refine x_L 1 (f' := (141, [(2, .ref 61), (1, .ref 7), (0, .ref 0)], [.ref 0])) rfl ?_
  refine x_H ((144, [(2, .ref 61), (1, .ref 7), (0, .ref 0)], [.ref 125, .ref 0]), hp_174) rfl rfl rfl rfl rfl ?_
  refine x_L 1 (f' := (145, [(2, .ref 61), (1, .ref 7), (0, .ref 0)], [.ref 125, .ref 125, .ref 0])) rfl ?_
  refine x_spec 10 rfl rfl rfl ix_X1_init rfl (Nat.le_of_ble_eq_true rfl) (ct_X1_init_1 (d := d + 5)) ?_
  show xW _ en none tb_X11_init (148, [(2, .ref 61), (1, .ref 7), (0, .ref 0)], [.ref 125, .ref 0]) hp_186 _
  refine x_H ((151, [(2, .ref 61), (1, .ref 7), (0, .ref 0)], []), hp_187) rfl rfl rfl rfl rfl ?_
  refine x_L 2 (f' := (154, [(2, .ref 61), (1, .ref 7), (0, .ref 0)], [.int (-2 : Int32), .ref 0])) rfl ?_
  refine x_H ((157, [(2, .ref 61), (1, .ref 7), (0, .ref 0)], []), hp_188) rfl rfl rfl rfl rfl ?_
  refine x_L 2 (f' := (160, [(2, .ref 61), (1, .ref 7), (0, .ref 0)], [.int (-2 : Int32), .ref 0])) rfl ?_
  refine x_H ((163, [(2, .ref 61), (1, .ref 7), (0, .ref 0)], []), hp_189) rfl rfl rfl rfl rfl ?_
  exact x_ret rfl rfl
set_option maxRecDepth 100000 in
set_option maxHeartbeats 4000000 in
theorem law_pre {en : pN} {d : Nat} {R : pR} (k : xW (pev msL en (d + 7)) en (some .boolean) tb_law (8, [(1, .ref 0), (0, .retAddr 0)], []) hp_189 R) : xW (pev msL en (d + 7)) en (some .boolean) tb_law (0, [(0, .retAddr 0)], []) hp_0 R := by
  refine x_H ((3, [(0, .retAddr 0)], [.ref 0]), hp_1) rfl rfl rfl rfl rfl ?_
  refine x_L 1 (f' := (4, [(0, .retAddr 0)], [.ref 0, .ref 0])) rfl ?_
  refine x_spec 201 rfl rfl rfl ix_X11_init rfl (Nat.le_of_ble_eq_true rfl) (ct_X11_init_1 (d := d + 0)) ?_
  show xW _ en (some .boolean) tb_law (7, [(0, .retAddr 0)], [.ref 0]) hp_189 _
  refine x_L 1 (f' := (8, [(1, .ref 0), (0, .retAddr 0)], [])) rfl ?_
  exact k
def qcell0 (σ : qS) (a : Nat) : pE := if lc a < 13 then .inr (lc a, (List.range (cn (lc a))).map (qfv σ a)) else .inl (lc a - 20, ln a, qarr σ a)
theorem qcell_0 {hX : pH} {σ : qS} {a : Nat} (h : a < qNC) : qcell hX σ a = qcell0 σ a := if_pos h
set_option maxRecDepth 100000 in
theorem hpq_0 : hp_189.2.2 0 = qcell0 s0 0 := rfl
set_option maxRecDepth 100000 in
theorem hpq_1 : hp_189.2.2 1 = qcell0 s0 1 := rfl
set_option maxRecDepth 100000 in
theorem hpq_2 : hp_189.2.2 2 = qcell0 s0 2 := rfl
set_option maxRecDepth 100000 in
theorem hpq_3 : hp_189.2.2 3 = qcell0 s0 3 := rfl
set_option maxRecDepth 100000 in
theorem hpq_4 : hp_189.2.2 4 = qcell0 s0 4 := rfl
set_option maxRecDepth 100000 in
theorem hpq_5 : hp_189.2.2 5 = qcell0 s0 5 := rfl
set_option maxRecDepth 100000 in
theorem hpq_6 : hp_189.2.2 6 = qcell0 s0 6 := rfl
set_option maxRecDepth 100000 in
theorem hpq_7 : hp_189.2.2 7 = qcell0 s0 7 := rfl
set_option maxRecDepth 100000 in
theorem hpq_8 : hp_189.2.2 8 = qcell0 s0 8 := rfl
set_option maxRecDepth 100000 in
theorem hpq_9 : hp_189.2.2 9 = qcell0 s0 9 := rfl
set_option maxRecDepth 100000 in
theorem hpq_10 : hp_189.2.2 10 = qcell0 s0 10 := rfl
set_option maxRecDepth 100000 in
theorem hpq_11 : hp_189.2.2 11 = qcell0 s0 11 := rfl
set_option maxRecDepth 100000 in
theorem hpq_12 : hp_189.2.2 12 = qcell0 s0 12 := rfl
set_option maxRecDepth 100000 in
theorem hpq_13 : hp_189.2.2 13 = qcell0 s0 13 := rfl
set_option maxRecDepth 100000 in
theorem hpq_14 : hp_189.2.2 14 = qcell0 s0 14 := rfl
set_option maxRecDepth 100000 in
theorem hpq_15 : hp_189.2.2 15 = qcell0 s0 15 := rfl
set_option maxRecDepth 100000 in
theorem hpq_16 : hp_189.2.2 16 = qcell0 s0 16 := rfl
set_option maxRecDepth 100000 in
theorem hpq_17 : hp_189.2.2 17 = qcell0 s0 17 := rfl
set_option maxRecDepth 100000 in
theorem hpq_18 : hp_189.2.2 18 = qcell0 s0 18 := rfl
set_option maxRecDepth 100000 in
theorem hpq_19 : hp_189.2.2 19 = qcell0 s0 19 := rfl
set_option maxRecDepth 100000 in
theorem hpq_20 : hp_189.2.2 20 = qcell0 s0 20 := rfl
set_option maxRecDepth 100000 in
theorem hpq_21 : hp_189.2.2 21 = qcell0 s0 21 := rfl
set_option maxRecDepth 100000 in
theorem hpq_22 : hp_189.2.2 22 = qcell0 s0 22 := rfl
set_option maxRecDepth 100000 in
theorem hpq_23 : hp_189.2.2 23 = qcell0 s0 23 := rfl
set_option maxRecDepth 100000 in
theorem hpq_24 : hp_189.2.2 24 = qcell0 s0 24 := rfl
set_option maxRecDepth 100000 in
theorem hpq_25 : hp_189.2.2 25 = qcell0 s0 25 := rfl
set_option maxRecDepth 100000 in
theorem hpq_26 : hp_189.2.2 26 = qcell0 s0 26 := rfl
set_option maxRecDepth 100000 in
theorem hpq_27 : hp_189.2.2 27 = qcell0 s0 27 := rfl
set_option maxRecDepth 100000 in
theorem hpq_28 : hp_189.2.2 28 = qcell0 s0 28 := rfl
set_option maxRecDepth 100000 in
theorem hpq_29 : hp_189.2.2 29 = qcell0 s0 29 := rfl
set_option maxRecDepth 100000 in
theorem hpq_30 : hp_189.2.2 30 = qcell0 s0 30 := rfl
set_option maxRecDepth 100000 in
theorem hpq_31 : hp_189.2.2 31 = qcell0 s0 31 := rfl
set_option maxRecDepth 100000 in
theorem hpq_32 : hp_189.2.2 32 = qcell0 s0 32 := rfl
set_option maxRecDepth 100000 in
theorem hpq_33 : hp_189.2.2 33 = qcell0 s0 33 := rfl
set_option maxRecDepth 100000 in
theorem hpq_34 : hp_189.2.2 34 = qcell0 s0 34 := rfl
set_option maxRecDepth 100000 in
theorem hpq_35 : hp_189.2.2 35 = qcell0 s0 35 := rfl
set_option maxRecDepth 100000 in
theorem hpq_36 : hp_189.2.2 36 = qcell0 s0 36 := rfl
set_option maxRecDepth 100000 in
theorem hpq_37 : hp_189.2.2 37 = qcell0 s0 37 := rfl
set_option maxRecDepth 100000 in
theorem hpq_38 : hp_189.2.2 38 = qcell0 s0 38 := rfl
set_option maxRecDepth 100000 in
theorem hpq_39 : hp_189.2.2 39 = qcell0 s0 39 := rfl
set_option maxRecDepth 100000 in
theorem hpq_40 : hp_189.2.2 40 = qcell0 s0 40 := rfl
set_option maxRecDepth 100000 in
theorem hpq_41 : hp_189.2.2 41 = qcell0 s0 41 := rfl
set_option maxRecDepth 100000 in
theorem hpq_42 : hp_189.2.2 42 = qcell0 s0 42 := rfl
set_option maxRecDepth 100000 in
theorem hpq_43 : hp_189.2.2 43 = qcell0 s0 43 := rfl
set_option maxRecDepth 100000 in
theorem hpq_44 : hp_189.2.2 44 = qcell0 s0 44 := rfl
set_option maxRecDepth 100000 in
theorem hpq_45 : hp_189.2.2 45 = qcell0 s0 45 := rfl
set_option maxRecDepth 100000 in
theorem hpq_46 : hp_189.2.2 46 = qcell0 s0 46 := rfl
set_option maxRecDepth 100000 in
theorem hpq_47 : hp_189.2.2 47 = qcell0 s0 47 := rfl
set_option maxRecDepth 100000 in
theorem hpq_48 : hp_189.2.2 48 = qcell0 s0 48 := rfl
set_option maxRecDepth 100000 in
theorem hpq_49 : hp_189.2.2 49 = qcell0 s0 49 := rfl
set_option maxRecDepth 100000 in
theorem hpq_50 : hp_189.2.2 50 = qcell0 s0 50 := rfl
set_option maxRecDepth 100000 in
theorem hpq_51 : hp_189.2.2 51 = qcell0 s0 51 := rfl
set_option maxRecDepth 100000 in
theorem hpq_52 : hp_189.2.2 52 = qcell0 s0 52 := rfl
set_option maxRecDepth 100000 in
theorem hpq_53 : hp_189.2.2 53 = qcell0 s0 53 := rfl
set_option maxRecDepth 100000 in
theorem hpq_54 : hp_189.2.2 54 = qcell0 s0 54 := rfl
set_option maxRecDepth 100000 in
theorem hpq_55 : hp_189.2.2 55 = qcell0 s0 55 := rfl
set_option maxRecDepth 100000 in
theorem hpq_56 : hp_189.2.2 56 = qcell0 s0 56 := rfl
set_option maxRecDepth 100000 in
theorem hpq_57 : hp_189.2.2 57 = qcell0 s0 57 := rfl
set_option maxRecDepth 100000 in
theorem hpq_58 : hp_189.2.2 58 = qcell0 s0 58 := rfl
set_option maxRecDepth 100000 in
theorem hpq_59 : hp_189.2.2 59 = qcell0 s0 59 := rfl
set_option maxRecDepth 100000 in
theorem hpq_60 : hp_189.2.2 60 = qcell0 s0 60 := rfl
set_option maxRecDepth 100000 in
theorem hpq_61 : hp_189.2.2 61 = qcell0 s0 61 := rfl
set_option maxRecDepth 100000 in
theorem hpq_62 : hp_189.2.2 62 = qcell0 s0 62 := rfl
set_option maxRecDepth 100000 in
theorem hpq_63 : hp_189.2.2 63 = qcell0 s0 63 := rfl
set_option maxRecDepth 100000 in
theorem hpq_64 : hp_189.2.2 64 = qcell0 s0 64 := rfl
set_option maxRecDepth 100000 in
theorem hpq_65 : hp_189.2.2 65 = qcell0 s0 65 := rfl
set_option maxRecDepth 100000 in
theorem hpq_66 : hp_189.2.2 66 = qcell0 s0 66 := rfl
set_option maxRecDepth 100000 in
theorem hpq_67 : hp_189.2.2 67 = qcell0 s0 67 := rfl
set_option maxRecDepth 100000 in
theorem hpq_68 : hp_189.2.2 68 = qcell0 s0 68 := rfl
set_option maxRecDepth 100000 in
theorem hpq_69 : hp_189.2.2 69 = qcell0 s0 69 := rfl
set_option maxRecDepth 100000 in
theorem hpq_70 : hp_189.2.2 70 = qcell0 s0 70 := rfl
set_option maxRecDepth 100000 in
theorem hpq_71 : hp_189.2.2 71 = qcell0 s0 71 := rfl
set_option maxRecDepth 100000 in
theorem hpq_72 : hp_189.2.2 72 = qcell0 s0 72 := rfl
set_option maxRecDepth 100000 in
theorem hpq_73 : hp_189.2.2 73 = qcell0 s0 73 := rfl
set_option maxRecDepth 100000 in
theorem hpq_74 : hp_189.2.2 74 = qcell0 s0 74 := rfl
set_option maxRecDepth 100000 in
theorem hpq_75 : hp_189.2.2 75 = qcell0 s0 75 := rfl
set_option maxRecDepth 100000 in
theorem hpq_76 : hp_189.2.2 76 = qcell0 s0 76 := rfl
set_option maxRecDepth 100000 in
theorem hpq_77 : hp_189.2.2 77 = qcell0 s0 77 := rfl
set_option maxRecDepth 100000 in
theorem hpq_78 : hp_189.2.2 78 = qcell0 s0 78 := rfl
set_option maxRecDepth 100000 in
theorem hpq_79 : hp_189.2.2 79 = qcell0 s0 79 := rfl
set_option maxRecDepth 100000 in
theorem hpq_80 : hp_189.2.2 80 = qcell0 s0 80 := rfl
set_option maxRecDepth 100000 in
theorem hpq_81 : hp_189.2.2 81 = qcell0 s0 81 := rfl
set_option maxRecDepth 100000 in
theorem hpq_82 : hp_189.2.2 82 = qcell0 s0 82 := rfl
set_option maxRecDepth 100000 in
theorem hpq_83 : hp_189.2.2 83 = qcell0 s0 83 := rfl
set_option maxRecDepth 100000 in
theorem hpq_84 : hp_189.2.2 84 = qcell0 s0 84 := rfl
set_option maxRecDepth 100000 in
theorem hpq_85 : hp_189.2.2 85 = qcell0 s0 85 := rfl
set_option maxRecDepth 100000 in
theorem hpq_86 : hp_189.2.2 86 = qcell0 s0 86 := rfl
set_option maxRecDepth 100000 in
theorem hpq_87 : hp_189.2.2 87 = qcell0 s0 87 := rfl
set_option maxRecDepth 100000 in
theorem hpq_88 : hp_189.2.2 88 = qcell0 s0 88 := rfl
set_option maxRecDepth 100000 in
theorem hpq_89 : hp_189.2.2 89 = qcell0 s0 89 := rfl
set_option maxRecDepth 100000 in
theorem hpq_90 : hp_189.2.2 90 = qcell0 s0 90 := rfl
set_option maxRecDepth 100000 in
theorem hpq_91 : hp_189.2.2 91 = qcell0 s0 91 := rfl
set_option maxRecDepth 100000 in
theorem hpq_92 : hp_189.2.2 92 = qcell0 s0 92 := rfl
set_option maxRecDepth 100000 in
theorem hpq_93 : hp_189.2.2 93 = qcell0 s0 93 := rfl
set_option maxRecDepth 100000 in
theorem hpq_94 : hp_189.2.2 94 = qcell0 s0 94 := rfl
set_option maxRecDepth 100000 in
theorem hpq_95 : hp_189.2.2 95 = qcell0 s0 95 := rfl
set_option maxRecDepth 100000 in
theorem hpq_96 : hp_189.2.2 96 = qcell0 s0 96 := rfl
set_option maxRecDepth 100000 in
theorem hpq_97 : hp_189.2.2 97 = qcell0 s0 97 := rfl
set_option maxRecDepth 100000 in
theorem hpq_98 : hp_189.2.2 98 = qcell0 s0 98 := rfl
set_option maxRecDepth 100000 in
theorem hpq_99 : hp_189.2.2 99 = qcell0 s0 99 := rfl
set_option maxRecDepth 100000 in
theorem hpq_100 : hp_189.2.2 100 = qcell0 s0 100 := rfl
set_option maxRecDepth 100000 in
theorem hpq_101 : hp_189.2.2 101 = qcell0 s0 101 := rfl
set_option maxRecDepth 100000 in
theorem hpq_102 : hp_189.2.2 102 = qcell0 s0 102 := rfl
set_option maxRecDepth 100000 in
theorem hpq_103 : hp_189.2.2 103 = qcell0 s0 103 := rfl
set_option maxRecDepth 100000 in
theorem hpq_104 : hp_189.2.2 104 = qcell0 s0 104 := rfl
set_option maxRecDepth 100000 in
theorem hpq_105 : hp_189.2.2 105 = qcell0 s0 105 := rfl
set_option maxRecDepth 100000 in
theorem hpq_106 : hp_189.2.2 106 = qcell0 s0 106 := rfl
set_option maxRecDepth 100000 in
theorem hpq_107 : hp_189.2.2 107 = qcell0 s0 107 := rfl
set_option maxRecDepth 100000 in
theorem hpq_108 : hp_189.2.2 108 = qcell0 s0 108 := rfl
set_option maxRecDepth 100000 in
theorem hpq_109 : hp_189.2.2 109 = qcell0 s0 109 := rfl
set_option maxRecDepth 100000 in
theorem hpq_110 : hp_189.2.2 110 = qcell0 s0 110 := rfl
set_option maxRecDepth 100000 in
theorem hpq_111 : hp_189.2.2 111 = qcell0 s0 111 := rfl
set_option maxRecDepth 100000 in
theorem hpq_112 : hp_189.2.2 112 = qcell0 s0 112 := rfl
set_option maxRecDepth 100000 in
theorem hpq_113 : hp_189.2.2 113 = qcell0 s0 113 := rfl
set_option maxRecDepth 100000 in
theorem hpq_114 : hp_189.2.2 114 = qcell0 s0 114 := rfl
set_option maxRecDepth 100000 in
theorem hpq_115 : hp_189.2.2 115 = qcell0 s0 115 := rfl
set_option maxRecDepth 100000 in
theorem hpq_116 : hp_189.2.2 116 = qcell0 s0 116 := rfl
set_option maxRecDepth 100000 in
theorem hpq_117 : hp_189.2.2 117 = qcell0 s0 117 := rfl
set_option maxRecDepth 100000 in
theorem hpq_118 : hp_189.2.2 118 = qcell0 s0 118 := rfl
set_option maxRecDepth 100000 in
theorem hpq_119 : hp_189.2.2 119 = qcell0 s0 119 := rfl
set_option maxRecDepth 100000 in
theorem hpq_120 : hp_189.2.2 120 = qcell0 s0 120 := rfl
set_option maxRecDepth 100000 in
theorem hpq_121 : hp_189.2.2 121 = qcell0 s0 121 := rfl
set_option maxRecDepth 100000 in
theorem hpq_122 : hp_189.2.2 122 = qcell0 s0 122 := rfl
set_option maxRecDepth 100000 in
theorem hpq_123 : hp_189.2.2 123 = qcell0 s0 123 := rfl
set_option maxRecDepth 100000 in
theorem hpq_124 : hp_189.2.2 124 = qcell0 s0 124 := rfl
set_option maxRecDepth 100000 in
theorem hpq_125 : hp_189.2.2 125 = qcell0 s0 125 := rfl
set_option maxRecDepth 100000 in
theorem hpq_126 : hp_189.2.2 126 = qcell0 s0 126 := rfl
set_option maxRecDepth 100000 in
theorem hpq_127 : hp_189.2.2 127 = qcell0 s0 127 := rfl
set_option maxRecDepth 100000 in
theorem hpq_128 : hp_189.2.2 128 = qcell0 s0 128 := rfl
set_option maxRecDepth 100000 in
theorem hpq_129 : hp_189.2.2 129 = qcell0 s0 129 := rfl
set_option maxRecDepth 100000 in
theorem hpq_130 : hp_189.2.2 130 = qcell0 s0 130 := rfl
set_option maxRecDepth 100000 in
theorem hpq_131 : hp_189.2.2 131 = qcell0 s0 131 := rfl
set_option maxRecDepth 100000 in
theorem hpq_132 : hp_189.2.2 132 = qcell0 s0 132 := rfl
set_option maxRecDepth 100000 in
theorem hpq_133 : hp_189.2.2 133 = qcell0 s0 133 := rfl
set_option maxRecDepth 100000 in
theorem hpq_134 : hp_189.2.2 134 = qcell0 s0 134 := rfl
set_option maxRecDepth 100000 in
theorem hpq_135 : hp_189.2.2 135 = qcell0 s0 135 := rfl
set_option maxRecDepth 100000 in
theorem hpq_136 : hp_189.2.2 136 = qcell0 s0 136 := rfl
set_option maxRecDepth 100000 in
theorem hpq_137 : hp_189.2.2 137 = qcell0 s0 137 := rfl
set_option maxRecDepth 100000 in
theorem hpq_138 : hp_189.2.2 138 = qcell0 s0 138 := rfl
set_option maxRecDepth 100000 in
theorem hpq_139 : hp_189.2.2 139 = qcell0 s0 139 := rfl
set_option maxRecDepth 100000 in
theorem hpq_140 : hp_189.2.2 140 = qcell0 s0 140 := rfl
set_option maxRecDepth 100000 in
theorem hpq_141 : hp_189.2.2 141 = qcell0 s0 141 := rfl
set_option maxRecDepth 100000 in
theorem hpq_142 : hp_189.2.2 142 = qcell0 s0 142 := rfl
set_option maxRecDepth 100000 in
theorem hpq_143 : hp_189.2.2 143 = qcell0 s0 143 := rfl
set_option maxRecDepth 100000 in
theorem hpq_144 : hp_189.2.2 144 = qcell0 s0 144 := rfl
set_option maxRecDepth 100000 in
theorem hpq_145 : hp_189.2.2 145 = qcell0 s0 145 := rfl
set_option maxRecDepth 100000 in
theorem hpq_146 : hp_189.2.2 146 = qcell0 s0 146 := rfl
set_option maxRecDepth 100000 in
theorem hpq_147 : hp_189.2.2 147 = qcell0 s0 147 := rfl
set_option maxRecDepth 100000 in
theorem hpq_148 : hp_189.2.2 148 = qcell0 s0 148 := rfl
set_option maxRecDepth 100000 in
theorem hpq_149 : hp_189.2.2 149 = qcell0 s0 149 := rfl
set_option maxRecDepth 100000 in
theorem hpq_150 : hp_189.2.2 150 = qcell0 s0 150 := rfl
theorem hpqb_0 : ∀ k : Nat, k < 25 → hp_189.2.2 (0 + k) = qcell0 s0 (0 + k) := by
  intro k hk
  match k, hk with
  | 0, _ => exact hpq_0
  | 1, _ => exact hpq_1
  | 2, _ => exact hpq_2
  | 3, _ => exact hpq_3
  | 4, _ => exact hpq_4
  | 5, _ => exact hpq_5
  | 6, _ => exact hpq_6
  | 7, _ => exact hpq_7
  | 8, _ => exact hpq_8
  | 9, _ => exact hpq_9
  | 10, _ => exact hpq_10
  | 11, _ => exact hpq_11
  | 12, _ => exact hpq_12
  | 13, _ => exact hpq_13
  | 14, _ => exact hpq_14
  | 15, _ => exact hpq_15
  | 16, _ => exact hpq_16
  | 17, _ => exact hpq_17
  | 18, _ => exact hpq_18
  | 19, _ => exact hpq_19
  | 20, _ => exact hpq_20
  | 21, _ => exact hpq_21
  | 22, _ => exact hpq_22
  | 23, _ => exact hpq_23
  | 24, _ => exact hpq_24
  | k + 25, hk => exact absurd hk (by omega)
theorem hpqb_1 : ∀ k : Nat, k < 25 → hp_189.2.2 (25 + k) = qcell0 s0 (25 + k) := by
  intro k hk
  match k, hk with
  | 0, _ => exact hpq_25
  | 1, _ => exact hpq_26
  | 2, _ => exact hpq_27
  | 3, _ => exact hpq_28
  | 4, _ => exact hpq_29
  | 5, _ => exact hpq_30
  | 6, _ => exact hpq_31
  | 7, _ => exact hpq_32
  | 8, _ => exact hpq_33
  | 9, _ => exact hpq_34
  | 10, _ => exact hpq_35
  | 11, _ => exact hpq_36
  | 12, _ => exact hpq_37
  | 13, _ => exact hpq_38
  | 14, _ => exact hpq_39
  | 15, _ => exact hpq_40
  | 16, _ => exact hpq_41
  | 17, _ => exact hpq_42
  | 18, _ => exact hpq_43
  | 19, _ => exact hpq_44
  | 20, _ => exact hpq_45
  | 21, _ => exact hpq_46
  | 22, _ => exact hpq_47
  | 23, _ => exact hpq_48
  | 24, _ => exact hpq_49
  | k + 25, hk => exact absurd hk (by omega)
theorem hpqb_2 : ∀ k : Nat, k < 25 → hp_189.2.2 (50 + k) = qcell0 s0 (50 + k) := by
  intro k hk
  match k, hk with
  | 0, _ => exact hpq_50
  | 1, _ => exact hpq_51
  | 2, _ => exact hpq_52
  | 3, _ => exact hpq_53
  | 4, _ => exact hpq_54
  | 5, _ => exact hpq_55
  | 6, _ => exact hpq_56
  | 7, _ => exact hpq_57
  | 8, _ => exact hpq_58
  | 9, _ => exact hpq_59
  | 10, _ => exact hpq_60
  | 11, _ => exact hpq_61
  | 12, _ => exact hpq_62
  | 13, _ => exact hpq_63
  | 14, _ => exact hpq_64
  | 15, _ => exact hpq_65
  | 16, _ => exact hpq_66
  | 17, _ => exact hpq_67
  | 18, _ => exact hpq_68
  | 19, _ => exact hpq_69
  | 20, _ => exact hpq_70
  | 21, _ => exact hpq_71
  | 22, _ => exact hpq_72
  | 23, _ => exact hpq_73
  | 24, _ => exact hpq_74
  | k + 25, hk => exact absurd hk (by omega)
theorem hpqb_3 : ∀ k : Nat, k < 25 → hp_189.2.2 (75 + k) = qcell0 s0 (75 + k) := by
  intro k hk
  match k, hk with
  | 0, _ => exact hpq_75
  | 1, _ => exact hpq_76
  | 2, _ => exact hpq_77
  | 3, _ => exact hpq_78
  | 4, _ => exact hpq_79
  | 5, _ => exact hpq_80
  | 6, _ => exact hpq_81
  | 7, _ => exact hpq_82
  | 8, _ => exact hpq_83
  | 9, _ => exact hpq_84
  | 10, _ => exact hpq_85
  | 11, _ => exact hpq_86
  | 12, _ => exact hpq_87
  | 13, _ => exact hpq_88
  | 14, _ => exact hpq_89
  | 15, _ => exact hpq_90
  | 16, _ => exact hpq_91
  | 17, _ => exact hpq_92
  | 18, _ => exact hpq_93
  | 19, _ => exact hpq_94
  | 20, _ => exact hpq_95
  | 21, _ => exact hpq_96
  | 22, _ => exact hpq_97
  | 23, _ => exact hpq_98
  | 24, _ => exact hpq_99
  | k + 25, hk => exact absurd hk (by omega)
theorem hpqb_4 : ∀ k : Nat, k < 25 → hp_189.2.2 (100 + k) = qcell0 s0 (100 + k) := by
  intro k hk
  match k, hk with
  | 0, _ => exact hpq_100
  | 1, _ => exact hpq_101
  | 2, _ => exact hpq_102
  | 3, _ => exact hpq_103
  | 4, _ => exact hpq_104
  | 5, _ => exact hpq_105
  | 6, _ => exact hpq_106
  | 7, _ => exact hpq_107
  | 8, _ => exact hpq_108
  | 9, _ => exact hpq_109
  | 10, _ => exact hpq_110
  | 11, _ => exact hpq_111
  | 12, _ => exact hpq_112
  | 13, _ => exact hpq_113
  | 14, _ => exact hpq_114
  | 15, _ => exact hpq_115
  | 16, _ => exact hpq_116
  | 17, _ => exact hpq_117
  | 18, _ => exact hpq_118
  | 19, _ => exact hpq_119
  | 20, _ => exact hpq_120
  | 21, _ => exact hpq_121
  | 22, _ => exact hpq_122
  | 23, _ => exact hpq_123
  | 24, _ => exact hpq_124
  | k + 25, hk => exact absurd hk (by omega)
theorem hpqb_5 : ∀ k : Nat, k < 25 → hp_189.2.2 (125 + k) = qcell0 s0 (125 + k) := by
  intro k hk
  match k, hk with
  | 0, _ => exact hpq_125
  | 1, _ => exact hpq_126
  | 2, _ => exact hpq_127
  | 3, _ => exact hpq_128
  | 4, _ => exact hpq_129
  | 5, _ => exact hpq_130
  | 6, _ => exact hpq_131
  | 7, _ => exact hpq_132
  | 8, _ => exact hpq_133
  | 9, _ => exact hpq_134
  | 10, _ => exact hpq_135
  | 11, _ => exact hpq_136
  | 12, _ => exact hpq_137
  | 13, _ => exact hpq_138
  | 14, _ => exact hpq_139
  | 15, _ => exact hpq_140
  | 16, _ => exact hpq_141
  | 17, _ => exact hpq_142
  | 18, _ => exact hpq_143
  | 19, _ => exact hpq_144
  | 20, _ => exact hpq_145
  | 21, _ => exact hpq_146
  | 22, _ => exact hpq_147
  | 23, _ => exact hpq_148
  | 24, _ => exact hpq_149
  | k + 25, hk => exact absurd hk (by omega)
theorem hpqb_6 : ∀ k : Nat, k < 1 → hp_189.2.2 (150 + k) = qcell0 s0 (150 + k) := by
  intro k hk
  match k, hk with
  | 0, _ => exact hpq_150
  | k + 1, hk => exact absurd hk (by omega)
theorem hpq : ∀ a : Nat, a < qNC → hp_189.2.2 a = qcell0 s0 a := by
  intro a ha
  have ha : a < 151 := ha
  by_cases h0 : a < 25
  · have := hpqb_0 (a - 0) (by omega)
    rw [show 0 + (a - 0) = a by omega] at this
    exact this
  by_cases h1 : a < 50
  · have := hpqb_1 (a - 25) (by omega)
    rw [show 25 + (a - 25) = a by omega] at this
    exact this
  by_cases h2 : a < 75
  · have := hpqb_2 (a - 50) (by omega)
    rw [show 50 + (a - 50) = a by omega] at this
    exact this
  by_cases h3 : a < 100
  · have := hpqb_3 (a - 75) (by omega)
    rw [show 75 + (a - 75) = a by omega] at this
    exact this
  by_cases h4 : a < 125
  · have := hpqb_4 (a - 100) (by omega)
    rw [show 100 + (a - 100) = a by omega] at this
    exact this
  by_cases h5 : a < 150
  · have := hpqb_5 (a - 125) (by omega)
    rw [show 125 + (a - 125) = a by omega] at this
    exact this
  by_cases h6 : a < 151
  · have := hpqb_6 (a - 150) (by omega)
    rw [show 150 + (a - 150) = a by omega] at this
    exact this
  omega
def hX0 : pH := (0, 0, hp_189.2.2)
theorem hp_s0 : hp_189 = heapOf hX0 s0 := by
  show (hp_189.1, hp_189.2.1, hp_189.2.2) = (qNC + 0, qNS + 0, qcell hX0 s0)
  refine Prod.ext rfl (Prod.ext rfl (funext fun a => ?_))
  by_cases h : a < qNC
  · exact (hpq a h).trans (qcell_0 h).symm
  · exact (if_neg h).symm
abbrev hpL : pH := hp_189
