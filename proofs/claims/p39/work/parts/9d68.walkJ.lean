/-! THE LAW'S WALK: where the run ended, as one number. -/
section LWJ
variable {en : pN} {N len : Nat} {P f : Nat → fI} {τ : qS} {m : Nat → Int32} {A B : Nat} {M : fI}
set_option maxRecDepth 100000 in
set_option maxHeartbeats 4000000 in
theorem lw_J (hP : PV P 3 2 2 N) (hr : RXi τ 11 P 0 M len f) (hb : BS P τ) (hz : nz0 M) (hB : B ≤ 60) (hin : inS m (oV P M) B = true) (hk : LG en 453 [(0, .retAddr 0), (1, .ref 0), (2, .int (nI A)), (3, .int (nI B)), (4, .ref 151)] (heapOf (hM m) τ)) : LG en 307 [(0, .retAddr 0), (1, .ref 0), (2, .int (nI A)), (3, .int (nI B)), (4, .ref 151), (9, .int (nI 0))] (heapOf (hM m) τ) := by
  have h9 : τ.1 11 9 = nI 3 := (congrFun (hb.1 0 (by decide)) 9).trans hP.1.1
  have h11 : τ.1 11 11 = nI 2 := (congrFun (hb.1 0 (by decide)) 11).trans hP.2.2.1.1
  have thr : ∀ (t : Nat) (u : Int32), t < 2 → u = nI t → qev en 300 210 [.ref 0, .int u, .int (0 : Int32)] τ = some (some (.int (M t)), τ) := by
    intro t u ht hu
    have e := x_thread (en := en) (d := 299) (u := u) (v := 0) hr h11 (by decide)
    rw [hu, if_neg (nI_pos (by omega)), if_pos (by rw [n_LT (by omega) (by decide)]; exact ht), show clp (nI t) = t from n_clp (by omega)] at e
    rw [hu]
    exact e
  have cel : ∀ (c : Nat) (u : Int32), c < 3 → u = nI c → qev en 300 212 [.ref 0, .int u] τ = some (some (.int (M (48 + c))), τ) := by
    intro c u hc hu
    have e := x_cellQ (en := en) (d := 298) (u := u) hr h9 (by decide)
    rw [hu, if_neg (nI_pos (by omega)), if_pos (by rw [n_LT (by omega) (by decide)]; exact hc), show clp (nI c) = c from n_clp (by omega)] at e
    rw [hu]
    exact e
  have loc : ∀ (t v : Nat) (a b : Int32), t < 2 → v < 2 → a = nI t → b = nI v → qev en 300 211 [.ref 0, .int a, .int b] τ = some (some (.int (ocv P M t v)), τ) := by
    intro t v a b ht hv ha hb'
    have hl6 := (hP.2.2.2.2.2 t ht).2.2
    have e := x_localQ (en := en) (d := 297) (u := a) (v := b) (nt := 2) hr h11 (by decide) (fun t ht => by
      rw [hb.1 3 (by decide)]
      exact (hP.2.2.2.2.2 t ht).2)
    rw [ha, hb', if_neg (nI_pos (by omega)), if_pos (by rw [n_LT (by omega) (by decide)]; exact ht), if_neg (nI_pos (by omega)), show clp (nI t) = t from n_clp (by omega), show clp (nI v) = v from n_clp (by omega)] at e
    rw [ha, hb']
    unfold ocv
    by_cases q : v < lct P t
    · rw [if_pos (by rw [n_LT (by omega) (by omega)]; exact q)] at e
      rw [if_pos q]
      exact e
    · rw [if_neg (by rw [n_LT (by omega) (by omega)]; exact q)] at e
      rw [if_neg q]
      exact e
  obtain ⟨h', hb', k⟩ := hk
  refine ⟨h', hb', ?_⟩
  have ei : pev msL en 300 442 [.ref 151, .int (nI B), .int (oV P M)] (heapOf (hM m) τ) = some (some (.int (1 : Int32)), heapOf (hM m) τ) := by
    have := x_isIn (en := en) (d := 299) (m := m) (σ := τ) (v := oV P M) hB
    rw [hin] at this
    exact this
  have fin : xW (pev msL en 300) en (some .boolean) tb_law (356, [(0, .retAddr 0), (1, .ref 0), (2, .int (nI A)), (3, .int (nI B)), (4, .ref 151), (9, .int (nI 0))], [.int (nI (soS M 2))]) (heapOf (hM m) τ) (some (.int 1), h') := by
    refine x_L 5 (f' := (364, [(12, .int (0 : Int32)), (11, .int (nI (soS M 2))), (0, .retAddr 0), (1, .ref 0), (2, .int (nI A)), (3, .int (nI B)), (4, .ref 151), (9, .int (nI 0))], [.int (3 : Int32), .int (0 : Int32)])) rfl ?_
    refine x_icm false rfl (by decide) ?_
    refine x_L 5 (f' := (376, [(12, .int (0 : Int32)), (11, .int (nI (soS M 2))), (0, .retAddr 0), (1, .ref 0), (2, .int (nI A)), (3, .int (nI B)), (4, .ref 151), (9, .int (nI 0))], [.int (0 : Int32), .ref 0, .int ((1009 : Int32) * (nI (soS M 2)))])) rfl ?_
    refine x_virt 212 rfl rfl ix_X11_cell rfl (q_recv_spec (show q_recv 11 (.ref 0) = true from rfl)) (Nat.le_of_ble_eq_true rfl) (qev_pev 300 _ _ _ _ _ (cel 0 _ (by decide) rfl)) ?_
    show xW _ en (some .boolean) tb_law (379, [(12, .int (0 : Int32)), (11, .int (nI (soS M 2))), (0, .retAddr 0), (1, .ref 0), (2, .int (nI A)), (3, .int (nI B)), (4, .ref 151), (9, .int (nI 0))], [.int (M 48), .int ((1009 : Int32) * (nI (soS M 2)))]) (heapOf (hM m) τ) _
    refine x_L 6 (f' := (364, [(12, .int ((0 : Int32) + (1 : Int32))), (11, .int (((1009 : Int32) * (nI (soS M 2))) + (M 48))), (0, .retAddr 0), (1, .ref 0), (2, .int (nI A)), (3, .int (nI B)), (4, .ref 151), (9, .int (nI 0))], [.int (3 : Int32), .int ((0 : Int32) + (1 : Int32))])) rfl ?_
    refine x_icm false rfl (by decide) ?_
    refine x_L 5 (f' := (376, [(12, .int ((0 : Int32) + (1 : Int32))), (11, .int (((1009 : Int32) * (nI (soS M 2))) + (M 48))), (0, .retAddr 0), (1, .ref 0), (2, .int (nI A)), (3, .int (nI B)), (4, .ref 151), (9, .int (nI 0))], [.int ((0 : Int32) + (1 : Int32)), .ref 0, .int ((1009 : Int32) * (((1009 : Int32) * (nI (soS M 2))) + (M 48)))])) rfl ?_
    refine x_virt 212 rfl rfl ix_X11_cell rfl (q_recv_spec (show q_recv 11 (.ref 0) = true from rfl)) (Nat.le_of_ble_eq_true rfl) (qev_pev 300 _ _ _ _ _ (cel 1 _ (by decide) rfl)) ?_
    show xW _ en (some .boolean) tb_law (379, [(12, .int ((0 : Int32) + (1 : Int32))), (11, .int (((1009 : Int32) * (nI (soS M 2))) + (M 48))), (0, .retAddr 0), (1, .ref 0), (2, .int (nI A)), (3, .int (nI B)), (4, .ref 151), (9, .int (nI 0))], [.int (M 49), .int ((1009 : Int32) * (((1009 : Int32) * (nI (soS M 2))) + (M 48)))]) (heapOf (hM m) τ) _
    refine x_L 6 (f' := (364, [(12, .int (((0 : Int32) + (1 : Int32)) + (1 : Int32))), (11, .int (((1009 : Int32) * (((1009 : Int32) * (nI (soS M 2))) + (M 48))) + (M 49))), (0, .retAddr 0), (1, .ref 0), (2, .int (nI A)), (3, .int (nI B)), (4, .ref 151), (9, .int (nI 0))], [.int (3 : Int32), .int (((0 : Int32) + (1 : Int32)) + (1 : Int32))])) rfl ?_
    refine x_icm false rfl (by decide) ?_
    refine x_L 5 (f' := (376, [(12, .int (((0 : Int32) + (1 : Int32)) + (1 : Int32))), (11, .int (((1009 : Int32) * (((1009 : Int32) * (nI (soS M 2))) + (M 48))) + (M 49))), (0, .retAddr 0), (1, .ref 0), (2, .int (nI A)), (3, .int (nI B)), (4, .ref 151), (9, .int (nI 0))], [.int (((0 : Int32) + (1 : Int32)) + (1 : Int32)), .ref 0, .int ((1009 : Int32) * (((1009 : Int32) * (((1009 : Int32) * (nI (soS M 2))) + (M 48))) + (M 49)))])) rfl ?_
    refine x_virt 212 rfl rfl ix_X11_cell rfl (q_recv_spec (show q_recv 11 (.ref 0) = true from rfl)) (Nat.le_of_ble_eq_true rfl) (qev_pev 300 _ _ _ _ _ (cel 2 _ (by decide) rfl)) ?_
    show xW _ en (some .boolean) tb_law (379, [(12, .int (((0 : Int32) + (1 : Int32)) + (1 : Int32))), (11, .int (((1009 : Int32) * (((1009 : Int32) * (nI (soS M 2))) + (M 48))) + (M 49))), (0, .retAddr 0), (1, .ref 0), (2, .int (nI A)), (3, .int (nI B)), (4, .ref 151), (9, .int (nI 0))], [.int (M 50), .int ((1009 : Int32) * (((1009 : Int32) * (((1009 : Int32) * (nI (soS M 2))) + (M 48))) + (M 49)))]) (heapOf (hM m) τ) _
    refine x_L 6 (f' := (364, [(12, .int ((((0 : Int32) + (1 : Int32)) + (1 : Int32)) + (1 : Int32))), (11, .int (((1009 : Int32) * (((1009 : Int32) * (((1009 : Int32) * (nI (soS M 2))) + (M 48))) + (M 49))) + (M 50))), (0, .retAddr 0), (1, .ref 0), (2, .int (nI A)), (3, .int (nI B)), (4, .ref 151), (9, .int (nI 0))], [.int (3 : Int32), .int ((((0 : Int32) + (1 : Int32)) + (1 : Int32)) + (1 : Int32))])) rfl ?_
    refine x_icm true rfl (by decide) ?_
    refine x_L 4 (f' := (394, [(12, .int (0 : Int32)), (11, .int (((1009 : Int32) * (((1009 : Int32) * (((1009 : Int32) * (nI (soS M 2))) + (M 48))) + (M 49))) + (M 50))), (0, .retAddr 0), (1, .ref 0), (2, .int (nI A)), (3, .int (nI B)), (4, .ref 151), (9, .int (nI 0))], [.int (2 : Int32), .int (0 : Int32)])) rfl ?_
    refine x_icm false rfl (by decide) ?_
    refine x_L 4 (f' := (403, [(13, .int (0 : Int32)), (12, .int (0 : Int32)), (11, .int (((1009 : Int32) * (((1009 : Int32) * (((1009 : Int32) * (nI (soS M 2))) + (M 48))) + (M 49))) + (M 50))), (0, .retAddr 0), (1, .ref 0), (2, .int (nI A)), (3, .int (nI B)), (4, .ref 151), (9, .int (nI 0))], [.int (2 : Int32), .int (0 : Int32)])) rfl ?_
    refine x_icm false rfl (by decide) ?_
    refine x_L 6 (f' := (417, [(13, .int (0 : Int32)), (12, .int (0 : Int32)), (11, .int (((1009 : Int32) * (((1009 : Int32) * (((1009 : Int32) * (nI (soS M 2))) + (M 48))) + (M 49))) + (M 50))), (0, .retAddr 0), (1, .ref 0), (2, .int (nI A)), (3, .int (nI B)), (4, .ref 151), (9, .int (nI 0))], [.int (0 : Int32), .int (0 : Int32), .ref 0, .int ((1013 : Int32) * (((1009 : Int32) * (((1009 : Int32) * (((1009 : Int32) * (nI (soS M 2))) + (M 48))) + (M 49))) + (M 50)))])) rfl ?_
    refine x_virt 211 rfl rfl ix_X11_local rfl (q_recv_spec (show q_recv 11 (.ref 0) = true from rfl)) (Nat.le_of_ble_eq_true rfl) (qev_pev 300 _ _ _ _ _ (loc 0 0 _ _ (by decide) (by decide) rfl rfl)) ?_
    show xW _ en (some .boolean) tb_law (420, [(13, .int (0 : Int32)), (12, .int (0 : Int32)), (11, .int (((1009 : Int32) * (((1009 : Int32) * (((1009 : Int32) * (nI (soS M 2))) + (M 48))) + (M 49))) + (M 50))), (0, .retAddr 0), (1, .ref 0), (2, .int (nI A)), (3, .int (nI B)), (4, .ref 151), (9, .int (nI 0))], [.int (ocv P M 0 0), .int ((1013 : Int32) * (((1009 : Int32) * (((1009 : Int32) * (((1009 : Int32) * (nI (soS M 2))) + (M 48))) + (M 49))) + (M 50)))]) (heapOf (hM m) τ) _
    refine x_L 6 (f' := (403, [(13, .int ((0 : Int32) + (1 : Int32))), (11, .int (((1013 : Int32) * (((1009 : Int32) * (((1009 : Int32) * (((1009 : Int32) * (nI (soS M 2))) + (M 48))) + (M 49))) + (M 50))) + (ocv P M 0 0))), (12, .int (0 : Int32)), (0, .retAddr 0), (1, .ref 0), (2, .int (nI A)), (3, .int (nI B)), (4, .ref 151), (9, .int (nI 0))], [.int (2 : Int32), .int ((0 : Int32) + (1 : Int32))])) rfl ?_
    refine x_icm false rfl (by decide) ?_
    refine x_L 6 (f' := (417, [(13, .int ((0 : Int32) + (1 : Int32))), (11, .int (((1013 : Int32) * (((1009 : Int32) * (((1009 : Int32) * (((1009 : Int32) * (nI (soS M 2))) + (M 48))) + (M 49))) + (M 50))) + (ocv P M 0 0))), (12, .int (0 : Int32)), (0, .retAddr 0), (1, .ref 0), (2, .int (nI A)), (3, .int (nI B)), (4, .ref 151), (9, .int (nI 0))], [.int ((0 : Int32) + (1 : Int32)), .int (0 : Int32), .ref 0, .int ((1013 : Int32) * (((1013 : Int32) * (((1009 : Int32) * (((1009 : Int32) * (((1009 : Int32) * (nI (soS M 2))) + (M 48))) + (M 49))) + (M 50))) + (ocv P M 0 0)))])) rfl ?_
    refine x_virt 211 rfl rfl ix_X11_local rfl (q_recv_spec (show q_recv 11 (.ref 0) = true from rfl)) (Nat.le_of_ble_eq_true rfl) (qev_pev 300 _ _ _ _ _ (loc 0 1 _ _ (by decide) (by decide) rfl rfl)) ?_
    show xW _ en (some .boolean) tb_law (420, [(13, .int ((0 : Int32) + (1 : Int32))), (11, .int (((1013 : Int32) * (((1009 : Int32) * (((1009 : Int32) * (((1009 : Int32) * (nI (soS M 2))) + (M 48))) + (M 49))) + (M 50))) + (ocv P M 0 0))), (12, .int (0 : Int32)), (0, .retAddr 0), (1, .ref 0), (2, .int (nI A)), (3, .int (nI B)), (4, .ref 151), (9, .int (nI 0))], [.int (ocv P M 0 1), .int ((1013 : Int32) * (((1013 : Int32) * (((1009 : Int32) * (((1009 : Int32) * (((1009 : Int32) * (nI (soS M 2))) + (M 48))) + (M 49))) + (M 50))) + (ocv P M 0 0)))]) (heapOf (hM m) τ) _
    refine x_L 6 (f' := (403, [(13, .int (((0 : Int32) + (1 : Int32)) + (1 : Int32))), (11, .int (((1013 : Int32) * (((1013 : Int32) * (((1009 : Int32) * (((1009 : Int32) * (((1009 : Int32) * (nI (soS M 2))) + (M 48))) + (M 49))) + (M 50))) + (ocv P M 0 0))) + (ocv P M 0 1))), (12, .int (0 : Int32)), (0, .retAddr 0), (1, .ref 0), (2, .int (nI A)), (3, .int (nI B)), (4, .ref 151), (9, .int (nI 0))], [.int (2 : Int32), .int (((0 : Int32) + (1 : Int32)) + (1 : Int32))])) rfl ?_
    refine x_icm true rfl (by decide) ?_
    refine x_L 4 (f' := (394, [(12, .int ((0 : Int32) + (1 : Int32))), (13, .int (((0 : Int32) + (1 : Int32)) + (1 : Int32))), (11, .int (((1013 : Int32) * (((1013 : Int32) * (((1009 : Int32) * (((1009 : Int32) * (((1009 : Int32) * (nI (soS M 2))) + (M 48))) + (M 49))) + (M 50))) + (ocv P M 0 0))) + (ocv P M 0 1))), (0, .retAddr 0), (1, .ref 0), (2, .int (nI A)), (3, .int (nI B)), (4, .ref 151), (9, .int (nI 0))], [.int (2 : Int32), .int ((0 : Int32) + (1 : Int32))])) rfl ?_
    refine x_icm false rfl (by decide) ?_
    refine x_L 4 (f' := (403, [(13, .int (0 : Int32)), (12, .int ((0 : Int32) + (1 : Int32))), (11, .int (((1013 : Int32) * (((1013 : Int32) * (((1009 : Int32) * (((1009 : Int32) * (((1009 : Int32) * (nI (soS M 2))) + (M 48))) + (M 49))) + (M 50))) + (ocv P M 0 0))) + (ocv P M 0 1))), (0, .retAddr 0), (1, .ref 0), (2, .int (nI A)), (3, .int (nI B)), (4, .ref 151), (9, .int (nI 0))], [.int (2 : Int32), .int (0 : Int32)])) rfl ?_
    refine x_icm false rfl (by decide) ?_
    refine x_L 6 (f' := (417, [(13, .int (0 : Int32)), (12, .int ((0 : Int32) + (1 : Int32))), (11, .int (((1013 : Int32) * (((1013 : Int32) * (((1009 : Int32) * (((1009 : Int32) * (((1009 : Int32) * (nI (soS M 2))) + (M 48))) + (M 49))) + (M 50))) + (ocv P M 0 0))) + (ocv P M 0 1))), (0, .retAddr 0), (1, .ref 0), (2, .int (nI A)), (3, .int (nI B)), (4, .ref 151), (9, .int (nI 0))], [.int (0 : Int32), .int ((0 : Int32) + (1 : Int32)), .ref 0, .int ((1013 : Int32) * (((1013 : Int32) * (((1013 : Int32) * (((1009 : Int32) * (((1009 : Int32) * (((1009 : Int32) * (nI (soS M 2))) + (M 48))) + (M 49))) + (M 50))) + (ocv P M 0 0))) + (ocv P M 0 1)))])) rfl ?_
    refine x_virt 211 rfl rfl ix_X11_local rfl (q_recv_spec (show q_recv 11 (.ref 0) = true from rfl)) (Nat.le_of_ble_eq_true rfl) (qev_pev 300 _ _ _ _ _ (loc 1 0 _ _ (by decide) (by decide) rfl rfl)) ?_
    show xW _ en (some .boolean) tb_law (420, [(13, .int (0 : Int32)), (12, .int ((0 : Int32) + (1 : Int32))), (11, .int (((1013 : Int32) * (((1013 : Int32) * (((1009 : Int32) * (((1009 : Int32) * (((1009 : Int32) * (nI (soS M 2))) + (M 48))) + (M 49))) + (M 50))) + (ocv P M 0 0))) + (ocv P M 0 1))), (0, .retAddr 0), (1, .ref 0), (2, .int (nI A)), (3, .int (nI B)), (4, .ref 151), (9, .int (nI 0))], [.int (ocv P M 1 0), .int ((1013 : Int32) * (((1013 : Int32) * (((1013 : Int32) * (((1009 : Int32) * (((1009 : Int32) * (((1009 : Int32) * (nI (soS M 2))) + (M 48))) + (M 49))) + (M 50))) + (ocv P M 0 0))) + (ocv P M 0 1)))]) (heapOf (hM m) τ) _
    refine x_L 6 (f' := (403, [(13, .int ((0 : Int32) + (1 : Int32))), (11, .int (((1013 : Int32) * (((1013 : Int32) * (((1013 : Int32) * (((1009 : Int32) * (((1009 : Int32) * (((1009 : Int32) * (nI (soS M 2))) + (M 48))) + (M 49))) + (M 50))) + (ocv P M 0 0))) + (ocv P M 0 1))) + (ocv P M 1 0))), (12, .int ((0 : Int32) + (1 : Int32))), (0, .retAddr 0), (1, .ref 0), (2, .int (nI A)), (3, .int (nI B)), (4, .ref 151), (9, .int (nI 0))], [.int (2 : Int32), .int ((0 : Int32) + (1 : Int32))])) rfl ?_
    refine x_icm false rfl (by decide) ?_
    refine x_L 6 (f' := (417, [(13, .int ((0 : Int32) + (1 : Int32))), (11, .int (((1013 : Int32) * (((1013 : Int32) * (((1013 : Int32) * (((1009 : Int32) * (((1009 : Int32) * (((1009 : Int32) * (nI (soS M 2))) + (M 48))) + (M 49))) + (M 50))) + (ocv P M 0 0))) + (ocv P M 0 1))) + (ocv P M 1 0))), (12, .int ((0 : Int32) + (1 : Int32))), (0, .retAddr 0), (1, .ref 0), (2, .int (nI A)), (3, .int (nI B)), (4, .ref 151), (9, .int (nI 0))], [.int ((0 : Int32) + (1 : Int32)), .int ((0 : Int32) + (1 : Int32)), .ref 0, .int ((1013 : Int32) * (((1013 : Int32) * (((1013 : Int32) * (((1013 : Int32) * (((1009 : Int32) * (((1009 : Int32) * (((1009 : Int32) * (nI (soS M 2))) + (M 48))) + (M 49))) + (M 50))) + (ocv P M 0 0))) + (ocv P M 0 1))) + (ocv P M 1 0)))])) rfl ?_
    refine x_virt 211 rfl rfl ix_X11_local rfl (q_recv_spec (show q_recv 11 (.ref 0) = true from rfl)) (Nat.le_of_ble_eq_true rfl) (qev_pev 300 _ _ _ _ _ (loc 1 1 _ _ (by decide) (by decide) rfl rfl)) ?_
    show xW _ en (some .boolean) tb_law (420, [(13, .int ((0 : Int32) + (1 : Int32))), (11, .int (((1013 : Int32) * (((1013 : Int32) * (((1013 : Int32) * (((1009 : Int32) * (((1009 : Int32) * (((1009 : Int32) * (nI (soS M 2))) + (M 48))) + (M 49))) + (M 50))) + (ocv P M 0 0))) + (ocv P M 0 1))) + (ocv P M 1 0))), (12, .int ((0 : Int32) + (1 : Int32))), (0, .retAddr 0), (1, .ref 0), (2, .int (nI A)), (3, .int (nI B)), (4, .ref 151), (9, .int (nI 0))], [.int (ocv P M 1 1), .int ((1013 : Int32) * (((1013 : Int32) * (((1013 : Int32) * (((1013 : Int32) * (((1009 : Int32) * (((1009 : Int32) * (((1009 : Int32) * (nI (soS M 2))) + (M 48))) + (M 49))) + (M 50))) + (ocv P M 0 0))) + (ocv P M 0 1))) + (ocv P M 1 0)))]) (heapOf (hM m) τ) _
    refine x_L 6 (f' := (403, [(13, .int (((0 : Int32) + (1 : Int32)) + (1 : Int32))), (11, .int (((1013 : Int32) * (((1013 : Int32) * (((1013 : Int32) * (((1013 : Int32) * (((1009 : Int32) * (((1009 : Int32) * (((1009 : Int32) * (nI (soS M 2))) + (M 48))) + (M 49))) + (M 50))) + (ocv P M 0 0))) + (ocv P M 0 1))) + (ocv P M 1 0))) + (ocv P M 1 1))), (12, .int ((0 : Int32) + (1 : Int32))), (0, .retAddr 0), (1, .ref 0), (2, .int (nI A)), (3, .int (nI B)), (4, .ref 151), (9, .int (nI 0))], [.int (2 : Int32), .int (((0 : Int32) + (1 : Int32)) + (1 : Int32))])) rfl ?_
    refine x_icm true rfl (by decide) ?_
    refine x_L 4 (f' := (394, [(12, .int (((0 : Int32) + (1 : Int32)) + (1 : Int32))), (13, .int (((0 : Int32) + (1 : Int32)) + (1 : Int32))), (11, .int (((1013 : Int32) * (((1013 : Int32) * (((1013 : Int32) * (((1013 : Int32) * (((1009 : Int32) * (((1009 : Int32) * (((1009 : Int32) * (nI (soS M 2))) + (M 48))) + (M 49))) + (M 50))) + (ocv P M 0 0))) + (ocv P M 0 1))) + (ocv P M 1 0))) + (ocv P M 1 1))), (0, .retAddr 0), (1, .ref 0), (2, .int (nI A)), (3, .int (nI B)), (4, .ref 151), (9, .int (nI 0))], [.int (2 : Int32), .int (((0 : Int32) + (1 : Int32)) + (1 : Int32))])) rfl ?_
    refine x_icm true rfl (by decide) ?_
    refine x_L 1 (f' := (437, [(12, .int (((0 : Int32) + (1 : Int32)) + (1 : Int32))), (13, .int (((0 : Int32) + (1 : Int32)) + (1 : Int32))), (11, .int (((1013 : Int32) * (((1013 : Int32) * (((1013 : Int32) * (((1013 : Int32) * (((1009 : Int32) * (((1009 : Int32) * (((1009 : Int32) * (nI (soS M 2))) + (M 48))) + (M 49))) + (M 50))) + (ocv P M 0 0))) + (ocv P M 0 1))) + (ocv P M 1 0))) + (ocv P M 1 1))), (0, .retAddr 0), (1, .ref 0), (2, .int (nI A)), (3, .int (nI B)), (4, .ref 151), (9, .int (nI 0))], [.int (nI 0)])) rfl ?_
    refine x_ifz false rfl (by decide) ?_
    refine x_L 3 (f' := (445, [(12, .int (((0 : Int32) + (1 : Int32)) + (1 : Int32))), (13, .int (((0 : Int32) + (1 : Int32)) + (1 : Int32))), (11, .int (((1013 : Int32) * (((1013 : Int32) * (((1013 : Int32) * (((1013 : Int32) * (((1009 : Int32) * (((1009 : Int32) * (((1009 : Int32) * (nI (soS M 2))) + (M 48))) + (M 49))) + (M 50))) + (ocv P M 0 0))) + (ocv P M 0 1))) + (ocv P M 1 0))) + (ocv P M 1 1))), (0, .retAddr 0), (1, .ref 0), (2, .int (nI A)), (3, .int (nI B)), (4, .ref 151), (9, .int (nI 0))], [.int (((1013 : Int32) * (((1013 : Int32) * (((1013 : Int32) * (((1013 : Int32) * (((1009 : Int32) * (((1009 : Int32) * (((1009 : Int32) * (nI (soS M 2))) + (M 48))) + (M 49))) + (M 50))) + (ocv P M 0 0))) + (ocv P M 0 1))) + (ocv P M 1 0))) + (ocv P M 1 1)), .int (nI B), .ref 151])) rfl ?_
    refine x_stat 442 rfl rfl rfl ix_L_isIn rfl (Nat.le_of_ble_eq_true rfl) (ei) ?_
    show xW _ en (some .boolean) tb_law (448, [(12, .int (((0 : Int32) + (1 : Int32)) + (1 : Int32))), (13, .int (((0 : Int32) + (1 : Int32)) + (1 : Int32))), (11, .int (((1013 : Int32) * (((1013 : Int32) * (((1013 : Int32) * (((1013 : Int32) * (((1009 : Int32) * (((1009 : Int32) * (((1009 : Int32) * (nI (soS M 2))) + (M 48))) + (M 49))) + (M 50))) + (ocv P M 0 0))) + (ocv P M 0 1))) + (ocv P M 1 0))) + (ocv P M 1 1))), (0, .retAddr 0), (1, .ref 0), (2, .int (nI A)), (3, .int (nI B)), (4, .ref 151), (9, .int (nI 0))], [.int (1 : Int32)]) (heapOf (hM m) τ) _
    refine x_ifz true rfl (by decide) ?_
    exact x_sub (qsubL [3, 4, 5, 6, 7] rfl (ks := [12, 13, 11, 0, 1, 2, 3, 4, 9]) rfl (by decide)) k
  rw [so_end hz] at fin
  have mid : ¬ (M 0 = 4 ∧ M 1 = 4) → xW (pev msL en 300) en (some .boolean) tb_law (331, [(0, .retAddr 0), (1, .ref 0), (2, .int (nI A)), (3, .int (nI B)), (4, .ref 151), (9, .int (nI 0))], []) (heapOf (hM m) τ) (some (.int 1), h') := by
    intro hn
    rw [if_neg hn] at fin
    refine x_L 3 (f' := (334, [(0, .retAddr 0), (1, .ref 0), (2, .int (nI A)), (3, .int (nI B)), (4, .ref 151), (9, .int (nI 0))], [.int (0 : Int32), .int (0 : Int32), .ref 0])) rfl ?_
    refine x_virt 210 rfl rfl ix_X11_thread rfl (q_recv_spec (show q_recv 11 (.ref 0) = true from rfl)) (Nat.le_of_ble_eq_true rfl) (qev_pev 300 _ _ _ _ _ (thr 0 _ (by decide) rfl)) ?_
    show xW _ en (some .boolean) tb_law (337, [(0, .retAddr 0), (1, .ref 0), (2, .int (nI A)), (3, .int (nI B)), (4, .ref 151), (9, .int (nI 0))], [.int (M 0)]) (heapOf (hM m) τ) _
    refine x_L 1 (f' := (338, [(0, .retAddr 0), (1, .ref 0), (2, .int (nI A)), (3, .int (nI B)), (4, .ref 151), (9, .int (nI 0))], [.int (5 : Int32), .int (M 0)])) rfl ?_
    by_cases a : M 0 = 5
    · rw [if_pos (Or.inl a)] at fin
      refine x_icm true rfl (decide_eq_true a) ?_
      refine x_L 2 (f' := (356, [(0, .retAddr 0), (1, .ref 0), (2, .int (nI A)), (3, .int (nI B)), (4, .ref 151), (9, .int (nI 0))], [.int (2 : Int32)])) rfl ?_
      exact fin
    · skip
      refine x_icm false rfl (decide_eq_false a) ?_
      refine x_L 3 (f' := (344, [(0, .retAddr 0), (1, .ref 0), (2, .int (nI A)), (3, .int (nI B)), (4, .ref 151), (9, .int (nI 0))], [.int (0 : Int32), .int (1 : Int32), .ref 0])) rfl ?_
      refine x_virt 210 rfl rfl ix_X11_thread rfl (q_recv_spec (show q_recv 11 (.ref 0) = true from rfl)) (Nat.le_of_ble_eq_true rfl) (qev_pev 300 _ _ _ _ _ (thr 1 _ (by decide) rfl)) ?_
      show xW _ en (some .boolean) tb_law (347, [(0, .retAddr 0), (1, .ref 0), (2, .int (nI A)), (3, .int (nI B)), (4, .ref 151), (9, .int (nI 0))], [.int (M 1)]) (heapOf (hM m) τ) _
      refine x_L 1 (f' := (348, [(0, .retAddr 0), (1, .ref 0), (2, .int (nI A)), (3, .int (nI B)), (4, .ref 151), (9, .int (nI 0))], [.int (5 : Int32), .int (M 1)])) rfl ?_
      by_cases b : M 1 = 5
      · rw [if_pos (Or.inr b)] at fin
        refine x_icm false rfl (decide_eq_false (not_not_intro b)) ?_
        refine x_L 2 (f' := (356, [(0, .retAddr 0), (1, .ref 0), (2, .int (nI A)), (3, .int (nI B)), (4, .ref 151), (9, .int (nI 0))], [.int (2 : Int32)])) rfl ?_
        exact fin
      · rw [if_neg (show ¬ (M 0 = 5 ∨ M 1 = 5) from fun z => by rcases z with z | z; exact a z; exact b z)] at fin
        refine x_icm true rfl (decide_eq_true b) ?_
        refine x_L 1 (f' := (356, [(0, .retAddr 0), (1, .ref 0), (2, .int (nI A)), (3, .int (nI B)), (4, .ref 151), (9, .int (nI 0))], [.int (1 : Int32)])) rfl ?_
        exact fin
  refine x_L 3 (f' := (310, [(0, .retAddr 0), (1, .ref 0), (2, .int (nI A)), (3, .int (nI B)), (4, .ref 151), (9, .int (nI 0))], [.int (0 : Int32), .int (0 : Int32), .ref 0])) rfl ?_
  refine x_virt 210 rfl rfl ix_X11_thread rfl (q_recv_spec (show q_recv 11 (.ref 0) = true from rfl)) (Nat.le_of_ble_eq_true rfl) (qev_pev 300 _ _ _ _ _ (thr 0 _ (by decide) rfl)) ?_
  show xW _ en (some .boolean) tb_law (313, [(0, .retAddr 0), (1, .ref 0), (2, .int (nI A)), (3, .int (nI B)), (4, .ref 151), (9, .int (nI 0))], [.int (M 0)]) (heapOf (hM m) τ) _
  refine x_L 1 (f' := (314, [(0, .retAddr 0), (1, .ref 0), (2, .int (nI A)), (3, .int (nI B)), (4, .ref 151), (9, .int (nI 0))], [.int (4 : Int32), .int (M 0)])) rfl ?_
  by_cases c : M 0 = 4
  · skip
    refine x_icm false rfl (decide_eq_false (not_not_intro c)) ?_
    refine x_L 3 (f' := (320, [(0, .retAddr 0), (1, .ref 0), (2, .int (nI A)), (3, .int (nI B)), (4, .ref 151), (9, .int (nI 0))], [.int (0 : Int32), .int (1 : Int32), .ref 0])) rfl ?_
    refine x_virt 210 rfl rfl ix_X11_thread rfl (q_recv_spec (show q_recv 11 (.ref 0) = true from rfl)) (Nat.le_of_ble_eq_true rfl) (qev_pev 300 _ _ _ _ _ (thr 1 _ (by decide) rfl)) ?_
    show xW _ en (some .boolean) tb_law (323, [(0, .retAddr 0), (1, .ref 0), (2, .int (nI A)), (3, .int (nI B)), (4, .ref 151), (9, .int (nI 0))], [.int (M 1)]) (heapOf (hM m) τ) _
    refine x_L 1 (f' := (324, [(0, .retAddr 0), (1, .ref 0), (2, .int (nI A)), (3, .int (nI B)), (4, .ref 151), (9, .int (nI 0))], [.int (4 : Int32), .int (M 1)])) rfl ?_
    by_cases d : M 1 = 4
    · rw [if_pos ⟨c, d⟩] at fin
      refine x_icm false rfl (decide_eq_false (not_not_intro d)) ?_
      refine x_L 2 (f' := (356, [(0, .retAddr 0), (1, .ref 0), (2, .int (nI A)), (3, .int (nI B)), (4, .ref 151), (9, .int (nI 0))], [.int (0 : Int32)])) rfl ?_
      exact fin
    · have mid := mid (fun z => d z.2)
      refine x_icm true rfl (decide_eq_true d) ?_
      exact mid
  · have mid := mid (fun z => c z.1)
    refine x_icm true rfl (decide_eq_true c) ?_
    exact mid
end LWJ
