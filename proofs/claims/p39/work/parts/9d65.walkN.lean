/-! THE LAW'S WALK: dropped, all turns are as before. -/
section LWN
variable {en : pN} {N : Nat} {P : Nat → fI} {τ : qS} {X : xT} {m : Nat → Int32} {A B : Nat}
set_option maxRecDepth 100000 in
set_option maxHeartbeats 4000000 in
theorem lw_N (hG : GP P 3 2 N) (hl : lmN P = 400) (hX : expl P 0 3 2 2 false = some X) (hA : xN X = A) (hB : (outL P 0 2 (xS X) (xN X)).length = B) (h : BSr P τ) : LG en 625 [(0, .retAddr 0), (1, .ref 0), (2, .int (nI A)), (3, .int (nI B))] (heapOf (hM m) τ) := by
  have e1 := x_drop1 (en := en) (d := 298) h.2.2.2.1 h.2.2.2.2.1 h.2.2.2.2.2
  have o1 : ∀ c, c ≠ 0 → c ≠ 70 → (uI (uI (uI τ 70 17 0) 0 11 0) 0 10 0).1 c = τ.1 c := fun c h0 h7 => (uI_ne h0).trans ((uI_ne h0).trans (uI_ne h7))
  have e17 : (uI (uI (uI τ 70 17 0) 0 11 0) 0 10 0).1 70 17 = 0 := by
    rw [uI_ne (by decide), uI_ne (by decide), g_I, if_pos ⟨rfl, rfl⟩]
  have e09 : ¬ (uI (uI (uI τ 70 17 0) 0 11 0) 0 10 0).1 0 9 = 0 := by
    rw [g_I, if_neg (by decide), g_I, if_neg (by decide), uI_ne (by decide)]
    exact h.2.2.1
  have e2 := x_explored0 (en := en) (d := 299) (a := 0) e17
  obtain ⟨r, τ2, e3, -, -, h3⟩ := x_explore (en := en) (d := 288) (w := 0) (fw := false) (τ := uI (uI (uI τ 70 17 0) 0 11 0) 0 10 0) hG.2.1 hG.1 (fun a ha => by rw [o1 _ (by omega) (by omega)]; exact h.1 a ha) ⟨by omega, fun j hj => by rw [o1 8 (by decide) (by decide)]; exact (h.2.1 j (by omega)).1⟩ (fun j hj => by rw [o1 9 (by decide) (by decide)]; exact (h.2.1 j (by omega)).2) e09 hG.2.2.2.2 (by decide)
  rcases h3 with ⟨z, -, -⟩ | ⟨X', z, rr, hXV, hEX⟩
  · rw [hX] at z; cases z
  rw [hX] at z
  obtain rfl := Option.some.inj z
  have e4 := x_explored3 (en := en) (d := 299) hEX
  rw [rr, hA] at e3
  rw [hB] at e4
  refine ⟨heapOf (hM m) τ2, LG_b, ?_⟩
  refine x_L 1 (f' := (626, [(0, .retAddr 0), (1, .ref 0), (2, .int (nI A)), (3, .int (nI B))], [.ref 0])) rfl ?_
  refine x_virt 235 rfl rfl ix_X11_drop rfl (q_recv_spec (show q_recv 11 (.ref 0) = true from rfl)) (Nat.le_of_ble_eq_true rfl) (qev_pev 300 _ _ _ _ _ (e1)) ?_
  show xW _ en (some .boolean) tb_law (629, [(0, .retAddr 0), (1, .ref 0), (2, .int (nI A)), (3, .int (nI B))], [.int (1 : Int32)]) (heapOf (hM m) (uI (uI (uI τ 70 17 0) 0 11 0) 0 10 0)) _
  refine x_L 1 (f' := (630, [(0, .retAddr 0), (1, .ref 0), (2, .int (nI A)), (3, .int (nI B))], [.int (1 : Int32), .int (1 : Int32)])) rfl ?_
  refine x_icm false rfl (by decide) ?_
  refine x_L 2 (f' := (635, [(0, .retAddr 0), (1, .ref 0), (2, .int (nI A)), (3, .int (nI B))], [.int (0 : Int32), .ref 0])) rfl ?_
  refine x_virt 221 rfl rfl ix_X11_explored rfl (q_recv_spec (show q_recv 11 (.ref 0) = true from rfl)) (Nat.le_of_ble_eq_true rfl) (qev_pev 300 _ _ _ _ _ (e2)) ?_
  show xW _ en (some .boolean) tb_law (638, [(0, .retAddr 0), (1, .ref 0), (2, .int (nI A)), (3, .int (nI B))], [.int (-1 : Int32)]) (heapOf (hM m) (uI (uI (uI τ 70 17 0) 0 11 0) 0 10 0)) _
  refine x_L 1 (f' := (639, [(0, .retAddr 0), (1, .ref 0), (2, .int (nI A)), (3, .int (nI B))], [.int (-1 : Int32), .int (-1 : Int32)])) rfl ?_
  refine x_icm false rfl (by decide) ?_
  refine x_L 3 (f' := (645, [(0, .retAddr 0), (1, .ref 0), (2, .int (nI A)), (3, .int (nI B))], [.int (0 : Int32), .int (0 : Int32), .ref 0])) rfl ?_
  refine x_virt 220 rfl rfl ix_X11_explore rfl (q_recv_spec (show q_recv 11 (.ref 0) = true from rfl)) (Nat.le_of_ble_eq_true rfl) (qev_pev 300 _ _ _ _ _ (e3)) ?_
  show xW _ en (some .boolean) tb_law (648, [(0, .retAddr 0), (1, .ref 0), (2, .int (nI A)), (3, .int (nI B))], [.int (nI A)]) (heapOf (hM m) τ2) _
  refine x_L 1 (f' := (649, [(0, .retAddr 0), (1, .ref 0), (2, .int (nI A)), (3, .int (nI B))], [.int (nI A), .int (nI A)])) rfl ?_
  refine x_icm false rfl (decide_eq_false (not_not_intro rfl)) ?_
  refine x_L 2 (f' := (654, [(0, .retAddr 0), (1, .ref 0), (2, .int (nI A)), (3, .int (nI B))], [.int (3 : Int32), .ref 0])) rfl ?_
  refine x_virt 221 rfl rfl ix_X11_explored rfl (q_recv_spec (show q_recv 11 (.ref 0) = true from rfl)) (Nat.le_of_ble_eq_true rfl) (qev_pev 300 _ _ _ _ _ (e4)) ?_
  show xW _ en (some .boolean) tb_law (657, [(0, .retAddr 0), (1, .ref 0), (2, .int (nI A)), (3, .int (nI B))], [.int (nI B)]) (heapOf (hM m) τ2) _
  refine x_L 1 (f' := (658, [(0, .retAddr 0), (1, .ref 0), (2, .int (nI A)), (3, .int (nI B))], [.int (nI B), .int (nI B)])) rfl ?_
  refine x_icm false rfl (decide_eq_false (not_not_intro rfl)) ?_
  refine x_L 2 (f' := (666, [(0, .retAddr 0), (1, .ref 0), (2, .int (nI A)), (3, .int (nI B))], [.int (1 : Int32)])) rfl ?_
  exact x_ret rfl rfl
end LWN
