/-! THE LAW'S WALK: fewer turns. -/
section LWG
variable {en : pN} {N : Nat} {P : Nat → fI} {m : Nat → Int32} {A B : Nat} {X Y : xT}
/-- what the law needs of the class to ask for outcomes -/
theorem BS.h9 {τ : qS} (hb : BS P τ) (hP : PV P 3 2 2 N) : τ.1 11 9 = nI 3 ∧ τ.1 11 11 = nI 2 ∧ ∀ t, t < 2 → τ.1 14 t = nI (lct P t) := ⟨(congrFun (hb.1 0 (by decide)) 9).trans hP.1.1, (congrFun (hb.1 0 (by decide)) 11).trans hP.2.2.1.1, fun t ht => by
  rw [show τ.1 14 t = P 3 t from congrFun (hb.1 3 (by decide)) t]
  exact (hP.2.2.2.2.2 t ht).2.1⟩
set_option maxRecDepth 100000 in
set_option maxHeartbeats 4000000 in
theorem lw_G (hG : GP P 3 2 N) (hX : expl P 0 3 2 2 false = some X) (hY : expl P 0 3 2 2 true = some Y) (hB1 : (outL P 0 2 (xS X) (xN X)).length = B) (hB : B ≤ 60) (hm : ∀ i, i < (outL P 0 2 (xS X) (xN X)).length → m i = oV P (xS X (oK P 0 2 X i)))
    (hH : ∀ τ : qS, BS P τ → τ.1 113 = (fun _ => 0) → LG en 239 [(0, .retAddr 0), (1, .ref 0), (2, .int (nI A)), (3, .int (nI B)), (4, .ref 151)] (heapOf (hM m) τ)) :
    ∀ (j i : Nat) (τ : qS), i + j = B → EXx P 0 3 2 2 N 11 true Y τ → BS P τ → τ.1 113 = (fun _ => 0) → LG en 210 [(0, .retAddr 0), (1, .ref 0), (2, .int (nI A)), (3, .int (nI B)), (4, .ref 151), (9, .int (nI i))] (heapOf (hM m) τ) := by
  obtain ⟨-, hYl, hYo⟩ := few_same hG hX hY
  have hVY := (GP.CL hG hY).2
  intro j
  induction j with
  | zero =>
    intro i τ hi hx hb h113
    rw [show i = B from hi]
    obtain ⟨h', hb', k⟩ := hH τ hb h113
    refine ⟨h', hb', ?_⟩
    refine x_L 2 (f' := (213, [(0, .retAddr 0), (1, .ref 0), (2, .int (nI A)), (3, .int (nI B)), (4, .ref 151), (9, .int (nI B))], [.int (nI B), .int (nI B)])) rfl ?_
    refine x_icm true rfl (decide_eq_true (nI_le (Nat.le_refl _) (by omega))) ?_
    exact x_sub (qsubL [0, 1, 2, 3, 4] rfl (ks := [0, 1, 2, 3, 4, 9]) rfl (by decide)) k
  | succ j ih =>
    intro i τ hi hx hb h113
    have hlt : i < B := by omega
    have hlY : i < (outL P 0 2 (xS Y) (xN Y)).length := by rw [hYl, hB1]; exact hlt
    obtain ⟨c9, c11, c14⟩ := hb.h9 hG.1
    obtain ⟨τ1, e1, x1, f1⟩ := x_sum (en := en) (d := 295) hG.1 hVY hx (by decide) c9 c11 c14 hlY
    obtain ⟨h', hb', k⟩ := ih (i + 1) τ1 (by omega) x1 (hb.fo f1) (by rw [f1.1 113 (by decide)]; exact h113)
    obtain ⟨o, ho, eo⟩ := hYo i hlY
    generalize xS Y (oK P 0 2 Y i) = K at e1 eo
    have hin : inS m (oV P K) B = true := by
      refine inS_of (i := o) ?_ B (by rw [← hB1]; exact ho)
      rw [hm o ho, oV_e eo]
    refine ⟨h', hb', ?_⟩
    have ei : pev msL en 300 442 [.ref 151, .int (nI B), .int (oV P K)] (heapOf (hM m) τ1) = some (some (.int (1 : Int32)), heapOf (hM m) τ1) := by
      have := x_isIn (en := en) (d := 299) (m := m) (σ := τ1) (v := oV P K) hB
      rw [hin] at this
      exact this
    refine x_L 2 (f' := (213, [(0, .retAddr 0), (1, .ref 0), (2, .int (nI A)), (3, .int (nI B)), (4, .ref 151), (9, .int (nI i))], [.int (nI B), .int (nI i)])) rfl ?_
    refine x_icm false rfl (decide_eq_false (nI_ge hlt (by omega))) ?_
    refine x_L 4 (f' := (222, [(0, .retAddr 0), (1, .ref 0), (2, .int (nI A)), (3, .int (nI B)), (4, .ref 151), (9, .int (nI i))], [.int (nI i), .ref 0, .int (nI B), .ref 151])) rfl ?_
    refine x_stat 443 rfl rfl rfl ix_L_sum rfl (Nat.le_of_ble_eq_true rfl) (qev_pev 300 _ _ _ _ _ (e1)) ?_
    show xW _ en (some .boolean) tb_law (225, [(0, .retAddr 0), (1, .ref 0), (2, .int (nI A)), (3, .int (nI B)), (4, .ref 151), (9, .int (nI i))], [.int (oV P K), .int (nI B), .ref 151]) (heapOf (hM m) τ1) _
    refine x_stat 442 rfl rfl rfl ix_L_isIn rfl (Nat.le_of_ble_eq_true rfl) (ei) ?_
    show xW _ en (some .boolean) tb_law (228, [(0, .retAddr 0), (1, .ref 0), (2, .int (nI A)), (3, .int (nI B)), (4, .ref 151), (9, .int (nI i))], [.int (1 : Int32)]) (heapOf (hM m) τ1) _
    refine x_ifz true rfl (by decide) ?_
    refine x_L 2 (f' := (210, [(9, .int ((nI i) + (1 : Int32))), (0, .retAddr 0), (1, .ref 0), (2, .int (nI A)), (3, .int (nI B)), (4, .ref 151)], [])) rfl ?_
    rw [nI_1]
    exact x_sub (qsubL [1, 2, 3, 4, 5, 0] rfl (ks := [9, 0, 1, 2, 3, 4]) rfl (by decide)) k
set_option maxRecDepth 100000 in
set_option maxHeartbeats 4000000 in
theorem lw_F (hG : GP P 3 2 N) (hl : lmN P = 400) (hX : expl P 0 3 2 2 false = some X) (hA : xN X = A) (hB1 : (outL P 0 2 (xS X) (xN X)).length = B) (hB : B ≤ 60) (hm : ∀ i, i < (outL P 0 2 (xS X) (xN X)).length → m i = oV P (xS X (oK P 0 2 X i)))
    (hH : ∀ τ : qS, BS P τ → τ.1 113 = (fun _ => 0) → LG en 239 [(0, .retAddr 0), (1, .ref 0), (2, .int (nI A)), (3, .int (nI B)), (4, .ref 151)] (heapOf (hM m) τ)) {τ : qS} (hb : BS P τ) (h113 : τ.1 113 = fun _ => 0) : LG en 173 [(0, .retAddr 0), (1, .ref 0), (2, .int (nI A)), (3, .int (nI B)), (4, .ref 151)] (heapOf (hM m) τ) := by
  obtain ⟨Y, hY⟩ := expl_ok (fw := true) hG (HB_of hG hX)
  have hVX := (GP.CL hG hX).2
  have hlim := @lim_le 0
  obtain ⟨hYn, hYl, -⟩ := few_same hG hX hY
  have px := hb.px hl
  obtain ⟨r, τ1, e1, f1, f11, h3⟩ := x_explore (en := en) (d := 288) (w := 0) (fw := true) (τ := τ) hG.2.1 hG.1 px.1 px.2.1 px.2.2 hb.2.2.1 hG.2.2.2.2 (by decide)
  rcases h3 with ⟨z, -, -⟩ | ⟨Y', z, rr, hXV, hEX⟩
  · rw [hY] at z; cases z
  rw [hY] at z
  obtain rfl := Option.some.inj z
  have e2 := x_explored3 (en := en) (d := 299) hEX
  have e3 := x_explored5 (en := en) (d := 299) hEX
  rw [hYl, hB1] at e2
  obtain ⟨h', hb', k⟩ := lw_G hG hX hY hB1 hB hm hH B 0 τ1 (Nat.zero_add _) hEX (hb.ex f1 f11) (by rw [f1.1 113 (Or.inr (by decide)) (by decide) (by decide) (by decide)]; exact h113)
  refine ⟨h', hb', ?_⟩
  have hxn := hVX.1.2
  rw [rr] at e1
  rw [hA] at hYn hxn
  generalize xN Y = C at e1 hYn
  refine x_L 3 (f' := (176, [(0, .retAddr 0), (1, .ref 0), (2, .int (nI A)), (3, .int (nI B)), (4, .ref 151)], [.int (1 : Int32), .int (0 : Int32), .ref 0])) rfl ?_
  refine x_virt 220 rfl rfl ix_X11_explore rfl (q_recv_spec (show q_recv 11 (.ref 0) = true from rfl)) (Nat.le_of_ble_eq_true rfl) (qev_pev 300 _ _ _ _ _ (e1)) ?_
  show xW _ en (some .boolean) tb_law (179, [(0, .retAddr 0), (1, .ref 0), (2, .int (nI A)), (3, .int (nI B)), (4, .ref 151)], [.int (nI C)]) (heapOf (hM m) τ1) _
  refine x_L 3 (f' := (184, [(8, .int (nI C)), (0, .retAddr 0), (1, .ref 0), (2, .int (nI A)), (3, .int (nI B)), (4, .ref 151)], [.int (nI A), .int (nI C)])) rfl ?_
  refine x_icm false rfl (decide_eq_false (by rw [n_LT (by omega) (by omega)]; omega)) ?_
  refine x_L 2 (f' := (189, [(8, .int (nI C)), (0, .retAddr 0), (1, .ref 0), (2, .int (nI A)), (3, .int (nI B)), (4, .ref 151)], [.int (3 : Int32), .ref 0])) rfl ?_
  refine x_virt 221 rfl rfl ix_X11_explored rfl (q_recv_spec (show q_recv 11 (.ref 0) = true from rfl)) (Nat.le_of_ble_eq_true rfl) (qev_pev 300 _ _ _ _ _ (e2)) ?_
  show xW _ en (some .boolean) tb_law (192, [(8, .int (nI C)), (0, .retAddr 0), (1, .ref 0), (2, .int (nI A)), (3, .int (nI B)), (4, .ref 151)], [.int (nI B)]) (heapOf (hM m) τ1) _
  refine x_L 1 (f' := (193, [(8, .int (nI C)), (0, .retAddr 0), (1, .ref 0), (2, .int (nI A)), (3, .int (nI B)), (4, .ref 151)], [.int (nI B), .int (nI B)])) rfl ?_
  refine x_icm false rfl (decide_eq_false (not_not_intro rfl)) ?_
  refine x_L 2 (f' := (198, [(8, .int (nI C)), (0, .retAddr 0), (1, .ref 0), (2, .int (nI A)), (3, .int (nI B)), (4, .ref 151)], [.int (5 : Int32), .ref 0])) rfl ?_
  refine x_virt 221 rfl rfl ix_X11_explored rfl (q_recv_spec (show q_recv 11 (.ref 0) = true from rfl)) (Nat.le_of_ble_eq_true rfl) (qev_pev 300 _ _ _ _ _ (e3)) ?_
  show xW _ en (some .boolean) tb_law (201, [(8, .int (nI C)), (0, .retAddr 0), (1, .ref 0), (2, .int (nI A)), (3, .int (nI B)), (4, .ref 151)], [.int (1 : Int32)]) (heapOf (hM m) τ1) _
  refine x_L 1 (f' := (202, [(8, .int (nI C)), (0, .retAddr 0), (1, .ref 0), (2, .int (nI A)), (3, .int (nI B)), (4, .ref 151)], [.int (1 : Int32), .int (1 : Int32)])) rfl ?_
  refine x_icm true rfl (by decide) ?_
  refine x_L 2 (f' := (210, [(9, .int (0 : Int32)), (8, .int (nI C)), (0, .retAddr 0), (1, .ref 0), (2, .int (nI A)), (3, .int (nI B)), (4, .ref 151)], [])) rfl ?_
  exact x_sub (qsubL [2, 3, 4, 5, 6, 0] rfl (ks := [9, 8, 0, 1, 2, 3, 4]) rfl (by decide)) k
end LWG
