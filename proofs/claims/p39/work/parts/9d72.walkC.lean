/-! THE LAW'S WALK: all turns; the outcomes' numbers are kept. -/
section LWC
variable {en : pN} {N a : Nat} {P : Nat → fI} {A B : Nat} {X : xT} {bl : Nat → List Nat} {K th lc : Nat → Nat}
theorem n_m3 (h : a < 2 ^ 31) : ¬ nI a = (-3 : Int32) := fun q => nI_pos h (by rw [q]; decide)
set_option maxRecDepth 100000 in
set_option maxHeartbeats 4000000 in
theorem lw_C (hG : GP P 3 2 N) (hX : expl P 0 3 2 2 false = some X) (hB1 : (outL P 0 2 (xS X) (xN X)).length = B) (hB : B ≤ 30)
    (hD : ∀ (m : Nat → Int32) (τ : qS), (∀ i, i < (outL P 0 2 (xS X) (xN X)).length → m i = oV P (xS X (oK P 0 2 X i))) → EXx P 0 3 2 2 N 11 false X τ → BS P τ → τ.1 113 = (fun _ => 0) → LG en 94 [(0, .retAddr 0), (1, .ref 0), (2, .int (nI A)), (3, .int (nI B)), (4, .ref 151)] (heapOf (hM m) τ)) :
    ∀ (j i : Nat) (m : Nat → Int32) (τ : qS), i + j = B → (∀ o, o < i → m o = oV P (xS X (oK P 0 2 X o))) → EXx P 0 3 2 2 N 11 false X τ → BS P τ → τ.1 113 = (fun _ => 0) → LG en 71 [(0, .retAddr 0), (1, .ref 0), (2, .int (nI A)), (3, .int (nI B)), (4, .ref 151), (5, .int (nI i))] (heapOf (hM m) τ) := by
  have hVX := (GP.CL hG hX).2
  intro j
  induction j with
  | zero =>
    intro i m τ hi hm hx hb h113
    rw [show i = B from hi]
    obtain ⟨h', hb', k⟩ := hD m τ (fun o ho => hm o (by omega)) hx hb h113
    refine ⟨h', hb', ?_⟩
    refine x_L 2 (f' := (74, [(0, .retAddr 0), (1, .ref 0), (2, .int (nI A)), (3, .int (nI B)), (4, .ref 151), (5, .int (nI B))], [.int (nI B), .int (nI B)])) rfl ?_
    refine x_icm true rfl (decide_eq_true (nI_le (Nat.le_refl _) (by omega))) ?_
    exact x_sub (qsubL [0, 1, 2, 3, 4] rfl (ks := [0, 1, 2, 3, 4, 5]) rfl (by decide)) k
  | succ j ih =>
    intro i m τ hi hm hx hb h113
    have hlt : i < B := by omega
    obtain ⟨c9, c11, c14⟩ := hb.h9 hG.1
    obtain ⟨τ1, e1, x1, f1⟩ := x_sum (en := en) (d := 295) hG.1 hVX hx (by decide) c9 c11 c14 (by rw [hB1]; exact hlt)
    have hm1 : ∀ o, o < i + 1 → upd m i (oV P (xS X (oK P 0 2 X i))) o = oV P (xS X (oK P 0 2 X o)) := by
      intro o ho
      by_cases q : o = i
      · rw [q]; exact pk_us
      · rw [pk_un q]; exact hm o (by omega)
    obtain ⟨h', hb', k⟩ := ih (i + 1) _ τ1 (by omega) hm1 x1 (hb.fo f1) (by rw [f1.1 113 (by decide)]; exact h113)
    refine ⟨h', hb', ?_⟩
    generalize oV P (xS X (oK P 0 2 X i)) = v at e1 k
    refine x_L 2 (f' := (74, [(0, .retAddr 0), (1, .ref 0), (2, .int (nI A)), (3, .int (nI B)), (4, .ref 151), (5, .int (nI i))], [.int (nI B), .int (nI i)])) rfl ?_
    refine x_icm false rfl (decide_eq_false (nI_ge hlt (by omega))) ?_
    refine x_L 4 (f' := (84, [(0, .retAddr 0), (1, .ref 0), (2, .int (nI A)), (3, .int (nI B)), (4, .ref 151), (5, .int (nI i))], [.int (nI i), .ref 0, .int (nI i), .ref 151])) rfl ?_
    refine x_stat 443 rfl rfl rfl ix_L_sum rfl (Nat.le_of_ble_eq_true rfl) (qev_pev 300 _ _ _ _ _ (e1)) ?_
    show xW _ en (some .boolean) tb_law (87, [(0, .retAddr 0), (1, .ref 0), (2, .int (nI A)), (3, .int (nI B)), (4, .ref 151), (5, .int (nI i))], [.int v, .int (nI i), .ref 151]) (heapOf (hM m) τ1) _
    refine x_H ((88, [(0, .retAddr 0), (1, .ref 0), (2, .int (nI A)), (3, .int (nI B)), (4, .ref 151), (5, .int (nI i))], []), (heapOf (hM (upd m i v)) τ1)) rfl rfl rfl rfl ?_ ?_
    · simp only [pstepH, hM_c]
      rw [if_pos ⟨show 151 < qNC + 1 by decide, n_in (by omega) (by decide)⟩, n_cl (by omega), hM_set]
    refine x_L 2 (f' := (71, [(5, .int ((nI i) + (1 : Int32))), (0, .retAddr 0), (1, .ref 0), (2, .int (nI A)), (3, .int (nI B)), (4, .ref 151)], [])) rfl ?_
    rw [nI_1]
    exact x_sub (qsubL [1, 2, 3, 4, 5, 0] rfl (ks := [5, 0, 1, 2, 3, 4]) rfl (by decide)) k
set_option maxRecDepth 100000 in
set_option maxHeartbeats 4000000 in
theorem lw_B (hG : GP P 3 2 N) (hX : expl P 0 3 2 2 false = some X) (hB1 : (outL P 0 2 (xS X) (xN X)).length = B) (hB : B ≤ 30)
    (hD : ∀ (m : Nat → Int32) (τ : qS), (∀ i, i < (outL P 0 2 (xS X) (xN X)).length → m i = oV P (xS X (oK P 0 2 X i))) → EXx P 0 3 2 2 N 11 false X τ → BS P τ → τ.1 113 = (fun _ => 0) → LG en 94 [(0, .retAddr 0), (1, .ref 0), (2, .int (nI A)), (3, .int (nI B)), (4, .ref 151)] (heapOf (hM m) τ)) {τ : qS} (hx : EXx P 0 3 2 2 N 11 false X τ) (hb : BS P τ) (h113 : τ.1 113 = fun _ => 0) : LG en 62 [(0, .retAddr 0), (1, .ref 0), (2, .int (nI A)), (3, .int (nI B))] (heapOf hX0 τ) := by
  obtain ⟨h', hb', k⟩ := lw_C hG hX hB1 hB hD B 0 (fun _ => 0) τ (Nat.zero_add _) (fun o ho => absurd ho (Nat.not_lt_zero o)) hx hb h113
  refine ⟨h', hb', ?_⟩
  refine x_L 1 (f' := (64, [(0, .retAddr 0), (1, .ref 0), (2, .int (nI A)), (3, .int (nI B))], [.int (64 : Int32)])) rfl ?_
  refine x_H ((66, [(0, .retAddr 0), (1, .ref 0), (2, .int (nI A)), (3, .int (nI B))], [.ref 151]), (heapOf (hM (fun _ => 0)) τ)) rfl rfl rfl rfl ?_ ?_
  · rw [← hM_new]
    rfl
  refine x_L 3 (f' := (71, [(5, .int (0 : Int32)), (4, .ref 151), (0, .retAddr 0), (1, .ref 0), (2, .int (nI A)), (3, .int (nI B))], [])) rfl ?_
  exact x_sub (qsubL [2, 3, 4, 5, 1, 0] rfl (ks := [5, 4, 0, 1, 2, 3]) rfl (by decide)) k
-- all turns
set_option maxRecDepth 100000 in
set_option maxHeartbeats 4000000 in
theorem lw_A (hP : PRG P 3 2 N lc bl K th (fun _ => false)) (hl : lmN P = 400) (hN : 1 ≤ N)
    (hB : ∀ (X : xT) (A B : Nat) (τ : qS), expl P 0 3 2 2 false = some X → xN X = A → (outL P 0 2 (xS X) (xN X)).length = B → B ≤ 30 → EXx P 0 3 2 2 N 11 false X τ → BS P τ → τ.1 113 = (fun _ => 0) → LG en 62 [(0, .retAddr 0), (1, .ref 0), (2, .int (nI A)), (3, .int (nI B))] (heapOf hX0 τ)) {τ : qS} (hb : BS P τ) (h113 : τ.1 113 = fun _ => 0) : LG en 20 [(0, .retAddr 0), (1, .ref 0)] (heapOf hX0 τ) := by
  obtain ⟨hG, -, -⟩ := PRG_good hP (by omega)
  have px := hb.px hl
  obtain ⟨r1, τ1, e1, f1, f11, h3⟩ := x_explore (en := en) (d := 288) (w := 0) (fw := false) (τ := τ) hG.2.1 hG.1 px.1 px.2.1 px.2.2 hb.2.2.1 hG.2.2.2.2 (by decide)
  have go : ∀ (r2 : Int32) (R : pR), qev en 300 221 [.ref 0, .int (3 : Int32)] τ1 = some (some (.int r2), τ1) → xW (pev msL en 300) en (some .boolean) tb_law (35, [(3, .int r2), (2, .int r1), (0, .retAddr 0), (1, .ref 0)], [.int (2 : Int32), .int r1]) (heapOf hX0 τ1) R → xW (pev msL en 300) en (some .boolean) tb_law (20, [(0, .retAddr 0), (1, .ref 0)], []) (heapOf hX0 τ) R := by
    intro r2 R e2 k
    refine x_L 3 (f' := (23, [(0, .retAddr 0), (1, .ref 0)], [.int (0 : Int32), .int (0 : Int32), .ref 0])) rfl ?_
    refine x_virt 220 rfl rfl ix_X11_explore rfl (q_recv_spec (show q_recv 11 (.ref 0) = true from rfl)) (Nat.le_of_ble_eq_true rfl) (qev_pev 300 _ _ _ _ _ (e1)) ?_
    show xW _ en (some .boolean) tb_law (26, [(0, .retAddr 0), (1, .ref 0)], [.int r1]) (heapOf hX0 τ1) _
    refine x_L 3 (f' := (29, [(2, .int r1), (0, .retAddr 0), (1, .ref 0)], [.int (3 : Int32), .ref 0])) rfl ?_
    refine x_virt 221 rfl rfl ix_X11_explored rfl (q_recv_spec (show q_recv 11 (.ref 0) = true from rfl)) (Nat.le_of_ble_eq_true rfl) (qev_pev 300 _ _ _ _ _ (e2)) ?_
    show xW _ en (some .boolean) tb_law (32, [(2, .int r1), (0, .retAddr 0), (1, .ref 0)], [.int r2]) (heapOf hX0 τ1) _
    refine x_L 3 (f' := (35, [(3, .int r2), (2, .int r1), (0, .retAddr 0), (1, .ref 0)], [.int (2 : Int32), .int r1])) rfl ?_
    exact k
  rcases h3 with ⟨hX, rr, h17⟩ | ⟨X, hX, rr, hXV, hEX⟩
  · have e2 := x_explored0 (en := en) (d := 299) (a := 3) h17
    refine ⟨heapOf hX0 τ1, LG_b0, go _ _ e2 ?_⟩
    rw [rr]
    refine x_icm true rfl (by decide) ?_
    refine x_L 2 (f' := (47, [(3, .int (-1 : Int32)), (2, .int (-3 : Int32)), (0, .retAddr 0), (1, .ref 0)], [.int (-3 : Int32), .int (-3 : Int32)])) rfl ?_
    refine x_icm true rfl (by decide) ?_
    refine x_L 2 (f' := (61, [(3, .int (-1 : Int32)), (2, .int (-3 : Int32)), (0, .retAddr 0), (1, .ref 0)], [.int (1 : Int32)])) rfl ?_
    exact x_ret rfl rfl
  · have e2 := x_explored3 (en := en) (d := 299) hEX
    have h2 := two_sts hP (by omega) hN hX
    have hlim := @lim_le 0
    have hxN := hXV.1.2
    have hol := outL_len (P := P) (w := 0) (nt := 2) (S := xS X) (xN X)
    have hk := hB X (xN X) _ τ1 hX rfl rfl
    by_cases q : (outL P 0 2 (xS X) (xN X)).length ≤ 30
    · obtain ⟨h', hb', k⟩ := hk q hEX (hb.ex f1 f11) (by rw [f1.1 113 (Or.inr (by decide)) (by decide) (by decide) (by decide)]; exact h113)
      refine ⟨h', hb', go _ _ e2 ?_⟩
      rw [rr]
      refine x_icm false rfl (decide_eq_false (by rw [show (2 : Int32) = nI 2 from rfl, n_LT (by omega) (by decide)]; omega)) ?_
      refine x_L 2 (f' := (41, [(3, .int (nI (outL P 0 2 (xS X) (xN X)).length)), (2, .int (nI (xN X))), (0, .retAddr 0), (1, .ref 0)], [.int (30 : Int32), .int (nI (outL P 0 2 (xS X) (xN X)).length)])) rfl ?_
      refine x_icm true rfl (decide_eq_true (by rw [show (30 : Int32) = nI 30 from rfl, n_LE (by omega) (by decide)]; exact q)) ?_
      exact x_sub (qsubL [2, 3, 1, 0] rfl (ks := [3, 2, 0, 1]) rfl (by decide)) k
    · refine ⟨heapOf hX0 τ1, LG_b0, go _ _ e2 ?_⟩
      rw [rr]
      refine x_icm false rfl (decide_eq_false (by rw [show (2 : Int32) = nI 2 from rfl, n_LT (by omega) (by decide)]; omega)) ?_
      refine x_L 2 (f' := (41, [(3, .int (nI (outL P 0 2 (xS X) (xN X)).length)), (2, .int (nI (xN X))), (0, .retAddr 0), (1, .ref 0)], [.int (30 : Int32), .int (nI (outL P 0 2 (xS X) (xN X)).length)])) rfl ?_
      refine x_icm false rfl (decide_eq_false (by rw [show (30 : Int32) = nI 30 from rfl, n_LE (by omega) (by decide)]; exact q)) ?_
      refine x_L 2 (f' := (47, [(3, .int (nI (outL P 0 2 (xS X) (xN X)).length)), (2, .int (nI (xN X))), (0, .retAddr 0), (1, .ref 0)], [.int (-3 : Int32), .int (nI (xN X))])) rfl ?_
      refine x_icm false rfl (decide_eq_false (n_m3 (by omega))) ?_
      refine x_L 2 (f' := (53, [(3, .int (nI (outL P 0 2 (xS X) (xN X)).length)), (2, .int (nI (xN X))), (0, .retAddr 0), (1, .ref 0)], [.int (30 : Int32), .int (nI (outL P 0 2 (xS X) (xN X)).length)])) rfl ?_
      refine x_icm false rfl (decide_eq_false (by rw [show (30 : Int32) = nI 30 from rfl, n_LE (by omega) (by decide)]; exact q)) ?_
      refine x_L 2 (f' := (61, [(3, .int (nI (outL P 0 2 (xS X) (xN X)).length)), (2, .int (nI (xN X))), (0, .retAddr 0), (1, .ref 0)], [.int (1 : Int32)])) rfl ?_
      exact x_ret rfl rfl
end LWC
