/-! THE LAW'S WALK: outcomes of the rewritten program. -/
/-- what sound and gained told -/
abbrev SG (P P2 : Nat → fI) (X X2 : xT) (r g : Int32) : Prop := (r = 1 ∧ g = -2 ∧ ∀ j, j < (outL P2 0 2 (xS X2) (xN X2)).length → isO P 0 2 X (xS X2 (oK P2 0 2 X2 j))) ∨ (r = 0 ∧ ∃ k, k < (outL P2 0 2 (xS X2) (xN X2)).length ∧ g = nI k ∧ ∀ j, j < k → isO P 0 2 X (xS X2 (oK P2 0 2 X2 j)))
section LWM
variable {en : pN} {N : Nat} {P P2 : Nat → fI} {τ : qS} {X X2 : xT} {m : Nat → Int32} {A B i : Nat} {r g v : Int32}
theorem inS_O (h3 : ∀ t, t < 2 → P2 3 t = P 3 t) (hm : ∀ i, i < (outL P 0 2 (xS X) (xN X)).length → m i = oV P (xS X (oK P 0 2 X i))) {M : fI} (h : isO P 0 2 X M) : inS m (oV P2 M) (outL P 0 2 (xS X) (xN X)).length = true := by
  obtain ⟨i, hi, e⟩ := h
  refine inS_of (i := i) ?_ _ hi
  rw [hm i hi, oV_P h3, oV_e e]
set_option maxRecDepth 100000 in
set_option maxHeartbeats 4000000 in
theorem lw_M (hG : GP P 3 2 N) (hG2 : GP P2 3 2 N) (h3 : ∀ t, t < 2 → P2 3 t = P 3 t) (hl : lmN P = 400) (hX : expl P 0 3 2 2 false = some X) (hX2 : expl P2 0 3 2 2 false = some X2) (hA : xN X = A) (hB1 : (outL P 0 2 (xS X) (xN X)).length = B) (hB : B ≤ 60) (hm : ∀ i, i < (outL P 0 2 (xS X) (xN X)).length → m i = oV P (xS X (oK P 0 2 X i))) (hs : SG P P2 X X2 r g) :
    ∀ (j i : Nat) (τ : qS), i + j = (outL P2 0 2 (xS X2) (xN X2)).length → EXx P2 0 3 2 2 N 36 false X2 τ → BSr P τ → τ.1 0 14 = g → LG en 573 [(0, .retAddr 0), (1, .ref 0), (2, .int (nI A)), (3, .int (nI B)), (4, .ref 151), (15, .int r), (16, .int (nI i))] (heapOf (hM m) τ) := by
  have hV2 := (GP.CL hG2 hX2).2
  have hC2 : (outL P2 0 2 (xS X2) (xN X2)).length < 2 ^ 31 := by
    have := outL_len (P := P2) (w := 0) (nt := 2) (S := xS X2) (xN X2)
    have hlim := @lim_le 0
    have hxN := hV2.1.2
    omega
  intro j
  induction j with
  | zero =>
    intro i τ hi hx hb hg
    have hi2 : i < 2 ^ 31 := by omega
    obtain ⟨h', hb', k⟩ := lw_N (en := en) (m := m) hG hl hX hA hB1 hb
    refine ⟨h', hb', ?_⟩
    have ex := x_explored3 (en := en) (d := 299) hx
    rw [← hi] at ex
    have ex : qev en 300 221 [.ref 0, .int (3 : Int32)] τ = some (some (.int (nI i)), τ) := ex
    refine x_L 3 (f' := (577, [(0, .retAddr 0), (1, .ref 0), (2, .int (nI A)), (3, .int (nI B)), (4, .ref 151), (15, .int r), (16, .int (nI i))], [.int (3 : Int32), .ref 0, .int (nI i)])) rfl ?_
    refine x_virt 221 rfl rfl ix_X11_explored rfl (q_recv_spec (show q_recv 11 (.ref 0) = true from rfl)) (Nat.le_of_ble_eq_true rfl) (qev_pev 300 _ _ _ _ _ (ex)) ?_
    show xW _ en (some .boolean) tb_law (580, [(0, .retAddr 0), (1, .ref 0), (2, .int (nI A)), (3, .int (nI B)), (4, .ref 151), (15, .int r), (16, .int (nI i))], [.int (nI i), .int (nI i)]) (heapOf (hM m) τ) _
    refine x_icm true rfl (decide_eq_true (nI_le (Nat.le_refl _) hi2)) ?_
    exact x_sub (qsubL [0, 1, 2, 3] rfl (ks := [0, 1, 2, 3, 4, 15, 16]) rfl (by decide)) k
  | succ j ih =>
    intro i τ hi hx hb hg
    have hlt : i < (outL P2 0 2 (xS X2) (xN X2)).length := by omega
    have ec := x_explored3 (en := en) (d := 299) hx
    obtain ⟨τ1, e1, x1, f1⟩ := x_sum (en := en) (d := 295) hG2.1 hV2 hx (by decide) ((congrFun (hb.1 0 (by decide)) 9).trans hG.1.1.1) ((congrFun (hb.1 0 (by decide)) 11).trans hG.1.2.2.1.1) (fun t ht => by
      rw [show τ.1 14 t = P 3 t from congrFun (hb.1 3 (by decide)) t, ← h3 t ht]
      exact (hG2.1.2.2.2.2.2 t ht).2.1) hlt
    have b1 := hb.fo f1
    have g1 : τ1.1 0 14 = g := by rw [f1.1 0 (by decide)]; exact hg
    obtain ⟨h', hb', k⟩ := ih (i + 1) τ1 (by omega) x1 b1 g1
    have eg : qev en 300 237 [.ref 0] τ1 = some (some (.int g), τ1) := by
      have := x_gained (en := en) (d := 299) (s := τ1)
      rw [g1] at this
      exact this
    generalize hK : xS X2 (oK P2 0 2 X2 i) = K at e1
    have key : isO P 0 2 X K → inS m (oV P2 K) B = true := fun h => by rw [← hB1]; exact inS_O h3 hm h
    generalize hbb : inS m (oV P2 K) B = b at key
    have hlt0 := hlt
    generalize (outL P2 0 2 (xS X2) (xN X2)).length = C at ec hlt hC2
    refine ⟨h', hb', ?_⟩
    have ei : pev msL en 300 442 [.ref 151, .int (nI B), .int (oV P2 K)] (heapOf (hM m) τ1) = some (some (.int (bt b)), heapOf (hM m) τ1) := by
      have := x_isIn (en := en) (d := 299) (m := m) (σ := τ1) (v := oV P2 K) hB
      rw [hbb] at this
      exact this
    refine x_L 3 (f' := (577, [(0, .retAddr 0), (1, .ref 0), (2, .int (nI A)), (3, .int (nI B)), (4, .ref 151), (15, .int r), (16, .int (nI i))], [.int (3 : Int32), .ref 0, .int (nI i)])) rfl ?_
    refine x_virt 221 rfl rfl ix_X11_explored rfl (q_recv_spec (show q_recv 11 (.ref 0) = true from rfl)) (Nat.le_of_ble_eq_true rfl) (qev_pev 300 _ _ _ _ _ (ec)) ?_
    show xW _ en (some .boolean) tb_law (580, [(0, .retAddr 0), (1, .ref 0), (2, .int (nI A)), (3, .int (nI B)), (4, .ref 151), (15, .int r), (16, .int (nI i))], [.int (nI C), .int (nI i)]) (heapOf (hM m) τ) _
    refine x_icm false rfl (decide_eq_false (nI_ge hlt hC2)) ?_
    refine x_L 4 (f' := (589, [(0, .retAddr 0), (1, .ref 0), (2, .int (nI A)), (3, .int (nI B)), (4, .ref 151), (15, .int r), (16, .int (nI i))], [.int (nI i), .ref 0, .int (nI B), .ref 151])) rfl ?_
    refine x_stat 443 rfl rfl rfl ix_L_sum rfl (Nat.le_of_ble_eq_true rfl) (qev_pev 300 _ _ _ _ _ (e1)) ?_
    show xW _ en (some .boolean) tb_law (592, [(0, .retAddr 0), (1, .ref 0), (2, .int (nI A)), (3, .int (nI B)), (4, .ref 151), (15, .int r), (16, .int (nI i))], [.int (oV P2 K), .int (nI B), .ref 151]) (heapOf (hM m) τ1) _
    refine x_stat 442 rfl rfl rfl ix_L_isIn rfl (Nat.le_of_ble_eq_true rfl) (ei) ?_
    show xW _ en (some .boolean) tb_law (595, [(0, .retAddr 0), (1, .ref 0), (2, .int (nI A)), (3, .int (nI B)), (4, .ref 151), (15, .int r), (16, .int (nI i))], [.int (bt b)]) (heapOf (hM m) τ1) _
    refine x_L 2 (f' := (599, [(17, .int (bt b)), (0, .retAddr 0), (1, .ref 0), (2, .int (nI A)), (3, .int (nI B)), (4, .ref 151), (15, .int r), (16, .int (nI i))], [.int (bt b)])) rfl ?_
    cases b with
    | true =>
      refine x_ifz true rfl (by decide) ?_
      refine x_L 2 (f' := (573, [(16, .int ((nI i) + (1 : Int32))), (17, .int (bt true)), (0, .retAddr 0), (1, .ref 0), (2, .int (nI A)), (3, .int (nI B)), (4, .ref 151), (15, .int r)], [])) rfl ?_
      rw [nI_1]
      exact x_sub (qsubL [2, 3, 4, 5, 6, 7, 0] rfl (ks := [16, 17, 0, 1, 2, 3, 4, 15]) rfl (by decide)) k
    | false =>
      rcases hs with ⟨r1, g2, hall⟩ | ⟨r0, q, hq, gq, hall⟩
      · have := key (by rw [← hK]; exact hall i hlt0)
        cases this
      have hqi : q ≤ i := by
        rcases Nat.lt_or_ge i q with z | z
        · have := key (by rw [← hK]; exact hall i z)
          cases this
        · exact z
      rw [gq] at eg
      refine x_ifz false rfl (by decide) ?_
      refine x_L 2 (f' := (605, [(17, .int (bt false)), (0, .retAddr 0), (1, .ref 0), (2, .int (nI A)), (3, .int (nI B)), (4, .ref 151), (15, .int r), (16, .int (nI i))], [.int (1 : Int32), .int r])) rfl ?_
      refine x_icm false rfl (decide_eq_false (by rw [r0]; decide)) ?_
      refine x_L 2 (f' := (611, [(17, .int (bt false)), (0, .retAddr 0), (1, .ref 0), (2, .int (nI A)), (3, .int (nI B)), (4, .ref 151), (15, .int r), (16, .int (nI i))], [.ref 0, .int (nI i)])) rfl ?_
      refine x_virt 237 rfl rfl ix_X11_gained rfl (q_recv_spec (show q_recv 11 (.ref 0) = true from rfl)) (Nat.le_of_ble_eq_true rfl) (qev_pev 300 _ _ _ _ _ (eg)) ?_
      show xW _ en (some .boolean) tb_law (614, [(17, .int (bt false)), (0, .retAddr 0), (1, .ref 0), (2, .int (nI A)), (3, .int (nI B)), (4, .ref 151), (15, .int r), (16, .int (nI i))], [.int (nI q), .int (nI i)]) (heapOf (hM m) τ1) _
      refine x_icm true rfl (decide_eq_true (nI_le hqi (by omega))) ?_
      refine x_L 2 (f' := (573, [(16, .int ((nI i) + (1 : Int32))), (17, .int (bt false)), (0, .retAddr 0), (1, .ref 0), (2, .int (nI A)), (3, .int (nI B)), (4, .ref 151), (15, .int r)], [])) rfl ?_
      rw [nI_1]
      exact x_sub (qsubL [2, 3, 4, 5, 6, 7, 0] rfl (ks := [16, 17, 0, 1, 2, 3, 4, 15]) rfl (by decide)) k
end LWM
