/-! THE LAW'S WALK: a line is rewritten. -/
section LWL
variable {en : pN} {N z : Nat} {P : Nat → fI} {τ τ0 : qS} {X : xT} {m : Nat → Int32} {A B i : Nat} {r g v : Int32} {bl : Nat → List Nat} {K th lc : Nat → Nat}
theorem n_rem3 (hz : z < 2 ^ 31) : nI z - nI z / (3 : Int32) * (3 : Int32) = nI (z % 3) := n_rem (j := 3) hz (by decide)
/-- the program read stands still: its tree too -/
theorem BS.trs (h0 : ∀ a, a < 25 → τ0.1 (11 + a) = P a) (h : BS P τ) (hT : TRs τ0 2 N bl K th) : TRs τ 2 N bl K th := by
  have o : ∀ c, 11 ≤ c → c ≤ 35 → τ.1 c = τ0.1 c := fun c h1 h2 => by
    have a := h.1 (c - 11) (by omega)
    have b := h0 (c - 11) (by omega)
    rw [show 11 + (c - 11) = c by omega] at a b
    rw [a, b]
  exact TRs_cg hT (by decide) (fun u _ => by rw [o 16 (by decide) (by decide)]) (fun a ha i _ => by rw [o a (by omega) (by omega)]) (fun p _ _ => by rw [o 18 (by decide) (by decide)])
theorem BS.prg (h : BS P τ) (h27 : P 27 = fun _ => nI 400) (hP : PRG P 3 2 N lc bl K th (fun _ => false)) : PRG (rdP τ 11) 3 2 N lc bl K th (fun _ => false) := by
  refine PRG_cg hP fun a ha => ?_
  unfold rdP
  by_cases q : a = 25
  · rw [if_pos q, q]; exact h.2.1.1
  rw [if_neg q]
  by_cases q : a = 26
  · rw [if_pos q, q]; exact h.2.1.2
  rw [if_neg q]
  by_cases q : a = 27
  · rw [if_pos q, q]; exact h27.symm
  rw [if_neg q]
  exact h.1 a (by omega)
set_option maxRecDepth 100000 in
set_option maxHeartbeats 4000000 in
theorem lw_L (hn : en.1 < 2 ^ 31) (hP : PRG P 3 2 N lc bl K th (fun _ => false)) (h27 : P 27 = fun _ => nI 400) (hN1 : 1 ≤ N) (h0 : ∀ a, a < 25 → τ0.1 (11 + a) = P a) (hT : TRs τ0 2 N bl K th) (hX : expl P 0 3 2 2 false = some X) (hA : xN X = A) (hB1 : (outL P 0 2 (xS X) (xN X)).length = B) (hB : B ≤ 60) (hm : ∀ i, i < (outL P 0 2 (xS X) (xN X)).length → m i = oV P (xS X (oK P 0 2 X i))) (hb : BS P τ) : LG en 453 [(0, .retAddr 0), (1, .ref 0), (2, .int (nI A)), (3, .int (nI B)), (4, .ref 151)] (heapOf (hM m) τ) := by
  have hl : lmN P = 400 := by
    show clp (P 27 0) = 400
    rw [h27]
    exact n_clp (by decide)
  obtain ⟨hG, hk, hc⟩ := PRG_good hP (by omega)
  have hN := hP.1.2.2.2.2
  have hV0 := (GP.CL hG hX).2
  have h12 : τ.1 11 12 = nI N := (congrFun (hb.1 0 (by decide)) 12).trans hP.1.2.2.2.1
  obtain ⟨U, hU1, hU⟩ := n_mask (x := ceS en 5) (M := 2147483647) (2147483647 : Int32) (by decide)
  obtain ⟨V, hV1, hV⟩ := n_mask (x := ceS en 5 >>> ((3 : Int32) &&& 31)) (M := 134217727) (134217727 : Int32) (by decide)
  have hU2 : U < 2 ^ 31 := by omega
  have hV2 : V < 2 ^ 31 := by omega
  have hN0 : ¬ nI N = 0 := fun z => by
    have := (nI_eq (a := N) (b := 0) (by omega) (by decide)).mp z
    omega
  have hW : U % 3 ≤ 2 := by omega
  have hI : V % N < N := Nat.mod_lt _ hN1
  have ec := x_count6 (en := en) (d := 299) hb.2.2.1 h12
  have pr := hb.prg h27 hP
  have pt := hb.trs h0 hT
  have go : ∀ (R : pR), xW (pev msL en 300) en (some .boolean) tb_law (489, [(13, .int (nI (V % N))), (12, .int (nI (U % 3))), (0, .retAddr 0), (1, .ref 0), (2, .int (nI A)), (3, .int (nI B)), (4, .ref 151)], [.int (nI (V % N)), .int (nI (U % 3)), .ref 0]) (heapOf (hM m) τ) R → xW (pev msL en 300) en (some .boolean) tb_law (453, [(0, .retAddr 0), (1, .ref 0), (2, .int (nI A)), (3, .int (nI B)), (4, .ref 151)], []) (heapOf (hM m) τ) R := by
    intro R k
    refine x_L 2 (f' := (455, [(0, .retAddr 0), (1, .ref 0), (2, .int (nI A)), (3, .int (nI B)), (4, .ref 151)], [.int (5 : Int32), .retAddr 0])) rfl ?_
    refine x_stat 438 rfl rfl rfl ix_L_cell rfl (Nat.le_of_ble_eq_true rfl) (qev_pev 300 _ _ _ _ _ (x_cell (d := 299) (k := 5) (by decide) hn)) ?_
    show xW _ en (some .boolean) tb_law (458, [(0, .retAddr 0), (1, .ref 0), (2, .int (nI A)), (3, .int (nI B)), (4, .ref 151)], [.int (ceS en 5)]) (heapOf (hM m) τ) _
    refine x_H ((460, [(0, .retAddr 0), (1, .ref 0), (2, .int (nI A)), (3, .int (nI B)), (4, .ref 151)], [.int (2147483647 : Int32), .int (ceS en 5)]), (heapOf (hM m) τ)) rfl rfl rfl rfl rfl ?_
    refine x_L 1 (f' := (461, [(0, .retAddr 0), (1, .ref 0), (2, .int (nI A)), (3, .int (nI B)), (4, .ref 151)], [.int ((ceS en 5) &&& (2147483647 : Int32))])) rfl ?_
    rw [hU]
    refine x_L 2 (f' := (463, [(0, .retAddr 0), (1, .ref 0), (2, .int (nI A)), (3, .int (nI B)), (4, .ref 151)], [.int ((nI U) - (nI U) / (3 : Int32) * (3 : Int32))])) rfl ?_
    rw [n_rem3 hU2]
    refine x_L 3 (f' := (467, [(12, .int (nI (U % 3))), (0, .retAddr 0), (1, .ref 0), (2, .int (nI A)), (3, .int (nI B)), (4, .ref 151)], [.int (5 : Int32), .retAddr 0])) rfl ?_
    refine x_stat 438 rfl rfl rfl ix_L_cell rfl (Nat.le_of_ble_eq_true rfl) (qev_pev 300 _ _ _ _ _ (x_cell (d := 299) (k := 5) (by decide) hn)) ?_
    show xW _ en (some .boolean) tb_law (470, [(12, .int (nI (U % 3))), (0, .retAddr 0), (1, .ref 0), (2, .int (nI A)), (3, .int (nI B)), (4, .ref 151)], [.int (ceS en 5)]) (heapOf (hM m) τ) _
    refine x_L 2 (f' := (472, [(12, .int (nI (U % 3))), (0, .retAddr 0), (1, .ref 0), (2, .int (nI A)), (3, .int (nI B)), (4, .ref 151)], [.int ((ceS en 5) >>> ((3 : Int32) &&& 31))])) rfl ?_
    refine x_H ((474, [(12, .int (nI (U % 3))), (0, .retAddr 0), (1, .ref 0), (2, .int (nI A)), (3, .int (nI B)), (4, .ref 151)], [.int (134217727 : Int32), .int ((ceS en 5) >>> ((3 : Int32) &&& 31))]), (heapOf (hM m) τ)) rfl rfl rfl rfl rfl ?_
    refine x_L 1 (f' := (475, [(12, .int (nI (U % 3))), (0, .retAddr 0), (1, .ref 0), (2, .int (nI A)), (3, .int (nI B)), (4, .ref 151)], [.int (((ceS en 5) >>> ((3 : Int32) &&& 31)) &&& (134217727 : Int32))])) rfl ?_
    rw [hV]
    refine x_L 2 (f' := (478, [(12, .int (nI (U % 3))), (0, .retAddr 0), (1, .ref 0), (2, .int (nI A)), (3, .int (nI B)), (4, .ref 151)], [.int (6 : Int32), .ref 0, .int (nI V)])) rfl ?_
    refine x_virt 205 rfl rfl ix_X11_count rfl (q_recv_spec (show q_recv 11 (.ref 0) = true from rfl)) (Nat.le_of_ble_eq_true rfl) (qev_pev 300 _ _ _ _ _ (ec)) ?_
    show xW _ en (some .boolean) tb_law (481, [(12, .int (nI (U % 3))), (0, .retAddr 0), (1, .ref 0), (2, .int (nI A)), (3, .int (nI B)), (4, .ref 151)], [.int (nI N), .int (nI V)]) (heapOf (hM m) τ) _
    refine x_rem (hN0) rfl ?_
    rw [n_rem hV2 (by omega)]
    refine x_L 4 (f' := (489, [(13, .int (nI (V % N))), (12, .int (nI (U % 3))), (0, .retAddr 0), (1, .ref 0), (2, .int (nI A)), (3, .int (nI B)), (4, .ref 151)], [.int (nI (V % N)), .int (nI (U % 3)), .ref 0])) rfl ?_
    exact k
  rcases x_rewrite (en := en) (d := 294) (w := U % 3) (i := V % N) pr pt hb.2.2.1 hb.2.2.2.1 hb.2.2.2.2.1 hb.2.2.2.2.2.1 hI hW with ⟨s', e, r0, -⟩ | ⟨s', bl', go', e, ⟨f1, f2, f3, f4⟩, hP2, h10, hr⟩
  · have es := x_sound0 (en := en) (d := 298) (w := 0) (s := s') (by rw [r0]; exact hb.2.2.2.1) (by decide)
    have ed := x_drop0 (en := en) (d := 299) (s := s') (by rw [r0]; exact hb.2.2.2.1)
    refine ⟨heapOf (hM m) s', LG_b, go _ ?_⟩
    refine x_virt 234 rfl rfl ix_X11_rewrite rfl (q_recv_spec (show q_recv 11 (.ref 0) = true from rfl)) (Nat.le_of_ble_eq_true rfl) (qev_pev 300 _ _ _ _ _ (e)) ?_
    show xW _ en (some .boolean) tb_law (492, [(13, .int (nI (V % N))), (12, .int (nI (U % 3))), (0, .retAddr 0), (1, .ref 0), (2, .int (nI A)), (3, .int (nI B)), (4, .ref 151)], [.int (0 : Int32)]) (heapOf (hM m) s') _
    refine x_L 2 (f' := (496, [(14, .int (0 : Int32)), (13, .int (nI (V % N))), (12, .int (nI (U % 3))), (0, .retAddr 0), (1, .ref 0), (2, .int (nI A)), (3, .int (nI B)), (4, .ref 151)], [.int (0 : Int32)])) rfl ?_
    refine x_ifz false rfl (by decide) ?_
    refine x_L 2 (f' := (501, [(14, .int (0 : Int32)), (13, .int (nI (V % N))), (12, .int (nI (U % 3))), (0, .retAddr 0), (1, .ref 0), (2, .int (nI A)), (3, .int (nI B)), (4, .ref 151)], [.int (0 : Int32), .ref 0])) rfl ?_
    refine x_virt 236 rfl rfl ix_X11_sound rfl (q_recv_spec (show q_recv 11 (.ref 0) = true from rfl)) (Nat.le_of_ble_eq_true rfl) (qev_pev 300 _ _ _ _ _ (es)) ?_
    show xW _ en (some .boolean) tb_law (504, [(14, .int (0 : Int32)), (13, .int (nI (V % N))), (12, .int (nI (U % 3))), (0, .retAddr 0), (1, .ref 0), (2, .int (nI A)), (3, .int (nI B)), (4, .ref 151)], [.int (-2 : Int32)]) (heapOf (hM m) s') _
    refine x_L 1 (f' := (506, [(14, .int (0 : Int32)), (13, .int (nI (V % N))), (12, .int (nI (U % 3))), (0, .retAddr 0), (1, .ref 0), (2, .int (nI A)), (3, .int (nI B)), (4, .ref 151)], [.int (-2 : Int32), .int (-2 : Int32)])) rfl ?_
    refine x_icm false rfl (by decide) ?_
    refine x_L 1 (f' := (510, [(14, .int (0 : Int32)), (13, .int (nI (V % N))), (12, .int (nI (U % 3))), (0, .retAddr 0), (1, .ref 0), (2, .int (nI A)), (3, .int (nI B)), (4, .ref 151)], [.ref 0])) rfl ?_
    refine x_virt 235 rfl rfl ix_X11_drop rfl (q_recv_spec (show q_recv 11 (.ref 0) = true from rfl)) (Nat.le_of_ble_eq_true rfl) (qev_pev 300 _ _ _ _ _ (ed)) ?_
    show xW _ en (some .boolean) tb_law (513, [(14, .int (0 : Int32)), (13, .int (nI (V % N))), (12, .int (nI (U % 3))), (0, .retAddr 0), (1, .ref 0), (2, .int (nI A)), (3, .int (nI B)), (4, .ref 151)], [.int (0 : Int32)]) (heapOf (hM m) s') _
    refine x_ifz false rfl (by decide) ?_
    refine x_L 2 (f' := (521, [(14, .int (0 : Int32)), (13, .int (nI (V % N))), (12, .int (nI (U % 3))), (0, .retAddr 0), (1, .ref 0), (2, .int (nI A)), (3, .int (nI B)), (4, .ref 151)], [.int (1 : Int32)])) rfl ?_
    exact x_ret rfl rfl
  · have hl2 : lmN (rdP s' 36) ≤ 500 := by
      show clp (nI (lmR 36)) ≤ 500
      rw [n_clp (by decide)]
      decide
    obtain ⟨hG2, hk2, hc2⟩ := PRG_good hP2 hl2
    have hH2 := HB_key hG2 hk2 (by decide) hc2
    have h3 : ∀ t, t < 2 → rdP s' 36 3 t = P 3 t := fun t ht => by rw [(hP2.2.2.2.2.2.1 t ht).1, (hP.2.2.2.2.2.1 t ht).1]
    have hrow : ∀ a, a < 25 → s'.1 (11 + a) = P a := fun a ha => by rw [f1 (11 + a) (by omega) (by omega) (by omega) (by omega)]; exact hb.1 a ha
    have h89 : ∀ j, j < 400 → s'.1 8 j = P 25 j ∧ s'.1 9 j = P 26 j := fun j hj => by rw [(f2 j hj).1, (f2 j hj).2, hb.2.1.1, hb.2.1.2]; exact ⟨rfl, rfl⟩
    obtain ⟨r, τ2, es, hq, ⟨q1, q2, q3, q4⟩, hz⟩ := x_sound (en := en) (d := 288) (w := 0) (τ := s') (P := P) (P2 := rdP s' 36) hG.2.1 hG2.2.1 hG.1 hG2.1 h3 (by decide) hrow (fun a ha => by unfold rdP; rw [if_neg (by omega), if_neg (by omega), if_neg (by omega)]) ⟨by omega, fun j hj => (h89 j (by omega)).1⟩ (fun j hj => (h89 j (by omega)).2) ⟨hl2, fun j _ => rfl⟩ (fun j _ => rfl) hG.2.2.2.2 hG2.2.2.2.2 (by rw [h10]; decide)
    have h14 : s'.1 0 14 = -2 := by rw [hr 14 (by decide)]; exact hb.2.2.2.2.2.2
    have hr3 : ¬ r = -3 := by
      intro z
      rcases hq with ⟨-, -, e1 | ⟨X', e1, e2 | e2⟩⟩ | ⟨X', X2', -, -, -, ⟨e1, -⟩ | ⟨e1, -⟩⟩
      · rw [hX] at e1; cases e1
      · rw [hX] at e1
        obtain rfl := Option.some.inj e1
        omega
      · obtain ⟨X2', e3⟩ := expl_ok (fw := false) hG2 hH2
        rw [e2] at e3; cases e3
      · rw [e1] at z; exact absurd z (by decide)
      · rw [e1] at z; exact absurd z (by decide)
    rcases hz with ⟨z, -⟩ | ⟨-, X2, hX2, hV2, hx2, h11, -⟩
    · exact absurd z hr3
    have hs : SG P (rdP s' 36) X X2 r (τ2.1 0 14) := by
      rcases hq with ⟨z, -⟩ | ⟨X', X2', e1, e2, e3, hq⟩
      · exact absurd z hr3
      rw [hX] at e1
      rw [hX2] at e3
      obtain rfl := Option.some.inj e1
      obtain rfl := Option.some.inj e3
      rcases hq with ⟨a1, a2, a3⟩ | ⟨a1, k, a2, a3, -, a4⟩
      · exact Or.inl ⟨a1, by rw [a2]; exact h14, a3⟩
      · exact Or.inr ⟨a1, k, a2, a3, a4⟩
    have hbr : BSr P τ2 := by
      refine ⟨fun a ha => ?_, fun j hj => ?_, ?_, ?_, ?_, ?_⟩
      · rw [q1 (11 + a) (by omega) (by omega) (by omega) (by omega)]; exact hrow a ha
      · rw [q1 8 (by decide) (by decide) (by decide) (by decide), q1 9 (by decide) (by decide) (by decide) (by decide)]; exact h89 j hj
      · rw [q2 9 (by decide) (by decide), hr 9 (by decide)]; exact hb.2.2.1
      · rw [q2 10 (by decide) (by decide), h10]; decide
      · rw [h11]; decide
      · rw [q2 12 (by decide) (by decide), hr 12 (by decide)]; exact hb.2.2.2.2.2.1
    have eg := x_gained (en := en) (d := 299) (s := τ2)
    obtain ⟨h', hb', k⟩ := lw_M (en := en) (m := m) (r := r) hG hG2 h3 hl hX hX2 hA hB1 hB hm hs _ 0 τ2 (Nat.zero_add _) hx2 hbr rfl
    refine ⟨h', hb', go _ ?_⟩
    have hr0 : ¬ r < 0 := by
      rcases hs with ⟨a, -⟩ | ⟨a, -⟩ <;> (rw [a]; decide)
    refine x_virt 234 rfl rfl ix_X11_rewrite rfl (q_recv_spec (show q_recv 11 (.ref 0) = true from rfl)) (Nat.le_of_ble_eq_true rfl) (qev_pev 300 _ _ _ _ _ (e)) ?_
    show xW _ en (some .boolean) tb_law (492, [(13, .int (nI (V % N))), (12, .int (nI (U % 3))), (0, .retAddr 0), (1, .ref 0), (2, .int (nI A)), (3, .int (nI B)), (4, .ref 151)], [.int (1 : Int32)]) (heapOf (hM m) s') _
    refine x_L 2 (f' := (496, [(14, .int (1 : Int32)), (13, .int (nI (V % N))), (12, .int (nI (U % 3))), (0, .retAddr 0), (1, .ref 0), (2, .int (nI A)), (3, .int (nI B)), (4, .ref 151)], [.int (1 : Int32)])) rfl ?_
    refine x_ifz true rfl (by decide) ?_
    refine x_L 2 (f' := (524, [(14, .int (1 : Int32)), (13, .int (nI (V % N))), (12, .int (nI (U % 3))), (0, .retAddr 0), (1, .ref 0), (2, .int (nI A)), (3, .int (nI B)), (4, .ref 151)], [.int (0 : Int32), .ref 0])) rfl ?_
    refine x_virt 236 rfl rfl ix_X11_sound rfl (q_recv_spec (show q_recv 11 (.ref 0) = true from rfl)) (Nat.le_of_ble_eq_true rfl) (qev_pev 300 _ _ _ _ _ (es)) ?_
    show xW _ en (some .boolean) tb_law (527, [(14, .int (1 : Int32)), (13, .int (nI (V % N))), (12, .int (nI (U % 3))), (0, .retAddr 0), (1, .ref 0), (2, .int (nI A)), (3, .int (nI B)), (4, .ref 151)], [.int r]) (heapOf (hM m) τ2) _
    refine x_L 3 (f' := (532, [(15, .int r), (14, .int (1 : Int32)), (13, .int (nI (V % N))), (12, .int (nI (U % 3))), (0, .retAddr 0), (1, .ref 0), (2, .int (nI A)), (3, .int (nI B)), (4, .ref 151)], [.int (1 : Int32), .int (1 : Int32)])) rfl ?_
    refine x_icm false rfl (by decide) ?_
    refine x_L 1 (f' := (537, [(15, .int r), (14, .int (1 : Int32)), (13, .int (nI (V % N))), (12, .int (nI (U % 3))), (0, .retAddr 0), (1, .ref 0), (2, .int (nI A)), (3, .int (nI B)), (4, .ref 151)], [.int r])) rfl ?_
    refine x_ifz false rfl (decide_eq_false hr0) ?_
    refine x_L 2 (f' := (543, [(15, .int r), (14, .int (1 : Int32)), (13, .int (nI (V % N))), (12, .int (nI (U % 3))), (0, .retAddr 0), (1, .ref 0), (2, .int (nI A)), (3, .int (nI B)), (4, .ref 151)], [.int (1 : Int32), .int r])) rfl ?_
    rcases hs with ⟨r0, g0, -⟩ | ⟨r0, kk, hkk, g0, -⟩
    · skip
      refine x_icm false rfl (decide_eq_false (by rw [r0]; decide)) ?_
      refine x_L 3 (f' := (552, [(15, .int r), (14, .int (1 : Int32)), (13, .int (nI (V % N))), (12, .int (nI (U % 3))), (0, .retAddr 0), (1, .ref 0), (2, .int (nI A)), (3, .int (nI B)), (4, .ref 151)], [.ref 0, .int (1 : Int32)])) rfl ?_
      refine x_virt 237 rfl rfl ix_X11_gained rfl (q_recv_spec (show q_recv 11 (.ref 0) = true from rfl)) (Nat.le_of_ble_eq_true rfl) (qev_pev 300 _ _ _ _ _ (eg)) ?_
      show xW _ en (some .boolean) tb_law (555, [(15, .int r), (14, .int (1 : Int32)), (13, .int (nI (V % N))), (12, .int (nI (U % 3))), (0, .retAddr 0), (1, .ref 0), (2, .int (nI A)), (3, .int (nI B)), (4, .ref 151)], [.int (τ2.1 0 14), .int (1 : Int32)]) (heapOf (hM m) τ2) _
      refine x_L 1 (f' := (557, [(15, .int r), (14, .int (1 : Int32)), (13, .int (nI (V % N))), (12, .int (nI (U % 3))), (0, .retAddr 0), (1, .ref 0), (2, .int (nI A)), (3, .int (nI B)), (4, .ref 151)], [.int (-2 : Int32), .int (τ2.1 0 14), .int (1 : Int32)])) rfl ?_
      refine x_icm false rfl (decide_eq_false (by rw [g0]; decide)) ?_
      refine x_L 2 (f' := (565, [(15, .int r), (14, .int (1 : Int32)), (13, .int (nI (V % N))), (12, .int (nI (U % 3))), (0, .retAddr 0), (1, .ref 0), (2, .int (nI A)), (3, .int (nI B)), (4, .ref 151)], [.int (1 : Int32), .int (1 : Int32)])) rfl ?_
      refine x_icm true rfl (by decide) ?_
      refine x_L 2 (f' := (573, [(16, .int (0 : Int32)), (15, .int r), (14, .int (1 : Int32)), (13, .int (nI (V % N))), (12, .int (nI (U % 3))), (0, .retAddr 0), (1, .ref 0), (2, .int (nI A)), (3, .int (nI B)), (4, .ref 151)], [])) rfl ?_
      exact x_sub (qsubL [5, 6, 7, 8, 9, 1, 0] rfl (ks := [16, 15, 14, 13, 12, 0, 1, 2, 3, 4]) rfl (by decide)) k
    · have hk31 : kk < 2 ^ 31 := by
        have := outL_len (P := rdP s' 36) (w := 0) (nt := 2) (S := xS X2) (xN X2)
        have hlim := @lim_le 0
        have hxN := hV2.1.2
        omega
      refine x_icm true rfl (decide_eq_true (by rw [r0]; decide)) ?_
      refine x_L 2 (f' := (552, [(15, .int r), (14, .int (1 : Int32)), (13, .int (nI (V % N))), (12, .int (nI (U % 3))), (0, .retAddr 0), (1, .ref 0), (2, .int (nI A)), (3, .int (nI B)), (4, .ref 151)], [.ref 0, .int (0 : Int32)])) rfl ?_
      refine x_virt 237 rfl rfl ix_X11_gained rfl (q_recv_spec (show q_recv 11 (.ref 0) = true from rfl)) (Nat.le_of_ble_eq_true rfl) (qev_pev 300 _ _ _ _ _ (eg)) ?_
      show xW _ en (some .boolean) tb_law (555, [(15, .int r), (14, .int (1 : Int32)), (13, .int (nI (V % N))), (12, .int (nI (U % 3))), (0, .retAddr 0), (1, .ref 0), (2, .int (nI A)), (3, .int (nI B)), (4, .ref 151)], [.int (τ2.1 0 14), .int (0 : Int32)]) (heapOf (hM m) τ2) _
      refine x_L 1 (f' := (557, [(15, .int r), (14, .int (1 : Int32)), (13, .int (nI (V % N))), (12, .int (nI (U % 3))), (0, .retAddr 0), (1, .ref 0), (2, .int (nI A)), (3, .int (nI B)), (4, .ref 151)], [.int (-2 : Int32), .int (τ2.1 0 14), .int (0 : Int32)])) rfl ?_
      refine x_icm true rfl (decide_eq_true (by rw [g0]; exact fun z => (n_m2 hk31).mp z)) ?_
      refine x_L 1 (f' := (565, [(15, .int r), (14, .int (1 : Int32)), (13, .int (nI (V % N))), (12, .int (nI (U % 3))), (0, .retAddr 0), (1, .ref 0), (2, .int (nI A)), (3, .int (nI B)), (4, .ref 151)], [.int (0 : Int32), .int (0 : Int32)])) rfl ?_
      refine x_icm true rfl (by decide) ?_
      refine x_L 2 (f' := (573, [(16, .int (0 : Int32)), (15, .int r), (14, .int (1 : Int32)), (13, .int (nI (V % N))), (12, .int (nI (U % 3))), (0, .retAddr 0), (1, .ref 0), (2, .int (nI A)), (3, .int (nI B)), (4, .ref 151)], [])) rfl ?_
      exact x_sub (qsubL [5, 6, 7, 8, 9, 1, 0] rfl (ks := [16, 15, 14, 13, 12, 0, 1, 2, 3, 4]) rfl (by decide)) k
end LWL
