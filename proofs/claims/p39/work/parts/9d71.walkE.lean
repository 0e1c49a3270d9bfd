/-! THE LAW'S WALK: chances. -/
section LWE
variable {en : pN} {N : Nat} {P : Nat → fI} {m : Nat → Int32} {A B dd kk : Nat} {X : xT}
set_option maxRecDepth 100000 in
set_option maxHeartbeats 4000000 in
theorem lw_E (hG : GP P 3 2 N) {ρ : Nat → Nat} (hk : RK P N ρ 18) (hX : expl P 0 3 2 2 false = some X) (hB1 : (outL P 0 2 (xS X) (xN X)).length = B) (hB : B ≤ 60) (hd : dd = 1 ∨ dd = 2) (hkk : 1 ≤ kk ∧ kk ≤ 8)
    (hF : ∀ τ : qS, BS P τ → τ.1 113 = (fun _ => 0) → LG en 173 [(0, .retAddr 0), (1, .ref 0), (2, .int (nI A)), (3, .int (nI B)), (4, .ref 151)] (heapOf (hM m) τ)) :
    ∀ (j i : Nat) (τ : qS), i + j = B → EXx P 0 3 2 2 N 11 false X τ → BS P τ → τ.1 113 = (fun _ => 0) → LG en 125 [(0, .retAddr 0), (1, .ref 0), (2, .int (nI A)), (3, .int (nI B)), (4, .ref 151), (5, .int (nI dd)), (6, .int (nI kk)), (7, .int (nI (smN (fun o => chnN P 3 2 X o dd kk) i))), (8, .int (nI i))] (heapOf (hM m) τ) := by
  have hVX := (GP.CL hG hX).2
  have hS := chn_sum (k := kk) hG hk (by decide) hX hd
  rw [hB1] at hS
  intro j
  induction j with
  | zero =>
    intro i τ hi hx hb h113
    rw [show i = B from hi]
    obtain ⟨h', hb', k⟩ := hF τ hb h113
    refine ⟨h', hb', ?_⟩
    generalize smN (fun o => chnN P 3 2 X o dd kk) B = S at hS ⊢
    refine x_L 2 (f' := (128, [(0, .retAddr 0), (1, .ref 0), (2, .int (nI A)), (3, .int (nI B)), (4, .ref 151), (5, .int (nI dd)), (6, .int (nI kk)), (7, .int (nI S)), (8, .int (nI B))], [.int (nI B), .int (nI B)])) rfl ?_
    refine x_icm true rfl (decide_eq_true (nI_le (Nat.le_refl _) (by omega))) ?_
    refine x_L 4 (f' := (158, [(0, .retAddr 0), (1, .ref 0), (2, .int (nI A)), (3, .int (nI B)), (4, .ref 151), (5, .int (nI dd)), (6, .int (nI kk)), (7, .int (nI S)), (8, .int (nI B))], [.int (1 : Int32), .int (nI dd), .int (2 : Int32), .int (nI S)])) rfl ?_
    rcases hd with d1 | d1
    · have eS : S = 2 := by rw [if_pos d1] at hS; omega
      rw [d1]
      refine x_icm false rfl (by decide) ?_
      refine x_L 3 (f' := (168, [(0, .retAddr 0), (1, .ref 0), (2, .int (nI A)), (3, .int (nI B)), (4, .ref 151), (5, .int (nI 1)), (6, .int (nI kk)), (7, .int (nI S)), (8, .int (nI B))], [.int ((2 : Int32) * (1 : Int32)), .int (nI S)])) rfl ?_
      refine x_icm true rfl (decide_eq_true (by rw [eS]; rfl)) ?_
      exact x_sub (qsubL [0, 1, 2, 3, 4] rfl (ks := [0, 1, 2, 3, 4, 5, 6, 7, 8]) rfl (by decide)) k
    · have eS : S = 2 * kk := by rw [if_neg (by omega)] at hS; exact hS
      rw [d1]
      refine x_icm true rfl (by decide) ?_
      refine x_L 2 (f' := (168, [(0, .retAddr 0), (1, .ref 0), (2, .int (nI A)), (3, .int (nI B)), (4, .ref 151), (5, .int (nI 2)), (6, .int (nI kk)), (7, .int (nI S)), (8, .int (nI B))], [.int ((2 : Int32) * (nI kk)), .int (nI S)])) rfl ?_
      refine x_icm true rfl (decide_eq_true (by rw [eS]; exact n_ml.symm)) ?_
      exact x_sub (qsubL [0, 1, 2, 3, 4] rfl (ks := [0, 1, 2, 3, 4, 5, 6, 7, 8]) rfl (by decide)) k
  | succ j ih =>
    intro i τ hi hx hb h113
    have hlt : i < B := by omega
    obtain ⟨τ1, e1, f1, x1⟩ := x_chances (en := en) (d := 291) (dd := dd) (k := kk) hG.2.1 hG.1 hVX hG.2.2.2.2 hx (by rw [hB1]; exact hlt) (by omega) (by omega) (by omega) (by omega)
    obtain ⟨h', hb', k⟩ := ih (i + 1) τ1 (by omega) x1 (hb.fc f1) (by rw [f1.1 113 (by decide) (by decide) (by decide) (by decide) (by decide)]; exact h113)
    refine ⟨h', hb', ?_⟩
    have k : xW (pev msL en 300) en (some .boolean) tb_law (125, [(0, .retAddr 0), (1, .ref 0), (2, .int (nI A)), (3, .int (nI B)), (4, .ref 151), (5, .int (nI dd)), (6, .int (nI kk)), (7, .int (nI (smN (fun o => chnN P 3 2 X o dd kk) i + chnN P 3 2 X i dd kk))), (8, .int (nI (i + 1)))], []) (heapOf (hM m) τ1) (some (.int 1), h') := k
    generalize smN (fun o => chnN P 3 2 X o dd kk) i = S at k ⊢
    generalize chnN P 3 2 X i dd kk = T at k e1
    refine x_L 2 (f' := (128, [(0, .retAddr 0), (1, .ref 0), (2, .int (nI A)), (3, .int (nI B)), (4, .ref 151), (5, .int (nI dd)), (6, .int (nI kk)), (7, .int (nI S)), (8, .int (nI i))], [.int (nI B), .int (nI i)])) rfl ?_
    refine x_icm false rfl (decide_eq_false (nI_ge hlt (by omega))) ?_
    refine x_L 5 (f' := (140, [(0, .retAddr 0), (1, .ref 0), (2, .int (nI A)), (3, .int (nI B)), (4, .ref 151), (5, .int (nI dd)), (6, .int (nI kk)), (7, .int (nI S)), (8, .int (nI i))], [.int (nI kk), .int (nI dd), .int (nI i), .ref 0, .int (nI S)])) rfl ?_
    refine x_virt 227 rfl rfl ix_X11_chances rfl (q_recv_spec (show q_recv 11 (.ref 0) = true from rfl)) (Nat.le_of_ble_eq_true rfl) (qev_pev 300 _ _ _ _ _ (e1)) ?_
    show xW _ en (some .boolean) tb_law (143, [(0, .retAddr 0), (1, .ref 0), (2, .int (nI A)), (3, .int (nI B)), (4, .ref 151), (5, .int (nI dd)), (6, .int (nI kk)), (7, .int (nI S)), (8, .int (nI i))], [.int (nI T), .int (nI S)]) (heapOf (hM m) τ1) _
    refine x_L 1 (f' := (144, [(0, .retAddr 0), (1, .ref 0), (2, .int (nI A)), (3, .int (nI B)), (4, .ref 151), (5, .int (nI dd)), (6, .int (nI kk)), (7, .int (nI S)), (8, .int (nI i))], [.int ((nI S) + (nI T))])) rfl ?_
    rw [nI_add]
    refine x_L 3 (f' := (125, [(8, .int ((nI i) + (1 : Int32))), (7, .int (nI (S + T))), (0, .retAddr 0), (1, .ref 0), (2, .int (nI A)), (3, .int (nI B)), (4, .ref 151), (5, .int (nI dd)), (6, .int (nI kk))], [])) rfl ?_
    rw [nI_1]
    exact x_sub (qsubL [2, 3, 4, 5, 6, 7, 8, 1, 0] rfl (ks := [8, 7, 0, 1, 2, 3, 4, 5, 6]) rfl (by decide)) k
set_option maxRecDepth 100000 in
set_option maxHeartbeats 4000000 in
theorem lw_D (hn : en.1 < 2 ^ 31) (hE : ∀ dd kk, (dd = 1 ∨ dd = 2) → (1 ≤ kk ∧ kk ≤ 8) → ∀ τ : qS, EXx P 0 3 2 2 N 11 false X τ → BS P τ → τ.1 113 = (fun _ => 0) → LG en 125 [(0, .retAddr 0), (1, .ref 0), (2, .int (nI A)), (3, .int (nI B)), (4, .ref 151), (5, .int (nI dd)), (6, .int (nI kk)), (7, .int (nI 0)), (8, .int (nI 0))] (heapOf (hM m) τ)) {τ : qS} (hx : EXx P 0 3 2 2 N 11 false X τ) (hb : BS P τ) (h113 : τ.1 113 = fun _ => 0) : LG en 94 [(0, .retAddr 0), (1, .ref 0), (2, .int (nI A)), (3, .int (nI B)), (4, .ref 151)] (heapOf (hM m) τ) := by
  obtain ⟨U, hU1, hU⟩ := n_mask (x := ceS en 0) (M := 1) (1 : Int32) (by decide)
  obtain ⟨V, hV1, hV⟩ := n_mask (x := ceS en 0 >>> ((1 : Int32) &&& 31)) (M := 7) (7 : Int32) (by decide)
  obtain ⟨h', hb', k⟩ := hE (1 + U) (1 + V) (by omega) (by omega) τ hx hb h113
  refine ⟨h', hb', ?_⟩
  refine x_L 3 (f' := (97, [(0, .retAddr 0), (1, .ref 0), (2, .int (nI A)), (3, .int (nI B)), (4, .ref 151)], [.int (0 : Int32), .retAddr 0, .int (1 : Int32)])) rfl ?_
  refine x_stat 438 rfl rfl rfl ix_L_cell rfl (Nat.le_of_ble_eq_true rfl) (qev_pev 300 _ _ _ _ _ (x_cell (d := 299) (k := 0) (by decide) hn)) ?_
  show xW _ en (some .boolean) tb_law (100, [(0, .retAddr 0), (1, .ref 0), (2, .int (nI A)), (3, .int (nI B)), (4, .ref 151)], [.int (ceS en 0), .int (1 : Int32)]) (heapOf (hM m) τ) _
  refine x_L 2 (f' := (102, [(0, .retAddr 0), (1, .ref 0), (2, .int (nI A)), (3, .int (nI B)), (4, .ref 151)], [.int ((ceS en 0) &&& (1 : Int32)), .int (1 : Int32)])) rfl ?_
  rw [hU]
  refine x_L 1 (f' := (103, [(0, .retAddr 0), (1, .ref 0), (2, .int (nI A)), (3, .int (nI B)), (4, .ref 151)], [.int ((1 : Int32) + (nI U))])) rfl ?_
  rw [n_al]
  refine x_L 4 (f' := (108, [(5, .int (nI (1 + U))), (0, .retAddr 0), (1, .ref 0), (2, .int (nI A)), (3, .int (nI B)), (4, .ref 151)], [.int (0 : Int32), .retAddr 0, .int (1 : Int32)])) rfl ?_
  refine x_stat 438 rfl rfl rfl ix_L_cell rfl (Nat.le_of_ble_eq_true rfl) (qev_pev 300 _ _ _ _ _ (x_cell (d := 299) (k := 0) (by decide) hn)) ?_
  show xW _ en (some .boolean) tb_law (111, [(5, .int (nI (1 + U))), (0, .retAddr 0), (1, .ref 0), (2, .int (nI A)), (3, .int (nI B)), (4, .ref 151)], [.int (ceS en 0), .int (1 : Int32)]) (heapOf (hM m) τ) _
  refine x_L 4 (f' := (116, [(5, .int (nI (1 + U))), (0, .retAddr 0), (1, .ref 0), (2, .int (nI A)), (3, .int (nI B)), (4, .ref 151)], [.int (((ceS en 0) >>> ((1 : Int32) &&& 31)) &&& (7 : Int32)), .int (1 : Int32)])) rfl ?_
  rw [hV]
  refine x_L 1 (f' := (117, [(5, .int (nI (1 + U))), (0, .retAddr 0), (1, .ref 0), (2, .int (nI A)), (3, .int (nI B)), (4, .ref 151)], [.int ((1 : Int32) + (nI V))])) rfl ?_
  rw [n_al]
  refine x_L 5 (f' := (125, [(8, .int (0 : Int32)), (7, .int (0 : Int32)), (6, .int (nI (1 + V))), (5, .int (nI (1 + U))), (0, .retAddr 0), (1, .ref 0), (2, .int (nI A)), (3, .int (nI B)), (4, .ref 151)], [])) rfl ?_
  exact x_sub (qsubL [4, 5, 6, 7, 8, 3, 2, 1, 0] rfl (ks := [8, 7, 6, 5, 0, 1, 2, 3, 4]) rfl (by decide)) k
end LWE
