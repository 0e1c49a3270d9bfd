/-! THE LAW'S WALK: a run that the script's cells choose. -/
section LWI
variable {en : pN} {N z : Nat} {P : Nat → fI} {m : Nat → Int32} {A B R : Nat} {ρ : Nat → Nat}
theorem n_rem20 (hz : z < 2 ^ 31) : nI z - nI z / (20 : Int32) * (20 : Int32) = nI (z % 20) := n_rem (j := 20) hz (by decide)
/-- behind the run: where it ended, what the law needs there -/
abbrev KJ (en : pN) (P : Nat → fI) (m : Nat → Int32) (A B : Nat) : Prop := ∀ (τ : qS) (M : fI) (len : Nat) (f : Nat → fI) (l : List Nat), RXi τ 11 P 0 M len f → BS P τ → nz0 M → vp P l (f00 P 3) → M = pth P l (f00 P 3) → en0 P M → LG en 307 [(0, .retAddr 0), (1, .ref 0), (2, .int (nI A)), (3, .int (nI B)), (4, .ref 151), (9, .int (nI 0))] (heapOf (hM m) τ)
set_option maxRecDepth 100000 in
set_option maxHeartbeats 4000000 in
theorem lw_I (hn : en.1 < 2 ^ 31) (hG : GP P 3 2 N) (hk : RK P N ρ 18) (hJ : KJ en P m A B) :
    ∀ (j : Nat) (τ : qS) (M : fI) (len : Nat) (f : Nat → fI) (l : List Nat), RXi τ 11 P 0 M len f → BS P τ → nz0 M → vp P l (f00 P 3) → M = pth P l (f00 P 3) → len ≤ pos ρ 18 0 M + pos ρ 18 1 M → 36 ≤ j + (pos ρ 18 0 M + pos ρ 18 1 M) → LG en 249 [(0, .retAddr 0), (1, .ref 0), (2, .int (nI A)), (3, .int (nI B)), (4, .ref 151), (9, .int (nI (rdl P 0 M 2 2).length)), (10, .int (nI len))] (heapOf (hM m) τ) := by
  intro j
  induction j with
  | zero =>
    intro τ M len f l hr hb hz hv hp hlen hj
    have hS : SV P 0 3 2 2 N M := by rw [hp]; exact vp_w hG l _ (f00_w hG) hv
    have he : en0 P M := by
      refine ⟨fun z => ?_, fun z => ?_⟩
      · have a := pos_sum hG hk hS (by decide) z
        have b := pos_le (t := 0) hG hk (sp_w hG hS (by decide) z) (by decide)
        have c := pos_le (t := 1) hG hk (sp_w hG hS (by decide) z) (by decide)
        omega
      · have a := pos_sum hG hk hS (by decide) z
        have b := pos_le (t := 0) hG hk (sp_w hG hS (by decide) z) (by decide)
        have c := pos_le (t := 1) hG hk (sp_w hG hS (by decide) z) (by decide)
        omega
    have q0 : (rdl P 0 M 2 2).length = 0 := by
      cases e : rdl P 0 M 2 2 with
      | nil => rfl
      | cons a L =>
        exfalso
        rcases (rdl_0 hG hS a).mp (by rw [e]; exact List.mem_cons_self) with ⟨-, z⟩ | ⟨-, z⟩
        · exact he.1 z
        · exact he.2 z
    obtain ⟨h', hb', k⟩ := hJ τ M len f l hr hb hz hv hp he
    refine ⟨h', hb', ?_⟩
    rw [q0]
    refine x_L 1 (f' := (251, [(0, .retAddr 0), (1, .ref 0), (2, .int (nI A)), (3, .int (nI B)), (4, .ref 151), (9, .int (nI 0)), (10, .int (nI len))], [.int (nI 0)])) rfl ?_
    refine x_ifz true rfl (by decide) ?_
    exact x_sub (qsubL [0, 1, 2, 3, 4, 5] rfl (ks := [0, 1, 2, 3, 4, 9, 10]) rfl (by decide)) k
  | succ j ih =>
    intro τ M len f l hr hb hz hv hp hlen hj
    have hS : SV P 0 3 2 2 N M := by rw [hp]; exact vp_w hG l _ (f00_w hG) hv
    have h2 := rdl_le2 hG hS
    by_cases q0 : (rdl P 0 M 2 2).length = 0
    · have he := rdl_nil hG hS q0
      obtain ⟨h', hb', k⟩ := hJ τ M len f l hr hb hz hv hp he
      refine ⟨h', hb', ?_⟩
      rw [q0]
      refine x_L 1 (f' := (251, [(0, .retAddr 0), (1, .ref 0), (2, .int (nI A)), (3, .int (nI B)), (4, .ref 151), (9, .int (nI 0)), (10, .int (nI len))], [.int (nI 0)])) rfl ?_
      refine x_ifz true rfl (by decide) ?_
      exact x_sub (qsubL [0, 1, 2, 3, 4, 5] rfl (ks := [0, 1, 2, 3, 4, 9, 10]) rfl (by decide)) k
    obtain ⟨U, hU1, hU⟩ := n_mask (x := ceS en (6 + len % 20)) (M := 2147483647) (2147483647 : Int32) (by decide)
    have hU2 : U < 2 ^ 31 := by omega
    have hlt : U % (rdl P 0 M 2 2).length < (rdl P 0 M 2 2).length := Nat.mod_lt _ (by omega)
    have p0 := pos_le (t := 0) hG hk hS (by decide)
    have p1 := pos_le (t := 1) hG hk hS (by decide)
    obtain ⟨t, τ1, τ2, f', ht, hrd, e1, e2, r2, fx⟩ := run_step (en := en) (d := 292) hG hr hS (by omega) hlt
    have a := pos_sum hG hk hS ht hrd
    obtain ⟨h', hb', k⟩ := ih τ2 (sp P t M) (len + 1) f' (l ++ [t]) r2 (hb.fx fx) (sp_nz hG hS ht hrd hz) ((vp_app _ _ _).mpr ⟨hv, by rw [← hp]; exact ⟨ht, hrd, trivial⟩⟩) (by rw [pth_app, ← hp]; rfl) (by omega) (by omega)
    refine ⟨h', hb', ?_⟩
    have ed : nI (10 * t) / (10 : Int32) = nI t := by
      rw [n_d10 (by omega)]
      congr 1
      omega
    have em : nI (10 * t) - nI (10 * t) / (10 : Int32) * (10 : Int32) = nI 0 := by
      rw [n_m10 (by omega)]
      congr 1
      omega
    generalize hqq : (rdl P 0 M 2 2).length = q at q0 h2 hlt e1 ⊢
    generalize (rdl P 0 (sp P t M) 2 2).length = q' at e2 k
    have hq0 : ¬ nI q = 0 := fun z => by
      have := (nI_eq (a := q) (b := 0) (by omega) (by decide)).mp z
      omega
    refine x_L 1 (f' := (251, [(0, .retAddr 0), (1, .ref 0), (2, .int (nI A)), (3, .int (nI B)), (4, .ref 151), (9, .int (nI q)), (10, .int (nI len))], [.int (nI q)])) rfl ?_
    refine x_ifz false rfl (decide_eq_false (by rw [show (0 : Int32) = nI 0 from rfl, n_LE (by omega) (by decide)]; omega)) ?_
    refine x_L 2 (f' := (258, [(0, .retAddr 0), (1, .ref 0), (2, .int (nI A)), (3, .int (nI B)), (4, .ref 151), (9, .int (nI q)), (10, .int (nI len))], [.int (40 : Int32), .int (nI len)])) rfl ?_
    refine x_icm false rfl (decide_eq_false (by rw [show (40 : Int32) = nI 40 from rfl, n_LE (by decide) (by omega)]; omega)) ?_
    refine x_L 6 (f' := (270, [(0, .retAddr 0), (1, .ref 0), (2, .int (nI A)), (3, .int (nI B)), (4, .ref 151), (9, .int (nI q)), (10, .int (nI len))], [.int ((nI len) - (nI len) / (20 : Int32) * (20 : Int32)), .int (6 : Int32), .retAddr 0, .ref 0])) rfl ?_
    rw [n_rem20 (by omega)]
    refine x_L 1 (f' := (271, [(0, .retAddr 0), (1, .ref 0), (2, .int (nI A)), (3, .int (nI B)), (4, .ref 151), (9, .int (nI q)), (10, .int (nI len))], [.int ((6 : Int32) + (nI (len % 20))), .retAddr 0, .ref 0])) rfl ?_
    rw [n_al]
    refine x_stat 438 rfl rfl rfl ix_L_cell rfl (Nat.le_of_ble_eq_true rfl) (qev_pev 300 _ _ _ _ _ (x_cell (d := 299) (by omega) hn)) ?_
    show xW _ en (some .boolean) tb_law (274, [(0, .retAddr 0), (1, .ref 0), (2, .int (nI A)), (3, .int (nI B)), (4, .ref 151), (9, .int (nI q)), (10, .int (nI len))], [.int (ceS en (6 + len % 20)), .ref 0]) (heapOf (hM m) τ) _
    refine x_H ((276, [(0, .retAddr 0), (1, .ref 0), (2, .int (nI A)), (3, .int (nI B)), (4, .ref 151), (9, .int (nI q)), (10, .int (nI len))], [.int (2147483647 : Int32), .int (ceS en (6 + len % 20)), .ref 0]), (heapOf (hM m) τ)) rfl rfl rfl rfl rfl ?_
    refine x_L 1 (f' := (277, [(0, .retAddr 0), (1, .ref 0), (2, .int (nI A)), (3, .int (nI B)), (4, .ref 151), (9, .int (nI q)), (10, .int (nI len))], [.int ((ceS en (6 + len % 20)) &&& (2147483647 : Int32)), .ref 0])) rfl ?_
    rw [hU]
    refine x_L 1 (f' := (279, [(0, .retAddr 0), (1, .ref 0), (2, .int (nI A)), (3, .int (nI B)), (4, .ref 151), (9, .int (nI q)), (10, .int (nI len))], [.int (nI q), .int (nI U), .ref 0])) rfl ?_
    refine x_rem (hq0) rfl ?_
    rw [n_rem hU2 (by omega)]
    refine x_virt 208 rfl rfl ix_X11_ready rfl (q_recv_spec (show q_recv 11 (.ref 0) = true from rfl)) (Nat.le_of_ble_eq_true rfl) (qev_pev 300 _ _ _ _ _ (e1)) ?_
    show xW _ en (some .boolean) tb_law (283, [(0, .retAddr 0), (1, .ref 0), (2, .int (nI A)), (3, .int (nI B)), (4, .ref 151), (9, .int (nI q)), (10, .int (nI len))], [.int (nI (10 * t))]) (heapOf (hM m) τ1) _
    refine x_L 5 (f' := (291, [(11, .int (nI (10 * t))), (0, .retAddr 0), (1, .ref 0), (2, .int (nI A)), (3, .int (nI B)), (4, .ref 151), (9, .int (nI q)), (10, .int (nI len))], [.int ((nI (10 * t)) / (10 : Int32)), .ref 0])) rfl ?_
    rw [ed]
    refine x_L 3 (f' := (296, [(11, .int (nI (10 * t))), (0, .retAddr 0), (1, .ref 0), (2, .int (nI A)), (3, .int (nI B)), (4, .ref 151), (9, .int (nI q)), (10, .int (nI len))], [.int ((nI (10 * t)) - (nI (10 * t)) / (10 : Int32) * (10 : Int32)), .int (nI t), .ref 0])) rfl ?_
    rw [em]
    refine x_virt 209 rfl rfl ix_X11_turn rfl (q_recv_spec (show q_recv 11 (.ref 0) = true from rfl)) (Nat.le_of_ble_eq_true rfl) (qev_pev 300 _ _ _ _ _ (e2)) ?_
    show xW _ en (some .boolean) tb_law (299, [(11, .int (nI (10 * t))), (0, .retAddr 0), (1, .ref 0), (2, .int (nI A)), (3, .int (nI B)), (4, .ref 151), (9, .int (nI q)), (10, .int (nI len))], [.int (nI q')]) (heapOf (hM m) τ2) _
    refine x_L 3 (f' := (249, [(10, .int ((nI len) + (1 : Int32))), (9, .int (nI q')), (11, .int (nI (10 * t))), (0, .retAddr 0), (1, .ref 0), (2, .int (nI A)), (3, .int (nI B)), (4, .ref 151)], [])) rfl ?_
    rw [nI_1]
    exact x_sub (qsubL [3, 4, 5, 6, 7, 1, 0] rfl (ks := [10, 9, 11, 0, 1, 2, 3, 4]) rfl (by decide)) k
-- a run begins
set_option maxRecDepth 100000 in
set_option maxHeartbeats 4000000 in
theorem lw_H (hn : en.1 < 2 ^ 31) (hG : GP P 3 2 N) (hk : RK P N ρ 18) (h8 : P 0 8 = 0) (hl : lmN P = 400) (hJ : KJ en P m A B) {τ : qS} (hb : BS P τ) (h113 : τ.1 113 = fun _ => 0) : LG en 239 [(0, .retAddr 0), (1, .ref 0), (2, .int (nI A)), (3, .int (nI B)), (4, .ref 151)] (heapOf (hM m) τ) := by
  obtain ⟨τ', e, fb, rx, h12⟩ := (x_beginQ (en := en) (d := 293) (u := 0) (hb.px hl) hG.1 hG.2.2.2.2 hb.2.2.1).2 0 (by decide) rfl
  rw [h113] at e rx
  have e : qev en 300 207 [.ref 0, .int (0 : Int32)] τ = some (some (.int (nI (rdl P 0 (f00 P 3) 2 2).length)), τ') := e
  have rx : RXi τ' 11 P 0 (f00 P 3) 0 (fun r => τ.1 (118 + r)) := rx
  obtain ⟨h', hb', k⟩ := lw_I hn hG hk hJ 36 τ' (f00 P 3) 0 _ [] rx (hb.fb fb h12) (f00_nz h8 (by decide)) trivial rfl (Nat.zero_le _) (by omega)
  refine ⟨h', hb', ?_⟩
  generalize (rdl P 0 (f00 P 3) 2 2).length = q at e k
  refine x_L 2 (f' := (241, [(0, .retAddr 0), (1, .ref 0), (2, .int (nI A)), (3, .int (nI B)), (4, .ref 151)], [.int (0 : Int32), .ref 0])) rfl ?_
  refine x_virt 207 rfl rfl ix_X11_begin rfl (q_recv_spec (show q_recv 11 (.ref 0) = true from rfl)) (Nat.le_of_ble_eq_true rfl) (qev_pev 300 _ _ _ _ _ (e)) ?_
  show xW _ en (some .boolean) tb_law (244, [(0, .retAddr 0), (1, .ref 0), (2, .int (nI A)), (3, .int (nI B)), (4, .ref 151)], [.int (nI q)]) (heapOf (hM m) τ') _
  refine x_L 3 (f' := (249, [(10, .int (0 : Int32)), (9, .int (nI q)), (0, .retAddr 0), (1, .ref 0), (2, .int (nI A)), (3, .int (nI B)), (4, .ref 151)], [])) rfl ?_
  exact x_sub (qsubL [2, 3, 4, 5, 6, 1, 0] rfl (ks := [10, 9, 0, 1, 2, 3, 4]) rfl (by decide)) k
end LWI
