/-! ALL TURNS, the model's side: tryAll. -/
section MX
variable {en : pN} {d w nc nl nt n t u k a l : Nat} {P : Nat → fI} {v1 v2 : Int32} {σ σ' : qS} {F F' s y g N : fI} {D : Int64} {x : xT} {fw : Bool}
theorem m_fill12 : ∃ T : fI, (∀ j, j < 65536 → T j = (0 : Int32)) ∧ ∀ r, L_X12_tryAll_33 en d v1 v2 (0 : Int32) (mM (uIr σ 211 T) F s y g D) = some r → L_X12_tryAll_12 en d v1 v2 (0 : Int32) (mM σ F s y g D) = some r := by
  have loop : ∀ (m j : Nat) (T : fI), j + m = 65536 → (∀ i, i < j → T i = (0 : Int32)) → ∃ T' : fI, (∀ j, j < 65536 → T' j = (0 : Int32)) ∧ ∀ r, L_X12_tryAll_33 en d v1 v2 (0 : Int32) (mM (uIr σ 211 T') F s y g D) = some r → L_X12_tryAll_12 en d v1 v2 (nI j) (mM (uIr σ 211 T) F s y g D) = some r := by
    intro m
    induction m with
    | zero =>
      intro j T hj hT
      obtain rfl : j = 65536 := by omega
      refine ⟨T, hT, fun r hr => le_X12_tryAll_12 en _ _ _ _ _ _ ?_⟩
      rw [if_pos (show (65536 : Int32) ≤ nI 65536 from Int32.le_refl _)]
      exact hr
    | succ m ih =>
      intro j T hj hT
      obtain ⟨T', h1, h2⟩ := ih (j + 1) (upd T j (0 : Int32)) (by omega) (fun i hi => by
        by_cases q : i = j
        · rw [q, pk_us]
        · rw [pk_un q]; exact hT i (by omega))
      refine ⟨T', h1, fun r hr => le_X12_tryAll_12 en _ _ _ _ _ _ ?_⟩
      rw [if_neg (by rw [show (65536 : Int32) = nI 65536 from rfl, n_LE (by omega) (by omega)]; omega), gd_true (n_in (by omega) (by decide)), n_cl (by omega), nm_eq, mM_wo (by decide) (by decide) (by decide) (by decide), uIr_u, n_ar]
      exact h2 r hr
  obtain ⟨T, h1, h2⟩ := loop 65536 0 (σ.1 211) (by omega) (fun i hi => absurd hi (Nat.not_lt_zero i))
  rw [uIr_i] at h2
  exact ⟨T, h1, h2⟩
theorem m_fill33 : ∃ T : fI, (∀ j, j < 32768 → T j = (0 : Int32)) ∧ ∀ r, L_X12_tryAll_54 en d v1 v2 (0 : Int32) (mM (uIr σ 222 T) F s y g D) = some r → L_X12_tryAll_33 en d v1 v2 (0 : Int32) (mM σ F s y g D) = some r := by
  have loop : ∀ (m j : Nat) (T : fI), j + m = 32768 → (∀ i, i < j → T i = (0 : Int32)) → ∃ T' : fI, (∀ j, j < 32768 → T' j = (0 : Int32)) ∧ ∀ r, L_X12_tryAll_54 en d v1 v2 (0 : Int32) (mM (uIr σ 222 T') F s y g D) = some r → L_X12_tryAll_33 en d v1 v2 (nI j) (mM (uIr σ 222 T) F s y g D) = some r := by
    intro m
    induction m with
    | zero =>
      intro j T hj hT
      obtain rfl : j = 32768 := by omega
      refine ⟨T, hT, fun r hr => le_X12_tryAll_33 en _ _ _ _ _ _ ?_⟩
      rw [if_pos (show (32768 : Int32) ≤ nI 32768 from Int32.le_refl _)]
      exact hr
    | succ m ih =>
      intro j T hj hT
      obtain ⟨T', h1, h2⟩ := ih (j + 1) (upd T j (0 : Int32)) (by omega) (fun i hi => by
        by_cases q : i = j
        · rw [q, pk_us]
        · rw [pk_un q]; exact hT i (by omega))
      refine ⟨T', h1, fun r hr => le_X12_tryAll_33 en _ _ _ _ _ _ ?_⟩
      rw [if_neg (by rw [show (32768 : Int32) = nI 32768 from rfl, n_LE (by omega) (by omega)]; omega), gd_true (n_in (by omega) (by decide)), n_cl (by omega), nm_eq, mM_wo (by decide) (by decide) (by decide) (by decide), uIr_u, n_ar]
      exact h2 r hr
  obtain ⟨T, h1, h2⟩ := loop 32768 0 (σ.1 222) (by omega) (fun i hi => absurd hi (Nat.not_lt_zero i))
  rw [uIr_i] at h2
  exact ⟨T, h1, h2⟩
theorem m_fill54 : ∃ T : fI, (∀ j, j < 10000 → T j = (-2 : Int32)) ∧ ∀ r, L_X12_tryAll_77 en d v1 v2 (0 : Int32) (mM (uIr σ 223 T) F s y g D) = some r → L_X12_tryAll_54 en d v1 v2 (0 : Int32) (mM σ F s y g D) = some r := by
  have loop : ∀ (m j : Nat) (T : fI), j + m = 10000 → (∀ i, i < j → T i = (-2 : Int32)) → ∃ T' : fI, (∀ j, j < 10000 → T' j = (-2 : Int32)) ∧ ∀ r, L_X12_tryAll_77 en d v1 v2 (0 : Int32) (mM (uIr σ 223 T') F s y g D) = some r → L_X12_tryAll_54 en d v1 v2 (nI j) (mM (uIr σ 223 T) F s y g D) = some r := by
    intro m
    induction m with
    | zero =>
      intro j T hj hT
      obtain rfl : j = 10000 := by omega
      refine ⟨T, hT, fun r hr => le_X12_tryAll_54 en _ _ _ _ _ _ ?_⟩
      rw [if_pos (show (10000 : Int32) ≤ nI 10000 from Int32.le_refl _)]
      exact hr
    | succ m ih =>
      intro j T hj hT
      obtain ⟨T', h1, h2⟩ := ih (j + 1) (upd T j (-2 : Int32)) (by omega) (fun i hi => by
        by_cases q : i = j
        · rw [q, pk_us]
        · rw [pk_un q]; exact hT i (by omega))
      refine ⟨T', h1, fun r hr => le_X12_tryAll_54 en _ _ _ _ _ _ ?_⟩
      rw [if_neg (by rw [show (10000 : Int32) = nI 10000 from rfl, n_LE (by omega) (by omega)]; omega), gd_true (n_in (by omega) (by decide)), n_cl (by omega), nm_eq, mM_wo (by decide) (by decide) (by decide) (by decide), uIr_u, n_ar]
      exact h2 r hr
  obtain ⟨T, h1, h2⟩ := loop 10000 0 (σ.1 223) (by omega) (fun i hi => absurd hi (Nat.not_lt_zero i))
  rw [uIr_i] at h2
  exact ⟨T, h1, h2⟩
theorem m_fill77 (h16 : F 16 = nI nl) : ∃ T : fI, (∀ j, j < 8 → T j = ((1 : Int32) <<< (nI nl &&& 31)) - 1) ∧ ∀ r, L_X12_tryAll_77 en d v1 v2 (nI 8) (mM (uIr σ 224 T) F s y g D) = some r → L_X12_tryAll_77 en d v1 v2 (0 : Int32) (mM σ F s y g D) = some r := by
  have loop : ∀ (m j : Nat) (T : fI), j + m = 8 → (∀ i, i < j → T i = ((1 : Int32) <<< (nI nl &&& 31)) - 1) → ∃ T' : fI, (∀ j, j < 8 → T' j = ((1 : Int32) <<< (nI nl &&& 31)) - 1) ∧ ∀ r, L_X12_tryAll_77 en d v1 v2 (nI 8) (mM (uIr σ 224 T') F s y g D) = some r → L_X12_tryAll_77 en d v1 v2 (nI j) (mM (uIr σ 224 T) F s y g D) = some r := by
    intro m
    induction m with
    | zero =>
      intro j T hj hT
      obtain rfl : j = 8 := by omega
      exact ⟨T, hT, fun r hr => hr⟩
    | succ m ih =>
      intro j T hj hT
      obtain ⟨T', h1, h2⟩ := ih (j + 1) (upd T j (((1 : Int32) <<< (nI nl &&& 31)) - 1)) (by omega) (fun i hi => by
        by_cases q : i = j
        · rw [q, pk_us]
        · rw [pk_un q]; exact hT i (by omega))
      refine ⟨T', h1, fun r hr => le_X12_tryAll_77 en _ _ _ _ _ _ ?_⟩
      rw [if_neg (by rw [show (8 : Int32) = nI 8 from rfl, n_LE (by omega) (by omega)]; omega), gd_true (n_in (by omega) (by decide)), n_cl (by omega), mM_F, h16, nm_eq, mM_wo (by decide) (by decide) (by decide) (by decide), uIr_u, n_ar]
      exact h2 r hr
  obtain ⟨T, h1, h2⟩ := loop 8 0 (σ.1 224) (by omega) (fun i hi => absurd hi (Nat.not_lt_zero i))
  rw [uIr_i] at h2
  exact ⟨T, h1, h2⟩
/-- what trying all keeps -/
abbrev fRt (σ σ' : qS) (F F' : fI) : Prop := (∀ c, c < 210 ∨ 226 < c → c ≠ 190 → σ'.1 c = σ.1 c) ∧ (∀ j, j < 58 ∨ j = 61 ∨ (74 ≤ j ∧ j < 98) ∨ (104 ≤ j ∧ j < 115) ∨ (116 ≤ j ∧ j < 120) ∨ 122 ≤ j → F' j = F j) ∧ σ'.2 = σ.2 ∧ F' 121 = 0
theorem m_begAll (hB : MB σ 2 P nc nl nt n) (hP : PV P nc nl nt n) (hw2 : w ≤ 2) (h12 : F 12 = nI nc) (h16 : F 16 = nI nl) (h18 : F 18 = nI nt) (hin : ∀ c, c < nc → inR (P 4 c)) :
    ∃ (σ' : qS) (F' s' y' g' : fI) (D' : Int64), (∀ r, L_X12_tryAll_147 en (d + 7) (nI w) (bt fw) (nI 0) (mM σ' F' s' y' g' D') = some r → qev en (d + 8) 365 [.ref 151, .int (nI w), .int (bt fw)] (mM σ F s y g D) = some r) ∧ mcI P w nc nl nt n (beg0 (fst0 P w nc nt (fun _ => 0))) σ' F' ∧ mcD P w nl nt 0 (beg0 (fst0 P w nc nt (fun _ => 0))) σ' F' ∧ fRt σ σ' F F' ∧ F' 98 = 0 := by
  have hc8 := hP.1.2
  have ht4 := hP.2.2.1.2
  have hwd := wid_w hw2
  let F1 : fI := upd (upd F 98 0) 121 0
  obtain ⟨T1, t1, n1⟩ := m_fill12 (en := en) (d := d + 7) (v1 := nI w) (v2 := bt fw) (σ := σ) (F := F1) (s := s) (y := y) (g := g) (D := D)
  obtain ⟨T2, t2, n2⟩ := m_fill33 (en := en) (d := d + 7) (v1 := nI w) (v2 := bt fw) (σ := uIr σ 211 T1) (F := F1) (s := s) (y := y) (g := g) (D := D)
  obtain ⟨T3, t3, n3⟩ := m_fill54 (en := en) (d := d + 7) (v1 := nI w) (v2 := bt fw) (σ := uIr (uIr σ 211 T1) 222 T2) (F := F1) (s := s) (y := y) (g := g) (D := D)
  obtain ⟨T4, t4, n4⟩ := m_fill77 (en := en) (d := d + 7) (v1 := nI w) (v2 := bt fw) (nl := nl) (σ := uIr (uIr (uIr σ 211 T1) 222 T2) 223 T3) (F := F1) (s := s) (y := y) (g := g) (D := D) ((pk_un (by decide)).trans ((pk_un (by decide)).trans h16))
  let σ1 : qS := uIr (uIr (uIr (uIr σ 211 T1) 222 T2) 223 T3) 224 T4
  have s1 : ∀ c, c ≠ 211 → c ≠ 222 → c ≠ 223 → c ≠ 224 → σ1.1 c = σ.1 c := fun c h1 h2 h3 h4 => by
    show (uIr (uIr (uIr (uIr σ 211 T1) 222 T2) 223 T3) 224 T4).1 c = _
    rw [uIr_ne h4, uIr_ne h3, uIr_ne h2, uIr_ne h1]
  have s211 : σ1.1 211 = T1 := by
    show (uIr (uIr (uIr (uIr σ 211 T1) 222 T2) 223 T3) 224 T4).1 211 = _
    rw [uIr_ne (by decide), uIr_ne (by decide), uIr_ne (by decide), uIr_row]
  have s222 : σ1.1 222 = T2 := by
    show (uIr (uIr (uIr (uIr σ 211 T1) 222 T2) 223 T3) 224 T4).1 222 = _
    rw [uIr_ne (by decide), uIr_ne (by decide), uIr_row]
  have s223 : σ1.1 223 = T3 := by
    show (uIr (uIr (uIr (uIr σ 211 T1) 222 T2) 223 T3) 224 T4).1 223 = _
    rw [uIr_ne (by decide), uIr_row]
  have s224 : σ1.1 224 = T4 := by
    show (uIr (uIr (uIr (uIr σ 211 T1) 222 T2) 223 T3) 224 T4).1 224 = _
    rw [uIr_row]
  let F2 : fI := upd (upd (upd (upd (upd F1 101 0) 102 0) 103 0) 115 0) 73 0
  have f2 : ∀ j, F2 j = if j = 73 ∨ j = 115 ∨ j = 103 ∨ j = 102 ∨ j = 101 ∨ j = 121 ∨ j = 98 then 0 else F j := fun j => by
    show upd (upd (upd (upd (upd (upd (upd F 98 0) 121 0) 101 0) 102 0) 103 0) 115 0) 73 0 j = _
    unfold upd
    repeat (split <;> try (first | rfl | omega))
    all_goals (first | rfl | omega)
  have hB1 : MB σ1 2 P nc nl nt n := mb_cg (fun c h1 h2 h3 => s1 c (by omega) (by omega) (by omega) (by omega)) hB
  obtain ⟨s2, y2, e1, hR2, -⟩ := m_first (en := en) (d := d + 4) (F := F2) (N := fun _ => 0) (s := s) (y := y) (g := g) (D := D) hB1 hw2 hc8 ht4 (by rw [f2, if_neg (by decide)]; exact h12) (by rw [f2, if_neg (by decide)]; exact h16) (by rw [f2, if_neg (by decide)]; exact h18)
  let F3 : fI := upd (upd (upd F2 59 (nI 2)) 58 (nI w)) 60 (nI (wid w))
  have f3 : ∀ j, j ≠ 58 → j ≠ 59 → j ≠ 60 → F3 j = F2 j := fun j h1 h2 h3 => (pk_un h3).trans ((pk_un h1).trans (pk_un h2))
  have hRF : RWF σ1 F3 0 (wid w) (fun _ => s2) := ⟨by rw [f3 101 (by decide) (by decide) (by decide), f2, if_pos (by decide)]; rfl, pk_us, Nat.zero_le _, fun i hi => absurd hi (Nat.not_lt_zero i), tb_cg (T := fun _ => 0) (fun p hp => by rw [s211]; exact t1 p hp) (by decide) (tb_0 (by decide))⟩
  rcases m_numberOf (en := en) (d := d + 5) (k := w) (lim := limS w) (v1 := -2) (v2 := -2) (v3 := 0) (RWF_M (s := s2) (y := y2) (g := g) (D := D) |>.mpr hRF) mM_s hwd.1 (by rw [mM_F]; exact (pk_un (by decide)).trans pk_us) hw2 rfl (Nat.zero_le _) (hwd.2.imp id (fun z => by rw [z]; rfl)) (Or.inl rfl) with ⟨i, hi, -⟩ | ⟨-, ⟨hl, p, e5, r5⟩ | ⟨hl, -⟩⟩
  · exact absurd hi (Nat.not_lt_zero i)
  rotate_left
  · exfalso
    have : 0 < limS w := by unfold limS; split <;> omega
    omega
  rw [nw_mM] at e5 r5
  generalize hσ2 : nwS σ1 0 (wid w) s2 p (-2) (-2) 0 = σ2 at e5 r5
  have m1 : ∀ c, c ≠ 210 → c ≠ 211 → c ≠ 212 → c ≠ 213 → c ≠ 214 → c ≠ 216 → c ≠ 217 → σ2.1 c = σ1.1 c := fun c h1 h2 h3 h4 h5 h6 h7 => by
    rw [← hσ2]
    unfold nwS
    rw [uI_ne h7, uI_ne h6, uI_ne h5, uI_ne h4, uI_ne h3, uIr_ne h1, uI_ne h2]
  let F4 : fI := upd F3 101 (nI (0 + 1))
  have f4 : ∀ j, j ≠ 58 → j ≠ 59 → j ≠ 60 → j ≠ 101 → F4 j = F2 j := fun j h1 h2 h3 h4 => (pk_un h4).trans (f3 j h1 h2 h3)
  have r6 := (RWF_M.mp r5).cg (R' := fun i => sm w (xS (beg0 (fst0 P w nc nt (fun _ => 0))) i)) (fun i hi j hj => by
    have hi : i < 0 + 1 := hi
    rw [if_pos (by omega)]; exact (hR2 j hj).symm)
  have e212 : σ2.1 212 0 = -2 := by
    rw [← hσ2]; unfold nwS
    rw [uI_ne (by decide), uI_ne (by decide), uI_ne (by decide), uI_ne (by decide), g_I, if_pos ⟨rfl, rfl⟩]
  have e213 : σ2.1 213 0 = -2 := by
    rw [← hσ2]; unfold nwS
    rw [uI_ne (by decide), uI_ne (by decide), uI_ne (by decide), g_I, if_pos ⟨rfl, rfl⟩]
  have e214 : σ2.1 214 0 = 0 := by
    rw [← hσ2]; unfold nwS
    rw [uI_ne (by decide), uI_ne (by decide), g_I, if_pos ⟨rfl, rfl⟩]
  have e216 : σ2.1 216 0 = 0 := by
    rw [← hσ2]; unfold nwS
    rw [uI_ne (by decide), g_I, if_pos ⟨rfl, rfl⟩]
  have e217 : σ2.1 217 0 = -2 := by
    rw [← hσ2]; unfold nwS
    rw [g_I, if_pos ⟨rfl, rfl⟩]
  have m2 : σ2.2 = σ.2 := by rw [← hσ2]; rfl
  have z73 : F4 73 = 0 := by rw [f4 73 (by decide) (by decide) (by decide) (by decide), f2, if_pos (by decide)]
  refine ⟨σ2, F4, s2, y2, g, D, fun r hh => ?_, ⟨mb_cg (fun c h1 h2 h3 => m1 c (by omega) (by omega) (by omega) (by omega) (by omega) (by omega) (by omega)) hB1, ⟨by rw [f4 12 (by decide) (by decide) (by decide) (by decide), f2, if_neg (by decide)]; exact h12, by rw [f4 16 (by decide) (by decide) (by decide) (by decide), f2, if_neg (by decide)]; exact h16, by rw [f4 18 (by decide) (by decide) (by decide) (by decide), f2, if_neg (by decide)]; exact h18, (pk_un (by decide)).trans ((pk_un (by decide)).trans pk_us), (pk_un (by decide)).trans ((pk_un (by decide)).trans ((pk_un (by decide)).trans pk_us))⟩, r6, by rw [f4 102 (by decide) (by decide) (by decide) (by decide), f2, if_pos (by decide)]; rfl, fun e he => absurd he (Nat.not_lt_zero e), fun i hi => ?_, fun i h1 h2 => absurd h2 (by show ¬ i < 1; omega), ⟨e212, e213⟩, fun a _ q _ => ?_⟩, ⟨fun i hi => absurd hi (Nat.not_lt_zero i), fun i hi => absurd hi (Nat.not_lt_zero i), by rw [f4 103 (by decide) (by decide) (by decide) (by decide), f2, if_pos (by decide)]; rfl, ⟨by rw [f4 115 (by decide) (by decide) (by decide) (by decide), f2, if_pos (by decide)]; rfl, fun j hj => absurd hj (Nat.not_lt_zero j), tb_cg (T := fun _ => 0) (fun p hp => by rw [m1 222 (by decide) (by decide) (by decide) (by decide) (by decide) (by decide) (by decide), s222]; exact t2 p hp) (by decide) (tb_0 (by decide))⟩, fun z hz => ?_, fun c hc => ?_, fun i _ h2 => ?_⟩, ⟨fun c h1 h2 => ?_, fun j hj => ?_, m2, by rw [f4 121 (by decide) (by decide) (by decide) (by decide), f2, if_pos (by decide)]⟩, ?_⟩
  · refine le_X12_tryAll en _ _ _ _ _ ?_
    rw [nm_eq, mM_wF, nm_eq, mM_wF]
    refine n1 r (n2 r (n3 r (n4 r (le_X12_tryAll_77 en _ _ _ _ _ _ ?_))))
    rw [if_pos (show (8 : Int32) ≤ nI 8 from Int32.le_refl _), nm_eq, mM_wF, nm_eq, mM_wF, nm_eq, mM_wF, nm_eq, mM_wF, nm_eq, mM_wF]
    have e1' : qev en (d + 7) 300 [.ref 151, .int 2, .int (nI w)] (mM σ1 F2 s y g D) = some (none, mM σ1 F3 s2 y2 g D) := e1
    rw [e1', bV_some, e5, bI_some]
    exact hh
  · have hi : i < 1 := hi
    obtain rfl : i = 0 := by omega
    rw [e214]; rfl
  · rw [z73]
    show (0#32).getLsbD _ = false
    simp
  · rw [m1 223 (by decide) (by decide) (by decide) (by decide) (by decide) (by decide) (by decide), s223, t3 z hz]; rfl
  · rw [m1 224 (by decide) (by decide) (by decide) (by decide) (by decide) (by decide) (by decide), s224, t4 c hc]; rfl
  · have h2 : i < 1 := h2
    obtain rfl : i = 0 := by omega
    exact ⟨e216, e217⟩
  · rw [m1 c (by omega) (by omega) (by omega) (by omega) (by omega) (by omega) (by omega), s1 c (by omega) (by omega) (by omega) (by omega)]
  · rw [f4 j (by omega) (by omega) (by omega) (by omega), f2, if_neg (by omega)]
  · rw [f4 98 (by decide) (by decide) (by decide) (by decide), f2, if_pos (by decide)]
theorem m_tryAll (hB : MB σ 2 P nc nl nt n) (hP : PV P nc nl nt n) (hw2 : w ≤ 2) (h12 : F 12 = nI nc) (h16 : F 16 = nI nl) (h18 : F 18 = nI nt) (hin : ∀ c, c < nc → inR (P 4 c)) :
    (expl P w nc nl nt fw = none ∧ ∃ (σ' : qS) (F' s' y' g' : fI) (D' : Int64), qev en (d + 8) 365 [.ref 151, .int (nI w), .int (bt fw)] (mM σ F s y g D) = some (some (.int (-3)), mM σ' F' s' y' g' D') ∧ fRt σ σ' F F' ∧ F' 98 = 0) ∨
    (∃ X, expl P w nc nl nt fw = some X ∧ XV P w nc nl nt n X ∧ ∃ (σ' : qS) (F' s' y' g' : fI) (D' : Int64), qev en (d + 8) 365 [.ref 151, .int (nI w), .int (bt fw)] (mM σ F s y g D) = some (some (.int (nI (xN X))), mM σ' F' s' y' g' D') ∧ mcI P w nc nl nt n X σ' F' ∧ mcD P w nl nt (xN X) X σ' F' ∧ (∀ i, i < xN X + 1 → σ'.1 218 i = nI (xA X i)) ∧ (F' 98 = 1 ∧ F' 99 = nI w ∧ F' 100 = bt fw ∧ F' 120 = F' 73) ∧ fRt σ σ' F F') := by
  have hlim := @lim_le w
  obtain ⟨σ0, F0, s0, y0, g0, D0, e0, i0, d0, f0, z0⟩ := m_begAll (en := en) (d := d) (fw := fw) (s := s) (y := y) (g := g) (D := D) hB hP hw2 h12 h16 h18 hin
  have hX0 : XV P w nc nl nt n (beg0 (fst0 P w nc nt (fun _ => 0))) := XV_0 hP hw2 hin
  have eX : expl P w nc nl nt fw = match exK P w nl nt (limS w) fw 20000 0 (beg0 (fst0 P w nc nt (fun _ => 0))) with
    | none => none
    | some x => some (begK x (xN x)) := rfl
  have fR : ∀ {σ1 : qS} {F1 : fI}, fRm σ0 σ1 F0 F1 → fRt σ σ1 F F1 := fun {σ1 F1} h => ⟨fun c h1 h2 => (h.1 c h1 h2).trans (f0.1 c h1 h2), fun j hj => (h.2.1 j (by omega) (by omega) (by omega) (by omega) (by omega)).trans (f0.2.1 j hj), h.2.2.trans f0.2.2.1, (h.2.1 121 (by omega) (by decide) (by decide) (by decide) (by decide)).trans f0.2.2.2⟩
  rcases m_exAll (en := en) (d := d) (v1 := nI w) (fw := fw) hP hw2 20000 0 (beg0 (fst0 P w nc nt (fun _ => 0))) σ0 F0 s0 y0 g0 D0 (by decide) (Nat.zero_le _) hX0 i0 d0 with ⟨r1, σ1, F1, s1, y1, g1, D1, r2, r3⟩ | ⟨z, r1, r2, σ1, F1, s1, y1, g1, D1, r3, r4, r5, r6⟩
  · left
    refine ⟨by rw [eX, r1], σ1, F1, s1, y1, g1, D1, e0 _ r2, fR r3, ?_⟩
    rw [r3.2.1 98 (by decide) (by decide) (by decide) (by decide) (by decide)]
    exact z0
  · right
    have hzN := r2.1.2
    let σ2 : qS := uI σ1 218 (xN z) (nI (xM z))
    let F2 : fI := upd (upd (upd (upd F1 98 1) 99 (nI w)) 100 (bt fw)) 120 (F1 73)
    have fF := fR r6
    have h101 : F1 101 = nI (xN z) := r4.2.2.1.1
    have h102 : F1 102 = nI (xM z) := r4.2.2.2.1
    have fin : L_X12_tryAll_147 en (d + 7) (nI w) (bt fw) (nI (xN z)) (mM σ1 F1 s1 y1 g1 D1) = some (some (.int (nI (xN z))), mM σ2 F2 s1 y1 g1 D1) := by
      refine le_X12_tryAll_147 en _ _ _ _ _ _ ?_
      have e1 : upd (upd (upd F1 98 1) 99 (nI w)) 100 (bt fw) 73 = F1 73 := by rw [pk_un (by decide), pk_un (by decide), pk_un (by decide)]
      have e2 : F2 101 = nI (xN z) := by
        show upd (upd (upd (upd F1 98 1) 99 (nI w)) 100 (bt fw)) 120 (F1 73) 101 = _
        rw [pk_un (by decide), pk_un (by decide), pk_un (by decide), pk_un (by decide)]; exact h101
      rw [mM_F, h101, h102, if_pos (Int32.le_refl _), gd_true (n_in (by omega) (by decide)), n_cl (by omega), nm_eq, mM_wo (by decide) (by decide) (by decide) (by decide), nm_eq, mM_wF, nm_eq, mM_wF, gd_true (by cases fw <;> decide), nm_eq, mM_wF, nm_eq, mM_F, e1, mM_wF, mM_F]
      show some (some (Value.int (F2 101)), _) = _
      rw [e2]
    have fs : ∀ c, c ≠ 218 → σ2.1 c = σ1.1 c := fun c hc => uI_ne hc
    have fj : ∀ j, j ≠ 98 → j ≠ 99 → j ≠ 100 → j ≠ 120 → F2 j = F1 j := fun j h1 h2 h3 h4 => (pk_un h4).trans ((pk_un h3).trans ((pk_un h2).trans (pk_un h1)))
    have e218 : ∀ i, σ2.1 218 i = if i = xN z then nI (xM z) else σ1.1 218 i := fun i => by
      show (uI σ1 218 (xN z) (nI (xM z))).1 218 i = _
      rw [uI_row]; rfl
    refine ⟨begK z (xN z), by rw [eX, r1], r2, σ2, F2, s1, y1, g1, D1, e0 _ (r3 _ fin), ?_, ?_, fun i hi => ?_, ⟨(pk_un (by decide)).trans ((pk_un (by decide)).trans ((pk_un (by decide)).trans pk_us)), (pk_un (by decide)).trans ((pk_un (by decide)).trans pk_us), (pk_un (by decide)).trans pk_us, ?_⟩, ⟨fun c h1 h2 => ?_, fun j hj => ?_, fF.2.2.1, by rw [fj 121 (by decide) (by decide) (by decide) (by decide)]; exact fF.2.2.2⟩⟩
    · exact mcI.fr (x := z) r4 (fun c hc => fs c (by omega)) (fun j hj => fj j (by omega) (by omega) (by omega) (by omega))
    · obtain ⟨q1, q2, q3, q4, q5, q6, q7⟩ := r5
      refine ⟨fun i hi => ?_, fun i hi => by rw [fs 215 (by decide), fs 216 (by decide), fs 217 (by decide)]; exact q2 i hi, by rw [fj 103 (by decide) (by decide) (by decide) (by decide)]; exact q3, ⟨by rw [fj 115 (by decide) (by decide) (by decide) (by decide)]; exact q4.1, fun j hj => by rw [fs 221 (by decide), fs 225 (by decide)]; exact q4.2.1 j hj, by rw [fs 222 (by decide)]; exact q4.2.2⟩, fun i hi => by rw [fs 223 (by decide)]; exact q5 i hi, fun c hc => by rw [fs 224 (by decide)]; exact q6 c hc, fun i h1 h2 => absurd h2 (Nat.not_lt.mpr h1)⟩
      have hi : i < xN z := hi
      show _ = nI (at1 (xA z) (xN z) (xM z) i)
      rw [e218, if_neg (by omega), at1_n (by omega)]
      exact q1 i hi
    · have hi : i < xN z + 1 := hi
      show _ = nI (at1 (xA z) (xN z) (xM z) i)
      rw [e218]
      by_cases q : i = xN z
      · rw [if_pos q, q, at1_s]
      · rw [if_neg q, at1_n q]
        exact r5.1 i (by omega)
    · rw [fj 73 (by decide) (by decide) (by decide) (by decide)]; exact pk_us
    · rw [fs c (by omega)]; exact fF.1 c h1 h2
    · rw [fj j (by omega) (by omega) (by omega) (by omega)]; exact fF.2.1 j hj
end MX
