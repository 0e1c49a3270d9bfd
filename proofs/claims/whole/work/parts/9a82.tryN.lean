/-! ALL TURNS, the model's side: a step tried, done. -/
section MU
variable {en : pN} {d w nc nl nt n t u k a j l : Nat} {σ σ' τ : qS} {P : Nat → fI} {F F' s y g N : fI} {D : Int64} {x : xT} {v1 v2 v3 v5 v6 : Int32} {O : Nat → Nat → Bool} {z : Int32}
theorem fTm.tr {m m' : Nat} {σ σ' σ'' : qS} {F F' F'' : fI} (hm : m ≤ m') (h : fTm m σ σ' F F') (g : fTm m' σ' σ'' F' F'') : fTm m σ σ'' F F'' := ⟨fun c h1 h2 => (g.1 c h1 h2).trans (h.1 c h1 h2), fun i hi => ⟨((g.2.1 i (by omega)).1).trans (h.2.1 i hi).1, ((g.2.1 i (by omega)).2).trans (h.2.1 i hi).2⟩, fun j h1 h2 h3 => (g.2.2.1 j h1 h2 h3).trans (h.2.2.1 j h1 h2 h3), g.2.2.2.trans h.2.2.2⟩
theorem wid_w (hw2 : w ≤ 2) : wid w ≤ 213 ∧ (wid w ≤ 80 ∨ w = 2) := by
  unfold wid
  split
  · omega
  · split <;> omega
/-- a state of the rows at hand -/
theorem m_loadS (hw2 : w ≤ 2) (hX : XV P w nc nl nt n x) (hR : RWF σ F (xN x) (wid w) (fun i => sm w (xS x i))) (hk : k < xN x) : ∃ s', qev en (d + 1) 357 [.ref 151, .int (nI k)] (mM σ F s y g D) = some (none, mM σ F s' y g D) ∧ MR w (xS x k) s' := by
  have hxN := hX.1.2
  have hlim := @lim_le w
  have hw := wid_w hw2
  have hroom := rm_room (n := xN x) (k := k) (W := wid w) (by omega) (by
    rcases hw.2 with z | z
    · exact Or.inl z
    · right
      rw [z] at hxN
      exact hxN) hw.1 hk
  refine ⟨fun j => if j < wid w then sm w (xS x k) j else s j, ?_, fun i hi => if_pos hi⟩
  have e := m_load (en := en) (d := d) (s := mM σ F s y g D) (k := k) (W := wid w) (g := sm w (xS x k)) (by rw [mM_F]; exact hR.2.1) hw.1 hroom (by omega) (fun j hj => by rw [mM_o (by decide) (by decide) (by decide) (by decide)]; exact hR.2.2.2.1 k hk j hj)
  rw [e, mM_Is, mM_s]
theorem m_tryOne (hP : PV P nc nl nt n) (hw2 : w ≤ 2) (hX : XV P w nc nl nt n x) (hI : mcI P w nc nl nt n x σ F) (hk : k < xN x) (ha : a ∈ rdl P w (xS x k) nt nt) (h226 : σ.1 226 j = nI a) (hj : j < 48) :
    (tryS P w nl nt (limS w) k x a = none ∧ ∃ (σ' : qS) (F' s' y' g' : fI) (D' : Int64), L_X12_tryAll_328 en (d + 7) v1 v2 (nI k) v5 v6 (nI j) (mM σ F s y g D) = some (some (.int (-3)), mM σ' F' s' y' g' D') ∧ fTm (xN x) σ σ' F F') ∨
    (∃ x', tryS P w nl nt (limS w) k x a = some x' ∧ ∃ (σ' : qS) (F' s' y' g' : fI) (D' : Int64), (∀ r, L_X12_tryAll_296 en (d + 7) v1 v2 (nI k) v5 v6 (nI (j + 1)) (mM σ' F' s' y' g' D') = some r → L_X12_tryAll_328 en (d + 7) v1 v2 (nI k) v5 v6 (nI j) (mM σ F s y g D) = some r) ∧ mcI P w nc nl nt n x' σ' F' ∧ fTm (xN x) σ σ' F F' ∧ ∀ i, xN x ≤ i → i < xN x' → σ'.1 216 i = 0 ∧ σ'.1 217 i = -2) := by
  have hXk := hX
  obtain ⟨hB, hF, hR, h102, hE, hW, hFd, h0, hO⟩ := hI
  obtain ⟨⟨x0, x1⟩, x2, x3, x4, x5, x6⟩ := hX
  have hSk := x2 k hk
  obtain ⟨hr, h10⟩ := rdl_rdS hP hSk ha
  have a40 := rdl_lt hP hSk ha
  have ht4 := hP.2.2.1.2
  have hn100 := hP.2.2.2.1.2
  have hlim := @lim_le w
  have hwd := wid_w hw2
  have tS : tryS P w nl nt (limS w) k x a = if 200000 ≤ xM x then none else match fndS (xS x) (stp P w (xS x k) (a / 10) (a % 10) nt) (xN x) 0 with
    | some i => some (xN x, xS x, xF x, xWh x, xM x + 1, at1 (xE x) (xM x) (i, a), xA x, ordO P nl (xS x k) a (xO x))
    | none => if limS w ≤ xN x then none else some (xN x + 1, at1 (xS x) (xN x) (stp P w (xS x k) (a / 10) (a % 10) nt), at1 (xF x) (xN x) (k, a), at1 (xWh x) (xN x) (isW P (xS x k) a), xM x + 1, at1 (xE x) (xM x) (xN x, a), xA x, ordO P nl (xS x k) a (xO x)) := rfl
  by_cases hM : 200000 ≤ xM x
  · left
    refine ⟨by rw [tS, if_pos hM], σ, F, s, y, g, D, le_X12_tryAll_328 en _ _ _ _ _ _ _ _ _ ?_, ⟨fun _ _ _ => rfl, fun _ _ => ⟨rfl, rfl⟩, fun _ _ _ _ => rfl, rfl⟩⟩
    rw [mM_F, h102, if_neg (fun q => q (by rw [show xM x = 200000 by omega]; rfl))]
  -- the state at hand, the step
  obtain ⟨s1, e1, hs1⟩ := m_loadS (en := en) (d := d + 6) (s := s) (y := y) (g := g) (D := D) hw2 hXk hR hk
  obtain ⟨r2, e2, F2, s2, y2, g2, D2, rfl, hFE, hs2, b68, -, -, -, -, b73, -⟩ := m_step (en := en) (d := d + 1) (s := s1) (y := y) (g := g) (D := D) hB hP hSk hF hs1 hw2 hr h10
  have hF2 : MF F2 w 2 nc nl nt := ⟨by rw [hFE 12 (by decide)]; exact hF.1, by rw [hFE 16 (by decide)]; exact hF.2.1, by rw [hFE 18 (by decide)]; exact hF.2.2.1, by rw [hFE 58 (by decide)]; exact hF.2.2.2.1, by rw [hFE 59 (by decide)]; exact hF.2.2.2.2⟩
  have h226' : ∀ (F s y g : fI) (D : Int64), (mM σ F s y g D).1 226 j = nI a := fun F s y g D => by rw [mM_o (by decide) (by decide) (by decide) (by decide)]; exact h226
  -- whether it was a while
  have start : ∀ r, L_X12_tryAll_417 en (d + 7) v1 v2 (nI k) v5 v6 (nI j) (nI k) (nI a) (bt (isW P (xS x k) a)) (mM σ F2 s2 y2 g2 D2) = some r → L_X12_tryAll_328 en (d + 7) v1 v2 (nI k) v5 v6 (nI j) (mM σ F s y g D) = some r := by
    intro r hh
    refine le_X12_tryAll_328 en _ _ _ _ _ _ _ _ _ ?_
    rw [mM_F, h102, if_pos (show ¬ nI (xM x) = (200000 : Int32) by rw [show (200000 : Int32) = nI 200000 from rfl, n_EQ (by omega) (by omega)]; omega), e1, bV_some, gd_true (n_in (by omega) (by decide)), n_cl (by omega), h226', n_d10 (by omega), ← n_d10 (by omega), n_m10 (by omega), n_d10 (by omega), e2, bV_some, h226', mM_F, b68]
    unfold lnA isW at *
    by_cases q9 : a % 10 = 9
    · rw [if_pos q9, if_pos rfl]
      rw [decide_eq_false (show ¬ a % 10 ≠ 9 from fun z => z q9), Bool.false_and] at hh
      exact hh
    · obtain ⟨i, hi, e, -⟩ := ln_rd hP hSk hr q9
      rw [decide_eq_true (show a % 10 ≠ 9 from q9), Bool.true_and, e, n_clp (by omega)] at hh
      have e59 : F2 59 = nI 2 := hF2.2.2.2.2
      rw [if_neg q9, e, if_neg (by rw [n_m2 (by omega)]; exact id), e59, n_ml, nI_add, gd_true (n_in (by omega) (by decide)), n_cl (by omega), mM_o (by decide) (by decide) (by decide) (by decide), (hB.2.1 i hi).1, (hP.2.2.2.2.1 i hi).1.1]
      have hk19 := (hP.2.2.2.2.1 i hi).1.2
      by_cases q : kd P i = 18
      · rw [decide_eq_true q] at hh
        rw [if_neg (fun z => z (by rw [q]; rfl))]
        exact hh
      · rw [decide_eq_false q] at hh
        rw [if_pos (show ¬ nI (kd P i) = (18 : Int32) by rw [show (18 : Int32) = nI 18 from rfl, n_EQ (by omega) (by omega)]; exact q)]
        exact hh
  have hR2 : RWF σ F2 (xN x) (wid w) (fun i => sm w (xS x i)) := ⟨by rw [hFE 101 (by decide)]; exact hR.1, by rw [hFE 60 (by decide)]; exact hR.2.1, hR.2.2⟩
  have hnew := SV_stp hP hSk hw2 hr h10
  have h102' : F2 102 = nI (xM x) := by rw [hFE 102 (by decide)]; exact h102
  have hO2 : orM (F2 73) (ordO P nl (xS x k) a (xO x)) := by rw [b73]; exact orM_step hP hSk hr.1 hO
  have hsm : ∀ i, i < xN x → (smM (wid w) (fun i => sm w (xS x i)) s2 i ↔ eqS (xS x i) (stp P w (xS x k) (a / 10) (a % 10) nt)) := fun i hi => ⟨fun h => eqS_sm hP hw2 (x2 i hi) hnew fun j hj => (h j hj).trans (hs2 j hj), fun h j hj => (sm_eqS hw2 h j hj).trans (hs2 j hj).symm⟩
  have l417 : ∀ (i : Nat) (σ1 : qS) (F1 : fI), i < 20000 → σ1.1 226 j = nI a → F1 102 = nI (xM x) → qev en (d + 7) 358 [.ref 151, .int (nI k), .int (nI a), .int (bt (isW P (xS x k) a))] (mM σ F2 s2 y2 g2 D2) = some (some (.int (nI i)), mM σ1 F1 s2 y2 g2 D2) → ∀ r, L_X12_tryAll_296 en (d + 7) v1 v2 (nI k) v5 v6 (nI (j + 1)) (mM (uI (uI σ1 219 (xM x) (nI i)) 220 (xM x) (nI a)) (upd F1 102 (nI (xM x + 1))) s2 y2 g2 D2) = some r → L_X12_tryAll_328 en (d + 7) v1 v2 (nI k) v5 v6 (nI j) (mM σ F s y g D) = some r := by
    intro i σ1 F1 hi h6 h2 he r hh
    refine start r (le_X12_tryAll_417 en _ _ _ _ _ _ _ _ _ _ _ _ ?_)
    have m102 : ∀ τ : qS, (mM τ F1 s2 y2 g2 D2).1 151 102 = nI (xM x) := fun τ => by rw [mM_F]; exact h2
    rw [he, bI_some, if_pos (show ¬ nI i = (-3 : Int32) from fun z => nI_pos (show i < 2 ^ 31 by omega) (by rw [z]; decide)), m102, gd_true (n_in (by omega) (by decide)), nm_eq, n_cl (by omega), mM_wo (by decide) (by decide) (by decide) (by decide), gd_true (n_in (by omega) (by decide)), m102, gd_true (n_in (by omega) (by decide)), nm_eq, n_cl (by omega), n_cl (by omega), mM_o (a := 226) (by decide) (by decide) (by decide) (by decide), uI_ne (by decide), h6, mM_wo (by decide) (by decide) (by decide) (by decide), m102, nm_eq, n_ar, mM_wF, n_ar]
    exact hh
  have hE3 : ∀ (i : Nat) (σ1 : qS), (∀ e, e < xM x → σ1.1 219 e = σ.1 219 e ∧ σ1.1 220 e = σ.1 220 e) → ∀ e, e < xM x + 1 → (uI (uI σ1 219 (xM x) (nI i)) 220 (xM x) (nI a)).1 219 e = nI (at1 (xE x) (xM x) (i, a) e).1 ∧ (uI (uI σ1 219 (xM x) (nI i)) 220 (xM x) (nI a)).1 220 e = nI (at1 (xE x) (xM x) (i, a) e).2 := fun i σ1 h e he => by
    have e1 : (uI (uI σ1 219 (xM x) (nI i)) 220 (xM x) (nI a)).1 219 e = if e = xM x then nI i else σ1.1 219 e := by
      rw [uI_ne (by decide), uI_row]; rfl
    have e2 : (uI (uI σ1 219 (xM x) (nI i)) 220 (xM x) (nI a)).1 220 e = if e = xM x then nI a else σ1.1 220 e := by
      rw [uI_row, uI_ne (by decide)]; rfl
    rw [e1, e2]
    by_cases q : e = xM x
    · rw [if_pos q, if_pos q, q, at1_s]; exact ⟨rfl, rfl⟩
    · rw [if_neg q, if_neg q, at1_n q, (h e (by omega)).1, (h e (by omega)).2]; exact hE e (by omega)
  have w2 : ∀ (σ1 : qS) (i c : Nat), c ≠ 219 → c ≠ 220 → (uI (uI σ1 219 (xM x) (nI i)) 220 (xM x) (nI a)).1 c = σ1.1 c := fun σ1 i c h1 h2 => by rw [uI_ne h2, uI_ne h1]
  rcases m_numberOf (en := en) (d := d + 5) (k := w) (lim := limS w) (v1 := nI k) (v2 := nI a) (v3 := bt (isW P (xS x k) a)) (RWF_M (s := s2) (y := y2) (g := g2) (D := D2) |>.mpr hR2) mM_s hwd.1 (by rw [mM_F]; exact hF2.2.2.2.1) hw2 rfl x1 (hwd.2.imp id (fun z => by rw [z]; rfl)) (by cases isW P (xS x k) a; exact Or.inl rfl; exact Or.inr rfl) with ⟨i, hi, hs, e5⟩ | ⟨hno, ⟨hl, p, e5, r5⟩ | ⟨hl, e5⟩⟩
  · -- a state that was found
    have hfi : fndS (xS x) (stp P w (xS x k) (a / 10) (a % 10) nt) (xN x) 0 = some i := fnd_of x3 hi ((hsm i hi).mp hs)
    right
    refine ⟨(xN x, xS x, xF x, xWh x, xM x + 1, at1 (xE x) (xM x) (i, a), xA x, ordO P nl (xS x k) a (xO x)), by rw [tS, if_neg hM, hfi], _, _, s2, y2, g2, D2, l417 i σ F2 (by omega) h226 h102' e5, ⟨mb_cg (fun c h1 h2 h3 => w2 _ _ c (by omega) (by omega)) hB, hF2, ⟨(pk_un (by decide)).trans hR2.1, (pk_un (by decide)).trans hR2.2.1, hR2.2.2.1, fun i hi j hj => by rw [w2 _ _ 210 (by decide) (by decide)]; exact hR2.2.2.2.1 i hi j hj, by rw [w2 _ _ 211 (by decide) (by decide)]; exact hR2.2.2.2.2⟩, pk_us, hE3 i σ (fun _ _ => ⟨rfl, rfl⟩), fun i hi => by rw [w2 _ _ 214 (by decide) (by decide)]; exact hW i hi, fun i h1 h2 => by rw [w2 _ _ 212 (by decide) (by decide), w2 _ _ 213 (by decide) (by decide)]; exact hFd i h1 h2, by rw [w2 _ _ 212 (by decide) (by decide), w2 _ _ 213 (by decide) (by decide)]; exact h0, by rw [pk_un (by decide)]; exact hO2⟩, ⟨fun c h1 h2 => w2 _ _ c (by omega) (by omega), fun i _ => by rw [w2 _ _ 216 (by decide) (by decide), w2 _ _ 217 (by decide) (by decide)]; exact ⟨rfl, rfl⟩, fun j h1 h2 h3 => (pk_un h3).trans (hFE j h1), rfl⟩, fun i h1 h2 => absurd h2 (by show ¬ i < xN x; omega)⟩
  · -- a new one
    have hfn : fndS (xS x) (stp P w (xS x k) (a / 10) (a % 10) nt) (xN x) 0 = none := fnd_no fun i hi z => hno i hi ((hsm i hi).mpr z)
    right
    rw [nw_mM] at e5 r5
    generalize hσ1 : nwS σ (xN x) (wid w) s2 p (nI k) (nI a) (bt (isW P (xS x k) a)) = σ1 at e5 r5
    have n1 : ∀ c, c ≠ 210 → c ≠ 211 → c ≠ 212 → c ≠ 213 → c ≠ 214 → c ≠ 216 → c ≠ 217 → σ1.1 c = σ.1 c := fun c h1 h2 h3 h4 h5 h6 h7 => by
      rw [← hσ1]
      unfold nwS
      rw [uI_ne h7, uI_ne h6, uI_ne h5, uI_ne h4, uI_ne h3, uIr_ne h1, uI_ne h2]
    have n212 : ∀ i, σ1.1 212 i = if i = xN x then nI k else σ.1 212 i := fun i => by
      rw [← hσ1]
      unfold nwS
      rw [uI_ne (by decide), uI_ne (by decide), uI_ne (by decide), uI_ne (by decide), uI_row, uIr_ne (by decide), uI_ne (by decide)]; rfl
    have n213 : ∀ i, σ1.1 213 i = if i = xN x then nI a else σ.1 213 i := fun i => by
      rw [← hσ1]
      unfold nwS
      rw [uI_ne (by decide), uI_ne (by decide), uI_ne (by decide), uI_row, uI_ne (by decide), uIr_ne (by decide), uI_ne (by decide)]; rfl
    have n214 : ∀ i, σ1.1 214 i = if i = xN x then bt (isW P (xS x k) a) else σ.1 214 i := fun i => by
      rw [← hσ1]
      unfold nwS
      rw [uI_ne (by decide), uI_ne (by decide), uI_row, uI_ne (by decide), uI_ne (by decide), uIr_ne (by decide), uI_ne (by decide)]; rfl
    have n216 : ∀ i, σ1.1 216 i = if i = xN x then 0 else σ.1 216 i := fun i => by
      rw [← hσ1]
      unfold nwS
      rw [uI_ne (by decide), uI_row, uI_ne (by decide), uI_ne (by decide), uI_ne (by decide), uIr_ne (by decide), uI_ne (by decide)]; rfl
    have n217 : ∀ i, σ1.1 217 i = if i = xN x then -2 else σ.1 217 i := fun i => by
      rw [← hσ1]
      unfold nwS
      rw [uI_row, uI_ne (by decide), uI_ne (by decide), uI_ne (by decide), uI_ne (by decide), uIr_ne (by decide), uI_ne (by decide)]; rfl
    have n2 : σ1.2 = σ.2 := by rw [← hσ1]; rfl
    have r6 := (RWF_M.mp r5).cg (R' := fun i => sm w (at1 (xS x) (xN x) (stp P w (xS x k) (a / 10) (a % 10) nt) i)) (fun i hi j hj => by
      by_cases q : i = xN x
      · rw [if_pos q, q, at1_s]; exact (hs2 j hj).symm
      · rw [if_neg q, at1_n q])
    have w3 : ∀ c, c ≠ 210 → c ≠ 211 → c ≠ 212 → c ≠ 213 → c ≠ 214 → c ≠ 216 → c ≠ 217 → c ≠ 219 → c ≠ 220 → (uI (uI σ1 219 (xM x) (nI (xN x))) 220 (xM x) (nI a)).1 c = σ.1 c := fun c h1 h2 h3 h4 h5 h6 h7 h8 h9 => (w2 _ _ c h8 h9).trans (n1 c h1 h2 h3 h4 h5 h6 h7)
    refine ⟨(xN x + 1, at1 (xS x) (xN x) (stp P w (xS x k) (a / 10) (a % 10) nt), at1 (xF x) (xN x) (k, a), at1 (xWh x) (xN x) (isW P (xS x k) a), xM x + 1, at1 (xE x) (xM x) (xN x, a), xA x, ordO P nl (xS x k) a (xO x)), by rw [tS, if_neg hM, hfn]; dsimp only; rw [if_neg (by omega)], _, _, s2, y2, g2, D2, l417 (xN x) σ1 _ (by omega) (by rw [n1 226 (by decide) (by decide) (by decide) (by decide) (by decide) (by decide) (by decide)]; exact h226) ((pk_un (by decide)).trans h102') e5, ⟨mb_cg (fun c h1 h2 h3 => w3 c (by omega) (by omega) (by omega) (by omega) (by omega) (by omega) (by omega) (by omega) (by omega)) hB, hF2, ⟨(pk_un (by decide)).trans r6.1, (pk_un (by decide)).trans r6.2.1, r6.2.2.1, fun i hi j hj => by rw [w2 _ _ 210 (by decide) (by decide)]; exact r6.2.2.2.1 i hi j hj, by rw [w2 _ _ 211 (by decide) (by decide)]; exact r6.2.2.2.2⟩, pk_us, hE3 (xN x) σ1 (fun e _ => ⟨by rw [n1 219 (by decide) (by decide) (by decide) (by decide) (by decide) (by decide) (by decide)], by rw [n1 220 (by decide) (by decide) (by decide) (by decide) (by decide) (by decide) (by decide)]⟩), fun i hi => ?_, fun i h1 h2 => ?_, ?_, by rw [pk_un (by decide), pk_un (by decide)]; exact hO2⟩, ⟨fun c h1 h2 => w3 c (by omega) (by omega) (by omega) (by omega) (by omega) (by omega) (by omega) (by omega) (by omega), fun i hi => ?_, fun j h1 h2 h3 => ((pk_un h3).trans (pk_un h2)).trans (hFE j h1), n2⟩, fun i h1 h2 => ?_⟩
    · have hi : i < xN x + 1 := hi
      rw [w2 _ _ 214 (by decide) (by decide), n214]
      show _ = bt (at1 (xWh x) (xN x) (isW P (xS x k) a) i)
      by_cases q : i = xN x
      · rw [if_pos q, q, at1_s]
      · rw [if_neg q, at1_n q]; exact hW i (by omega)
    · have h2 : i < xN x + 1 := h2
      rw [w2 _ _ 212 (by decide) (by decide), w2 _ _ 213 (by decide) (by decide), n212, n213]
      show _ = nI (at1 (xF x) (xN x) (k, a) i).1 ∧ _ = nI (at1 (xF x) (xN x) (k, a) i).2
      by_cases q : i = xN x
      · rw [if_pos q, if_pos q, q, at1_s]; exact ⟨rfl, rfl⟩
      · rw [if_neg q, if_neg q, at1_n q]; exact hFd i h1 (by omega)
    · rw [w2 _ _ 212 (by decide) (by decide), w2 _ _ 213 (by decide) (by decide), n212, n213, if_neg (by omega), if_neg (by omega)]
      exact h0
    · rw [w2 _ _ 216 (by decide) (by decide), w2 _ _ 217 (by decide) (by decide), n216, n217, if_neg (by omega), if_neg (by omega)]
      exact ⟨rfl, rfl⟩
    · have h2 : i < xN x + 1 := h2
      rw [w2 _ _ 216 (by decide) (by decide), w2 _ _ 217 (by decide) (by decide), n216, n217, if_pos (by omega), if_pos (by omega)]
      exact ⟨rfl, rfl⟩
  · -- no room
    have hfn : fndS (xS x) (stp P w (xS x k) (a / 10) (a % 10) nt) (xN x) 0 = none := fnd_no fun i hi z => hno i hi ((hsm i hi).mpr z)
    left
    refine ⟨by rw [tS, if_neg hM, hfn]; dsimp only; rw [if_pos (by omega)], σ, F2, s2, y2, g2, D2, start _ (le_X12_tryAll_417 en _ _ _ _ _ _ _ _ _ _ _ _ ?_), ⟨fun _ _ _ => rfl, fun _ _ => ⟨rfl, rfl⟩, fun j h1 _ _ => hFE j h1, rfl⟩⟩
    rw [e5, bI_some, if_neg (fun z => z rfl)]
end MU
