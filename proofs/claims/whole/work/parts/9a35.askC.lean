/-! THE RUN: its ready steps and its steps told, both sides. -/
section QC
variable {en : pN} {d : Nat} {σ τ : qS} {p w nc nl nt n len t : Nat} {P f g : Nat → fI} {N T : fI} {u v : Int32}
def rdR (L : List Nat) (u : Int32) : Int32 := if u < 0 then -2 else if h : clp u < L.length then nI L[clp u] else -2
theorem x_readyQ (h : RXi τ p P w N len f) (hP : PV P nc nl nt n) (hS : SV P w nc nl nt n N) (hw2 : w ≤ 2) : ∃ τ', qev en (d + 7) 208 [.ref 0, .int u] τ = some (some (.int (rdR (rdl P w N nt nt) u)), τ') ∧ frX τ τ' ∧ RXi τ' p P w N len f := by
  have hpic := rx_pic h
  obtain ⟨hB, hN, hw, hl, hv, hf, hA⟩ := h
  obtain ⟨F3, G3, R3, b3, e3, f3, -, hr, h40⟩ := x_list (en := en) (d := d) (σ := rnS τ (nI len) f (τ.2.1 124)) (F := τ.1 112) (G := τ.1 10) (b := τ.1 7 4) (rn_XB hB) hP hS hw hw2
  rw [hpic, show (112 : Nat) + 3 = 115 from rfl, rn_r] at e3
  have e115 : (mS (rnS (uIr τ 115 R3) (nI len) f (τ.2.1 124)) 112 F3 N b3 G3).1 115 = R3 := by
    rw [mS_o (by decide) (by decide) (by decide) (by decide), rn_o (by decide) (by decide)]
    funext k
    show (if (115 : Nat) = 115 then R3 k else τ.1 115 k) = R3 k
    exact if_pos rfl
  refine ⟨mS (rnS (uIr τ 115 R3) (nI len) f (τ.2.1 124)) 112 F3 N b3 G3, le_X11_ready en (d + 6) _ _ _ ?_, fx_pic, rx_mkR hB ((f3 8 (by decide)).trans hw) hv hA⟩
  rw [if_pos hv, e3, bI_some]
  unfold rdR
  by_cases a0 : u < 0
  · rw [if_pos a0, if_pos a0]
  rw [if_neg a0, if_neg a0]
  obtain ⟨k, hk, rfl⟩ := nI_of a0
  have ek : clp (nI k) = k := n_clp hk
  by_cases a1 : k < (rdl P w N nt nt).length
  · rw [if_pos (by rw [n_LT (by omega) (by omega)]; exact a1), dif_pos (by rw [ek]; exact a1), gd_true (n_in (by omega) (by decide)), e115, n_cl (by omega), hr k a1]
    simp only [ek]
  · rw [if_neg (by rw [n_LT (by omega) (by omega)]; exact a1), dif_neg (by rw [ek]; exact a1)]
theorem m_readyQ (hm : RMi σ P w N nc nl nt n len g) (hP : PV P nc nl nt n) (hS : SV P w nc nl nt n N) (hw2 : w ≤ 2) : ∃ σ', qev en (d + 9) 333 [.ref 151, .int u] σ = some (some (.int (rdR (rdl P w N nt nt) u)), σ') ∧ frM σ σ' ∧ RMi σ' P w N nc nl nt n len g := by
  have hpic := rm_pic hm
  have hl40 := rdl_len hP hS
  obtain ⟨hB, hR, hW, ⟨h12, h16, h18, h76, h78, h74⟩, hg, hX⟩ := hm
  obtain ⟨F1, g1, R1, s1, e1, f1, hM1, h66, hR1, hr1⟩ := m_readyNow (en := en) (d := d) (W := σ.1 192) (g := g) (X := σ.2.1 199) (y := σ.1 188) (gg := σ.1 189) (s' := σ.1 187) (D := σ.2.1 151 72) hB hP hS hR h12 h16 h18 h76 hw2
  rw [hpic] at e1
  refine ⟨mM (kpS (uIr σ 190 R1) (σ.1 191) (σ.1 192) g (σ.2.1 199)) F1 s1 (σ.1 188) g1 (σ.2.1 151 72), le_X12_ready en (d + 8) _ _ _ ?_, fm_pic (fun k hk _ _ => f1 k hk), rm_mk (mb_190 hB) hR hW hM1.1 hM1.2.1 hM1.2.2.1 ((f1 76 (by decide)).trans h76) ((f1 78 (by decide)).trans h78) (by rw [f1 74 (by decide)]; exact h74) hX⟩
  rw [if_pos h74, e1, bI_some]
  unfold rdR
  by_cases a0 : u < 0
  · rw [if_pos a0, if_pos a0]
  rw [if_neg a0, if_neg a0]
  obtain ⟨k, hk, rfl⟩ := nI_of a0
  have ek : clp (nI k) = k := n_clp hk
  by_cases a1 : k < (rdl P w N nt nt).length
  · rw [if_pos (by rw [n_LT (by omega) (by omega)]; exact a1), dif_pos (by rw [ek]; exact a1), gd_true (n_in (by omega) (by decide)), mk_190, n_cl (by omega), hr1 k a1]
    simp only [ek]
  · rw [if_neg (by rw [n_LT (by omega) (by omega)]; exact a1), dif_neg (by rw [ek]; exact a1)]
/-- what is told of a step -/
def spR (len : Nat) (f : Nat → fI) (u v : Int32) : Int32 := if u = -1 then (if v = 0 then nI len else -1) else if u < 0 then -1 else if nI len ≤ u then -1 else if v < 0 then -1 else if v ≤ 2 then f (clp v) (clp u) else -1
theorem x_stepQ (h : RXi τ p P w N len f) (hlen : len ≤ 200) : qev en (d + 1) 215 [.ref 0, .int u, .int v] τ = some (some (.int (spR len f u v)), τ) := by
  obtain ⟨hB, hN, hw, hl, hv, hf, hA⟩ := h
  refine le_X11_step en d _ _ _ _ ?_
  rw [if_pos hv, hl]
  unfold spR
  by_cases a : u = -1
  · rw [if_neg (fun z => z a), if_pos a]
    by_cases b : v = 0
    · rw [if_neg (fun z => z b), if_pos b]
    · rw [if_pos b, if_neg b]
  rw [if_pos a, if_neg a]
  by_cases a0 : u < 0
  · rw [if_pos a0, if_pos a0]
  rw [if_neg a0, if_neg a0]
  by_cases a1 : nI len ≤ u
  · rw [if_pos a1, if_pos a1]
  rw [if_neg a1, if_neg a1]
  by_cases b0 : v < 0
  · rw [if_pos b0, if_pos b0]
  rw [if_neg b0, if_neg b0]
  by_cases b1 : v ≤ 2
  · obtain ⟨k, hk, rfl⟩ := nI_of a0
    obtain ⟨m, hm, rfl⟩ := nI_of b0
    have a2 : k < len := by rw [n_LE (by omega) (by omega)] at a1; omega
    have b2 : m ≤ 2 := by rw [n_ge (by decide) (by omega)] at b1; exact b1
    rw [if_pos b1, if_pos b1, gd_true (n_in (by omega) (by decide)), gd_true (n_in (by omega) (by decide)), n_cl (by omega), n_cl (by omega), hf m (by omega), show clp (nI k) = k from n_clp (by omega), show clp (nI m) = m from n_clp (by omega)]
  · rw [if_neg b1, if_neg b1]
theorem m_stepQ (hm : RMi σ P w N nc nl nt n len g) (hs : ∀ i, i < len → sR P n f g i) (hlen : len ≤ 200) : qev en (d + 1) 342 [.ref 151, .int u, .int v] σ = some (some (.int (spR len f u v)), σ) := by
  obtain ⟨hB, hR, hW, ⟨h12, h16, h18, h76, h78, h74⟩, hg, hX⟩ := hm
  have l16 : ¬ (u = -1 ∧ ¬ v = 0) → L_X12_step_16 en d u v σ = some (some (.int (spR len f u v)), σ) := by
    intro hh
    refine le_X12_step_16 en d _ _ _ _ ?_
    rw [h78]
    unfold spR
    by_cases a : u = -1
    · have b : v = 0 := Decidable.not_not.mp (fun z => hh ⟨a, z⟩)
      subst a b
      rw [if_neg (by decide), if_neg (show ¬ nI len ≤ (-1 : Int32) from fun z => by
        have h1 := Int32.le_iff_toInt_le.mp z
        rw [n_to (by omega)] at h1
        have h0 : (-1 : Int32).toInt = -1 := by decide
        omega), if_neg (by decide), if_pos (by decide), if_neg (fun z => z rfl), if_pos rfl, if_pos rfl]
    rw [if_neg a]
    by_cases a0 : u < 0
    · have : u < -1 := by
        refine Int32.lt_iff_toInt_lt.mpr ?_
        have h1 := Int32.lt_iff_toInt_lt.mp a0
        have h2 : u.toInt ≠ (-1 : Int32).toInt := fun z => a (Int32.toInt_inj.mp z)
        have e0 : (0 : Int32).toInt = 0 := by decide
        have e1 : (-1 : Int32).toInt = -1 := by decide
        omega
      rw [if_pos this, if_pos a0]
    obtain ⟨k, hk, rfl⟩ := nI_of a0
    have nm1 : ¬ nI k < -1 := fun z => by
      have h1 := Int32.lt_iff_toInt_lt.mp z
      rw [n_to (by omega)] at h1
      have e1 : (-1 : Int32).toInt = -1 := by decide
      omega
    rw [if_neg nm1, if_neg a0]
    by_cases a1 : nI len ≤ nI k
    · rw [if_pos a1, if_pos a1]
    rw [if_neg a1, if_neg a1]
    by_cases b0 : v < 0
    · rw [if_pos b0, if_pos b0]
    rw [if_neg b0, if_neg b0]
    by_cases b1 : v ≤ 2
    · obtain ⟨m, hm, rfl⟩ := nI_of b0
      have a2 : k < len := by rw [n_LE (by omega) (by omega)] at a1; omega
      have b2 : m ≤ 2 := by rw [n_ge (by decide) (by omega)] at b1; exact b1
      obtain ⟨⟨s0, s1, s2, -⟩, -⟩ := hs k a2
      rw [if_pos b1, if_pos b1, if_pos a, gd_true (n_in (by omega) (by decide)), gd_true (n_in (by omega) (by decide)), gd_true (n_in (by omega) (by decide)), n_cl (by omega), show clp (nI k) = k from n_clp (by omega), show clp (nI m) = m from n_clp (by omega), show σ.1 193 = g 0 from hg 0 (by decide), show σ.1 194 = g 1 from hg 1 (by decide), show σ.1 195 = g 2 from hg 2 (by decide), ← s0, ← s1, ← s2]
      rcases (by omega : m = 0 ∨ m = 1 ∨ m = 2) with z | z | z
      · subst z
        rw [if_neg (show ¬ ¬ nI 0 = (0 : Int32) by decide)]
      · subst z
        rw [if_pos (show ¬ nI 1 = (0 : Int32) by decide), if_neg (show ¬ ¬ nI 1 = (1 : Int32) by decide)]
      · subst z
        rw [if_pos (show ¬ nI 2 = (0 : Int32) by decide), if_pos (show ¬ nI 2 = (1 : Int32) by decide)]
    · rw [if_neg b1, if_neg b1]
  refine le_X12_step en d _ _ _ _ ?_
  rw [if_neg h74]
  by_cases a : u = -1
  · rw [if_neg (fun z => z a)]
    by_cases b : v = 0
    · rw [if_neg (fun z => z b)]
      exact l16 (fun z => z.2 b)
    · rw [if_pos b]
      unfold spR
      rw [if_pos a, if_neg b]
  · rw [if_pos a]
    exact l16 (fun z => a z.1)
end QC
