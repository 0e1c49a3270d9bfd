/-! LAWS, the model's side: which states a fact holds in. -/
/-- what laying facts leaves alone, of the fields -/
abbrev fcF (F F' : fI) : Prop := ∀ j, j ≠ 58 → j ≠ 59 → j ≠ 60 → j ≠ 62 → j ≠ 64 → F' j = F j
/-- the model's nodes of a law tell what the class's do -/
abbrev LM (σ : qS) (O Q : fI) (a e : Nat) : Prop := ndsR σ O Q 0 400 a e
section FCM
variable {en : pN} {d w nc nl nt n k a e z : Nat} {ρ σ : qS} {F F0 s y g O Q : fI} {D : Int64} {P : Nat → fI} {X : xT} {c1 : Bool}
theorem m_factsLoop (hw2 : w ≤ 2) (hX : XV P w nc nl nt n X) (h99 : F0 99 = nI w) (h101 : F0 101 = nI (xN X)) (hR : ∀ i, i < xN X → ∀ j, j < wid w → ρ.1 210 (i * wid w + j) = sm w (xS X i) j)
    (hE : ∀ i, i < xN X → ρ.1 216 i = bt (endC P w (xS X i) nt) ∧ ρ.1 217 i = if endC P w (xS X i) nt = true then nI (outN P w nt (xS X) i) else -2)
    (hO : ∀ j, j < (outL P w nt (xS X) (xN X)).length → ρ.1 225 j = nI (soS (xS X ((outL P w nt (xS X) (xN X)).getD j 0)) nt)) (hL : LV O Q a e) (hM : LM ρ O Q a e) (hz : z = if c1 = true then 234 else 233) : ∀ (m v : Nat) (F s g R : fI), v + m = xN X → fcF F0 F → (∀ u, u < v → R u = bt (lawB P w nt X O Q a e u)) → ∃ (F' s' g' R' : fI), L_X12_layFacts_3 en (d + 4) (nI (400 + a)) (nI (400 + e)) (bt c1) (nI v) (mM (uIr ρ z R) F s y g D) = some (none, mM (uIr ρ z R') F' s' y g' D) ∧ fcF F0 F' ∧ ∀ u, u < xN X → R' u = bt (lawB P w nt X O Q a e u) := by
  have hlim := @lim_le w
  have hxN := hX.1.2
  have hzz : z = 233 ∨ z = 234 := by
    rw [hz]; split
    · exact Or.inr rfl
    · exact Or.inl rfl
  have zr : ∀ (R : fI) (F s g : fI) b, b ≠ 151 → b ≠ 187 → b ≠ 188 → b ≠ 189 → b ≠ z → (mM (uIr ρ z R) F s y g D).1 b = ρ.1 b := fun R F s g b h1 h2 h3 h4 h5 => by rw [mM_o h1 h2 h3 h4, uIr_ne h5]
  intro m
  induction m with
  | zero =>
    intro v F s g R hv hF hRv
    refine ⟨F, s, g, R, le_X12_layFacts_3 en _ _ _ _ _ _ _ ?_, hF, fun u hu => hRv u (by omega)⟩
    rw [show (mM (uIr ρ z R) F s y g D).1 151 101 = F 101 from by rw [mM_F], hF 101 (by decide) (by decide) (by decide) (by decide) (by decide), h101, if_pos (by rw [n_LE (by omega) (by omega)]; omega)]
  | succ m ih =>
    intro v F s g R hv hF hRv
    have hvN : v < xN X := by omega
    obtain ⟨s1, e383, hR1⟩ := m_takeS (en := en) (d := d + 2) (F := F) (s := s) (y := y) (g := g) (D := D) (ρ := uIr ρ z R) hw2 hX ((hF 99 (by decide) (by decide) (by decide) (by decide) (by decide)).trans h99) (fun i hi j hj => by rw [uIr_ne (by omega)]; exact hR i hi j hj) hvN
    let B : Bool := stkB P w nt X v
    let F1 : fI := upd (upd (tkF w F) 64 (bt B)) 62 0
    let N1 : fI := upd (xS X v) 234 (bt B)
    have hMR : MR w N1 s1 := fun i hi => (hR1 i hi).trans (sm_eqS hw2 (fun j hj => (pk_un (by omega)).symm) i hi)
    have hM' : ndsR (uIr ρ z R) O Q 0 400 a e := fun j h1 h2 k hk hk' => by
      obtain ⟨K, k1, k2⟩ := hM j h1 h2 k hk hk'
      exact ⟨K, by rw [uIr_ne (by omega)]; exact k1, by rw [uIr_ne (by omega)]; exact k2⟩
    have F164 : F1 64 = bt B := by rw [show F1 = upd (upd (tkF w F) 64 (bt B)) 62 0 from rfl, pk_un (by decide), pk_us]
    obtain ⟨v', b', g', h1, h2, h3, h4⟩ := m_exL (en := en) (d := d) (D := D) (y := y) (off := 400) (t := 0) (σ := uIr ρ z R) (N := N1) (s := s1) hMR (by decide) (by omega) hL.1.2 (e - a) a 0 (fun _ => 0) g F1 (by omega) (Nat.zero_le _) hL.2.1 hM' (fun j _ _ _ => by
      rw [F164]
      exact ⟨by cases B <;> decide, pk_us⟩) (fun _ j hj => absurd hj (Nat.not_lt_zero _)) (fun _ => rfl) (Or.inl pk_us)
    obtain ⟨h5, h6⟩ := h4 pk_us
    have hlaw : lawB P w nt X O Q a e v = lwT O Q N1 a e := rfl
    have e296 : qev en (d + 4) 296 [.ref 151, .int (nI (400 + a)), .int (nI (400 + e)), .int (0 : Int32)] (mM (uIr ρ z R) (upd (tkF w F) 64 (bt B)) s1 y g D) = some (some (.int v'), mM (uIr ρ z R) (upd F1 62 b') s1 y g' D) := by
      refine le_X12_worked en (d + 3) _ _ _ _ _ ?_
      have h0 : (0 : Int32) ≤ nI (400 + a) := nI_pos' (by omega)
      simp only [nm_eq, mM_wF, h0, if_true]
      exact h1
    let F2 : fI := upd F1 62 b'
    have hF2 : fcF F0 F2 := fun j a1 a2 a3 a4 a5 => by
      show upd (upd (upd (upd (upd (upd F 59 2) 58 (nI w)) 60 (nI (wid w))) 64 (bt B)) 62 0) 62 b' j = _
      rw [pk_un a4, pk_un a4, pk_un a5, pk_un a3, pk_un a1, pk_un a2]; exact hF j a1 a2 a3 a4 a5
    have fin : ∃ (F' s' g'' R' : fI), L_X12_layFacts_3 en (d + 4) (nI (400 + a)) (nI (400 + e)) (bt c1) (nI (v + 1)) (mM (uIr ρ z (upd R v (bt (lawB P w nt X O Q a e v)))) F2 s1 y g' D) = some (none, mM (uIr ρ z R') F' s' y g'' D) ∧ fcF F0 F' ∧ ∀ u, u < xN X → R' u = bt (lawB P w nt X O Q a e u) := ih (v + 1) F2 s1 g' (upd R v (bt (lawB P w nt X O Q a e v))) (by omega) hF2 (fun u hu => by
      by_cases q : u = v
      · rw [q, pk_us]
      · rw [pk_un q]; exact hRv u (by omega))
    obtain ⟨F', s', g'', R', y1, y2, y3⟩ := fin
    refine ⟨F', s', g'', R', le_X12_layFacts_3 en _ _ _ _ _ _ _ ?_, y2, y3⟩
    -- the fact is written
    have f78 : L_X12_layFacts_78 en (d + 4) (nI (400 + a)) (nI (400 + e)) (bt c1) (nI v) (bt (lawB P w nt X O Q a e v)) (mM (uIr ρ z R) F2 s1 y g' D) = some (none, mM (uIr ρ z R') F' s' y g'' D) := by
      refine le_X12_layFacts_78 en _ _ _ _ _ _ _ _ ?_
      have ev : vp_nar .boolean (bt (lawB P w nt X O Q a e v)) = bt (lawB P w nt X O Q a e v) := by cases lawB P w nt X O Q a e v <;> decide
      cases hc : c1
      · rw [hc, if_neg (by decide)] at hz
        subst hz
        rw [if_pos (show bt false = (0 : Int32) from rfl), gd_in (by omega) (by decide), n_cl (by omega), ev, nm_eq, mM_wo (by decide) (by decide) (by decide) (by decide), uIr_u, show nI v + (1 : Int32) = nI (v + 1) from n_ar]
        rw [hc] at y1; exact y1
      · rw [hc, if_pos rfl] at hz
        subst hz
        rw [if_neg (show ¬ bt true = (0 : Int32) by decide), gd_in (by omega) (by decide), n_cl (by omega), ev, nm_eq, mM_wo (by decide) (by decide) (by decide) (by decide), uIr_u, show nI v + (1 : Int32) = nI (v + 1) from n_ar]
        rw [hc] at y1; exact y1
    have f49 : L_X12_layFacts_49 en (d + 4) (nI (400 + a)) (nI (400 + e)) (bt c1) (nI v) (bt B) (mM (uIr ρ z R) (tkF w F) s1 y g D) = some (none, mM (uIr ρ z R') F' s' y g'' D) := by
      refine le_X12_layFacts_49 en _ _ _ _ _ _ _ _ ?_
      rw [gd_true bt_B, mM_wF, nm_eq, e296, bI_some, show (mM (uIr ρ z R) (upd F1 62 b') s1 y g' D).1 151 62 = b' from by rw [mM_F, pk_us]]
      have hx : wk O Q N1 (e - a) a (fun _ => 0) 0 = lwE O Q N1 a e := rfl
      rw [hx] at h5 h6
      have ht : lawB P w nt X O Q a e v = (match lwE O Q N1 a e with
        | none => false
        | some x => decide (x ≠ 0)) := rfl
      cases hq : lwE O Q N1 a e with
      | none =>
        rw [hq] at h5 ht
        rw [if_pos (by rw [h5]; decide)]
        have ht' : lawB P w nt X O Q a e v = false := ht
        rw [ht'] at f78; exact f78
      | some x =>
        rw [hq] at h5 h6 ht
        have ht' : lawB P w nt X O Q a e v = decide (x ≠ 0) := ht
        have hx' : v' = x := h6 (fun z => by cases z)
        rw [if_neg (by rw [h5]; exact not_not_intro rfl), hx']
        by_cases q : x = 0
        · rw [if_pos q]
          rw [ht', decide_eq_false (not_not_intro q)] at f78; exact f78
        · rw [if_neg q]
          rw [ht', decide_eq_true q] at f78; exact f78
    rw [show (mM (uIr ρ z R) F s y g D).1 151 101 = F 101 from by rw [mM_F], hF 101 (by decide) (by decide) (by decide) (by decide) (by decide), h101, if_neg (by rw [n_LE (by omega) (by omega)]; omega), e383, bV_some, gd_in (by omega) (by decide), n_cl (by omega), zr _ _ _ _ 216 (by decide) (by decide) (by decide) (by decide) (by omega), (hE v hvN).1]
    have hB : B = (endC P w (xS X v) nt && !decide (soS (xS X v) nt = 0)) := rfl
    cases he : endC P w (xS X v) nt
    · rw [if_pos (show bt false = (0 : Int32) from rfl)]
      rw [he, Bool.false_and] at hB
      rw [hB] at f49; exact f49
    · obtain ⟨o1, o2⟩ := out_at (P := P) (w := w) (nt := nt) (S := xS X) hvN he
      have hol := outL_len (P := P) (w := w) (nt := nt) (S := xS X) (xN X)
      have h217 := (hE v hvN).2
      rw [if_pos he] at h217
      rw [if_neg (show ¬ bt true = (0 : Int32) by decide), zr _ _ _ _ 217 (by decide) (by decide) (by decide) (by decide) (by omega), h217, gd_in (by omega) (by decide), n_cl (by omega), zr _ _ _ _ 225 (by decide) (by decide) (by decide) (by decide) (by omega), hO _ o1, o2.1]
      have so3 : soS (xS X v) nt ≤ 2 := soF_le nt 0 true
      by_cases q : soS (xS X v) nt = 0
      · rw [if_pos (by rw [q]; rfl)]
        rw [he, decide_eq_true q] at hB
        rw [hB] at f49; exact f49
      · rw [if_neg (by rw [n_eq (by decide) (by omega)]; exact q)]
        rw [he, decide_eq_false q] at hB
        rw [hB] at f49; exact f49
end FCM
