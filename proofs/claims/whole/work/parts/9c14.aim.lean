/-! THE READER: which threads are started or joined, on both sides. -/
/-- lines below v that start or join know their thread -/
abbrev aiI (s : qS) (nt v : Nat) : Prop := ∀ i, i < v → s.1 18 i = 10 ∨ s.1 18 i = 11 → ∃ u, u < nt ∧ s.1 20 i = nI u
section AIM
variable {en : pN} {d d' k i i' n N j x y c u v q nc nc' nl nl' nt nt' m D b a e : Nat} {V V' cl cl' th K : Nat → Nat} {U : Nat → Nat → Nat} {bl : Nat → List Nat} {s s' s'' t t' t'' : qS} {B : Nat → Nat} {w z v1 : Int32} {W : Int64} {F p : Nat}
theorem nmR_ui (h : nmR s t V U cl nc nl nt) (h1 : a ≠ 11) (h2 : a ≠ 14) (h3 : e ≠ 151) (h4 : e ≠ 159) : nmR (uI s a i w) (uI t e j z) V U cl nc nl nt := by
  obtain ⟨g1, ⟨g2, g3, g4⟩, g5, g6, g7, g8⟩ := h
  exact ⟨g1, ⟨by rw [uI_ne (Ne.symm h1)]; exact g2, by rw [uI_ne (Ne.symm h1)]; exact g3, by rw [uI_ne (Ne.symm h1)]; exact g4⟩, ⟨by rw [uI_ne (Ne.symm h3)]; exact g5.1, by rw [uI_ne (Ne.symm h3)]; exact g5.2.1, by rw [uI_ne (Ne.symm h3)]; exact g5.2.2⟩, g6, g7, fun u hu => by rw [uI_ne (Ne.symm h2), uI_ne (Ne.symm h4)]; exact g8 u hu⟩
theorem tpS_aim (h : tpS s t V U cl nc nl nt m N th K bl) (hi : i < N) (hk : s.1 18 i = 10 ∨ s.1 18 i = 11) : tpS (uI s 20 i w) (uI t 166 i w) V U cl nc nl nt m N th K bl := by
  obtain ⟨hn, ⟨⟨a1, a2⟩, a3, ⟨a4, a5, a6⟩, a7, a8⟩, ⟨b1, b2, b3, b4⟩, hln, hG, hW, hc, hl⟩ := h
  refine ⟨nmR_ui hn (by decide) (by decide) (by decide) (by decide), ⟨⟨by rw [uI_ne (by decide)]; exact a1, by rw [uI_ne (by decide)]; exact a2⟩, a3, ⟨by rw [uI_ne (by decide)]; exact a4, by rw [uI_ne (by decide)]; exact a5, a6⟩, by rw [uI_ne (by decide)]; exact a7, by rw [uI_ne (by decide)]; exact a8⟩, ⟨by rw [uI_ne (by decide)]; exact b1, by rw [uI_ne (by decide)]; exact b2, b3, fun p p1 p2 p3 => by rw [uI_ne (by decide)]; exact b4 p p1 p2 p3⟩, fun i' hi' => ?_, lnG_eq hG (fun a ha => uI_ne (by omega)) (fun a ha => uI_ne (by omega)), hW, clR_eq hc (uI_ne (by decide)) (by rw [uI_ne (by decide)]) (uI_ne (by decide)) (uI_ne (by decide)), laR_eq hl (by rw [uI_ne (by decide)]) (uI_ne (by decide))⟩
  by_cases q : i' = i
  · subst q
    obtain ⟨k, ⟨c1, c2, c3⟩, ⟨c4, c5, c6⟩, c7, ⟨c8, c9⟩, ⟨c10, c11⟩, c12, ⟨c13, c14⟩, c15, c16, c17, c18, c19, c20⟩ := hln i' hi
    have hk' : k = 10 ∨ k = 11 := by
      rw [c2] at hk
      rcases hk with z | z
      · left; rw [n_eq (by decide) (by omega)] at z; exact z
      · right; rw [n_eq (by decide) (by omega)] at z; exact z
    have ex : ∀ A E A' E' : Int32, exA s t (th i') m A E A' E' → exA (uI s 20 i' w) (uI t 166 i' w) (th i') m A E A' E' := fun A E A' E' h => exA_fr h (Nat.le_refl m) a6 (stF.ui (N := i') (Or.inl ⟨by decide, by decide⟩)) (smF.ui (N := i') rfl)
    refine ⟨k, ⟨c1, by rw [uI_ne (by decide)]; exact c2, by rw [uI_ne (by decide)]; exact c3⟩, ⟨c4, by rw [uI_ne (by decide)]; exact c5, by rw [uI_ne (by decide)]; exact c6⟩, by rw [rdW, rdW], ⟨fun z1 z2 => by omega, fun z1 z2 => by omega⟩, ⟨by rw [uI_ne (by decide), uI_ne (by decide)]; exact c10, by rw [uI_ne (by decide)]; exact c11⟩, by rw [uI_ne (by decide), uI_ne (by decide)]; exact c12, ⟨by rw [uI_ne (by decide)]; exact c13, by rw [uI_ne (by decide)]; exact c14⟩, ?_, ?_, ?_, ?_, fun z1 => by omega, ?_⟩
    · rw [uI_ne (show 23 ≠ 20 by decide), uI_ne (show 24 ≠ 20 by decide), uI_ne (show 176 ≠ 166 by decide), uI_ne (show 177 ≠ 166 by decide)]
      exact ex _ _ _ _ c15
    · rw [uI_ne (show 25 ≠ 20 by decide), uI_ne (show 26 ≠ 20 by decide), uI_ne (show 178 ≠ 166 by decide), uI_ne (show 179 ≠ 166 by decide)]
      exact ex _ _ _ _ c16
    · rw [uI_ne (show 23 ≠ 20 by decide), uI_ne (show 24 ≠ 20 by decide)]; exact c17
    · rw [uI_ne (show 25 ≠ 20 by decide), uI_ne (show 26 ≠ 20 by decide)]; exact c18
    · rw [uI_ne (show 68 ≠ 20 by decide), uI_ne (show 183 ≠ 166 by decide)]; exact c20
  · exact lnB_fr (hln i' hi') q (Nat.le_refl m) a6 (fun _ => Nat.le_refl _) (stF.ui (Or.inl ⟨by decide, by decide⟩)) (smF.ui rfl)
/-- what aiming changes -/
abbrev aiX (s s' : qS) : Prop := (∀ a, a ≠ 20 → a ≠ 65 → s'.1 a = s.1 a) ∧ (∀ j, j ≠ 11 → j ≠ 12 → s'.1 65 j = s.1 65 j) ∧ s'.2 = s.2
abbrev aiM (t t' : qS) : Prop := (∀ a, a ≠ 166 → a ≠ 151 → t'.1 a = t.1 a) ∧ (∀ j, j ≠ 7 → j ≠ 8 → t'.1 151 j = t.1 151 j) ∧ t'.2 = t.2
theorem aim_al : ∀ (z v : Nat) (s t : qS), v + z = N → tpS s t V U cl nc nl nt m N th K bl → s.1 65 11 = 0 → t.1 151 7 = 0 → aiI s nt v → ∃ s' t', L_X6_aimThreads_2 en (d + 1) (nI v) s = some (none, s') ∧ (∀ r, L_X12_program_285 en (d' + 1) t' = some r → L_X12_program_205 en (d' + 1) (nI v) t = some r) ∧ aiX s s' ∧ aiM t t' ∧ (s'.1 65 11 = 0 → s'.1 65 12 = s.1 65 12) ∧ ((tpS s' t' V U cl nc nl nt m N th K bl ∧ s'.1 65 11 = 0 ∧ t'.1 151 7 = 0 ∧ aiI s' nt N) ∨ ∃ p : Nat, s'.1 65 11 = nI 5 ∧ s'.1 65 12 = nI p ∧ mtD t' 5 p) := by
  intro z
  induction z with
  | zero =>
    intro v s t hz hS h11 h7 hai
    have hN := hS.2.2.1
    refine ⟨s, t, le_X6_aimThreads_2 en _ _ _ _ ?_, fun r hr => le_X12_program_205 en _ _ _ _ ?_, ⟨fun _ _ _ => rfl, fun _ _ _ => rfl, rfl⟩, ⟨fun _ _ _ => rfl, fun _ _ _ => rfl, rfl⟩, fun _ => rfl, Or.inl ⟨hS, h11, h7, by rw [← hz]; exact hai⟩⟩
    · rw [hN.1, if_pos (by rw [n_LE (by omega) (by omega)]; omega)]
    · rw [hN.2.1, if_pos (by rw [n_LE (by omega) (by omega)]; omega)]
      exact hr
  | succ z ih =>
    intro v s t hz hS h11 h7 hai
    obtain ⟨hn, -, ⟨hN1, hN2, hN3, -⟩, hln, -⟩ := id hS
    have hb3 := hn.1
    obtain ⟨k, ⟨k1, k2, k3⟩, -, -, -, -, -, -, -, -, -, -, -, hw⟩ := hln v (by omega)
    have ev : nI v + (1 : Int32) = nI (v + 1) := n_ar
    have preX : ∀ r, (if nI k = (10 : Int32) then L_X6_aimThreads_44 en (d + 1) (nI v) s else if ¬ nI k = (11 : Int32) then L_X6_aimThreads_2 en (d + 1) (nI (v + 1)) s else L_X6_aimThreads_44 en (d + 1) (nI v) s) = some r → L_X6_aimThreads_2 en (d + 1) (nI v) s = some r := fun r hr => by
      refine le_X6_aimThreads_2 en _ _ _ _ ?_
      rw [hN1, if_neg (by rw [n_LE (by omega) (by omega)]; omega), if_neg (not_not_intro h11), gd_in (by omega) (by decide), n_cl (by omega), nm_eq, k2, ev]
      exact hr
    have preM : ∀ r, (if nI k = (10 : Int32) then L_X12_program_242 en (d' + 1) (nI v) t else if ¬ nI k = (11 : Int32) then L_X12_program_205 en (d' + 1) (nI (v + 1)) t else L_X12_program_242 en (d' + 1) (nI v) t) = some r → L_X12_program_205 en (d' + 1) (nI v) t = some r := fun r hr => by
      refine le_X12_program_205 en _ _ _ _ ?_
      rw [hN2, if_neg (by rw [n_LE (by omega) (by omega)]; omega), m_goodL h7, bI_some, if_neg (by decide), gd_in (by omega) (by decide), n_cl (by omega), k3, ev]
      exact hr
    by_cases q : k = 10 ∨ k = 11
    · obtain ⟨W, p, ⟨w1, w2⟩, w3, w4, w5, w6, w7⟩ := hw q
      obtain ⟨x, y, zz, r, e1, -, -, e4, hcase⟩ := name_alike (en := en) hn w1 w2
      have hkk : s.1 18 v = 10 ∨ s.1 18 v = 11 := by
        rw [k2]
        rcases q with q | q
        · left; rw [q]; rfl
        · right; rw [q]; rfl
      have pX : ∀ r, L_X6_aimThreads_44 en (d + 1) (nI v) s = some r → L_X6_aimThreads_2 en (d + 1) (nI v) s = some r := fun r hr => preX r (by
        rcases q with q | q
        · rw [if_pos (by rw [q]; rfl)]; exact hr
        · rw [if_neg (by rw [q]; decide), if_neg (by rw [q]; decide)]; exact hr)
      have pM : ∀ r, L_X12_program_242 en (d' + 1) (nI v) t = some r → L_X12_program_205 en (d' + 1) (nI v) t = some r := fun r hr => preM r (by
        rcases q with q | q
        · rw [if_pos (by rw [q]; rfl)]; exact hr
        · rw [if_neg (by rw [q]; decide), if_neg (by rw [q]; decide)]; exact hr)
      have qX : ∀ r, (if ¬ (if x < 12 then (0 : Int32) else 1) = (0 : Int32) then L_X6_aimThreads_2 en (d + 1) (nI (v + 1)) (uI s 20 v (x - (12 : Int32))) else L_X6_aimThreads_2 en (d + 1) (nI (v + 1)) (uI (uI (uI s 20 v (x - (12 : Int32))) 65 11 5) 65 12 (nI p))) = some r → L_X6_aimThreads_2 en (d + 1) (nI v) s = some r := fun r hr => pX r (by
        refine le_X6_aimThreads_44 en _ _ _ _ ?_
        rw [gd_in (by omega) (by decide), n_cl (by omega), w3, e1, bI_some, nm_eq, x_isThread, bI_some]
        by_cases c : x < 12
        · rw [if_pos c, if_neg (not_not_intro rfl)] at hr ⊢
          have w6' : (uI (uI s 20 v (x - (12 : Int32))) 65 11 5).1 68 v = nI p := by rw [uI_ne (by decide), uI_ne (by decide)]; exact w6
          rw [nm_eq, w6', nm_eq, ev]
          exact hr
        · rw [if_neg c, if_pos (by decide)] at hr ⊢
          rw [ev]
          exact hr)
      have qM : ∀ rr, (if ¬ r = (-1 : Int32) then L_X12_program_205 en (d' + 1) (nI (v + 1)) (uI t 166 v r) else L_X12_program_205 en (d' + 1) (nI (v + 1)) (flS 5 (nI p) (uI t 166 v r))) = some rr → L_X12_program_205 en (d' + 1) (nI v) t = some rr := fun rr hr => pM rr (by
        refine le_X12_program_242 en _ _ _ _ ?_
        have w7' : (uI t 166 v r).1 183 v = nI p := by rw [uI_ne (by decide)]; exact w7
        have wr : (uI t 166 v r).1 166 v = r := rdW
        rw [gd_in (by omega) (by decide), n_cl (by omega), w4, e4, bI_some, gd_in (by omega) (by decide), nm_eq, wr, w7', m_fail, bV_some, ev]
        exact hr)
      by_cases isT : ∃ u, u < nt ∧ x = nI (12 + u) ∧ r = nI u
      · obtain ⟨u, hu, hx, hr⟩ := isT
        have ex : x - (12 : Int32) = nI u := by
          rw [hx, show nI (12 + u) - (12 : Int32) = nI (12 + u - 12) from n_sr (by omega), Nat.add_sub_cancel_left]
        have hS1 : tpS (uI s 20 v (nI u)) (uI t 166 v (nI u)) V U cl nc nl nt m N th K bl := tpS_aim hS (by omega) hkk
        obtain ⟨s', t', a1, a2, a3, a4, a6, a5⟩ := ih (v + 1) (uI s 20 v (nI u)) (uI t 166 v (nI u)) (by omega) hS1 (by rw [uI_ne (by decide)]; exact h11) (by rw [uI_ne (by decide)]; exact h7) (fun i hi hk => by
          rw [uI_ne (show 18 ≠ 20 by decide)] at hk
          by_cases y : i = v
          · exact ⟨u, hu, by rw [y, rdW]⟩
          · obtain ⟨u', b1, b2⟩ := hai i (by omega) hk
            exact ⟨u', b1, by rw [rdU, if_neg (fun z => y z.2)]; exact b2⟩)
        refine ⟨s', t', qX _ ?_, fun rr hrr => qM rr ?_, ⟨fun a h1 h2 => (a3.1 a h1 h2).trans (uI_ne h1), fun j h1 h2 => (a3.2.1 j h1 h2).trans (by rw [uI_ne (by decide)]), a3.2.2⟩, ⟨fun a h1 h2 => (a4.1 a h1 h2).trans (uI_ne h1), fun j h1 h2 => (a4.2.1 j h1 h2).trans (by rw [uI_ne (by decide)]), a4.2.2⟩, fun h => (a6 h).trans (by rw [uI_ne (by decide)]), a5⟩
        · rw [if_neg (show ¬ x < 12 by rw [hx, n_gt (by decide) (by omega)]; omega), if_pos (by decide), ex]
          exact a1
        · rw [if_pos (show ¬ r = (-1 : Int32) by rw [hr]; exact fun z => (n_m1 (by omega)).mp z), hr]
          exact a2 rr hrr
      · have hx : x < 12 ∧ r = -1 := by
          rcases hcase with ⟨rfl, -, -, rfl⟩ | ⟨c, hc', rfl, -, -, rfl⟩ | ⟨l, hl', rfl, -, -, rfl⟩ | ⟨u, hu', rfl, -, -, rfl⟩
          · exact ⟨by decide, rfl⟩
          · exact ⟨by rw [n_gt (by decide) (by omega)]; omega, rfl⟩
          · exact ⟨by rw [n_gt (by decide) (by omega)]; omega, rfl⟩
          · exact absurd ⟨u, hu', rfl, rfl⟩ isT
        obtain ⟨hx, hr⟩ := hx
        have f7 : (uI t 166 v r).1 151 7 = 0 := by rw [uI_ne (by decide)]; exact h7
        have fl : flS 5 (nI p) (uI t 166 v r) = uI (uI (uI t 166 v r) 151 7 5) 151 8 (nI p) := by
          unfold flS
          rw [if_pos f7]
        have mD : mtD (uI (uI (uI t 166 v r) 151 7 5) 151 8 (nI p)) 5 p := ⟨by rw [rdU, if_neg (by decide), rdW]; rfl, by decide, by decide, rdW⟩
        have g11 : (uI (uI (uI s 20 v (x - (12 : Int32))) 65 11 5) 65 12 (nI p)).1 65 11 = 5 := by rw [rdU, if_neg (by decide), rdW]
        have g11' : (uI (uI (uI s 20 v (x - (12 : Int32))) 65 11 5) 65 12 (nI p)).1 65 11 = nI 5 := g11
        refine ⟨uI (uI (uI s 20 v (x - (12 : Int32))) 65 11 5) 65 12 (nI p), uI (uI (uI t 166 v r) 151 7 5) 151 8 (nI p), qX _ ?_, fun rr hrr => qM rr ?_, ⟨fun a h1 h2 => by rw [uI_ne h2, uI_ne h2, uI_ne h1], fun j h1 h2 => by rw [rdU, if_neg (fun z => h2 z.2), rdU, if_neg (fun z => h1 z.2), uI_ne (by decide)], rfl⟩, ⟨fun a h1 h2 => by rw [uI_ne h2, uI_ne h2, uI_ne h1], fun j h1 h2 => by rw [rdU, if_neg (fun z => h2 z.2), rdU, if_neg (fun z => h1 z.2), uI_ne (by decide)], rfl⟩, fun h => absurd (g11'.symm.trans h) (by decide), Or.inr ⟨p, g11', rdW, mD⟩⟩
        · rw [if_pos hx, if_neg (not_not_intro rfl)]
          refine le_X6_aimThreads_2 en _ _ _ _ ?_
          by_cases y : (uI (uI (uI s 20 v (x - (12 : Int32))) 65 11 5) 65 12 (nI p)).1 11 12 ≤ nI (v + 1)
          · rw [if_pos y]
          · rw [if_neg y, g11, if_pos (by decide)]
        · rw [if_neg (not_not_intro hr), fl]
          refine le_X12_program_205 en _ _ _ _ ?_
          by_cases y : (uI (uI (uI t 166 v r) 151 7 5) 151 8 (nI p)).1 151 32 ≤ nI (v + 1)
          · rw [if_pos y]; exact hrr
          · rw [if_neg y, m_goodD mD, bI_some, if_pos rfl]; exact hrr
    · have n10 : ¬ nI k = (10 : Int32) := by rw [n_eq (by decide) (by omega)]; omega
      have n11 : ¬ nI k = (11 : Int32) := by rw [n_eq (by decide) (by omega)]; omega
      obtain ⟨s', t', a1, a2, a3⟩ := ih (v + 1) s t (by omega) hS h11 h7 (fun i hi hk => by
        by_cases y : i = v
        · rw [y, k2] at hk
          exact absurd hk (by rintro (z | z); exact n10 z; exact n11 z)
        · exact hai i (by omega) hk)
      refine ⟨s', t', preX _ ?_, fun r hr => preM r ?_, a3⟩
      · rw [if_neg n10, if_pos n11]; exact a1
      · rw [if_neg n10, if_pos n11]; exact a2 r hr
end AIM
