/-! SOUND, the model's side: outcomes that were, and whether one was. -/
/-- the first outcomes of X laid aside -/
abbrev wsP (P : Nat → fI) (w nt : Nat) (X : xT) (s : qS) (i : Nat) : Prop := ∀ j, j < i → s.1 247 j = nI (soS (xS X (oK P w nt X j)) nt) ∧ (∀ c, c < 8 → s.1 248 (8 * j + c) = sm w (xS X (oK P w nt X j)) (44 + c)) ∧ ∀ l, l < 24 → s.1 249 (24 * j + l) = sm w (xS X (oK P w nt X j)) (12 + l)
/-- the rows of outcomes, as the model has them -/
abbrev roP (P : Nat → fI) (w nt : Nat) (X : xT) (s : qS) : Prop := s.1 151 60 = nI (wid w) ∧ (∀ i, i < xN X → ∀ j, j < wid w → s.1 210 (i * wid w + j) = sm w (xS X i) j) ∧ s.1 151 115 = nI (outL P w nt (xS X) (xN X)).length ∧ ∀ j, j < (outL P w nt (xS X) (xN X)).length → s.1 221 j = nI (oK P w nt X j) ∧ s.1 225 j = nI (soS (xS X (oK P w nt X j)) nt)
abbrev frW9 (s s' : qS) : Prop := (∀ c, c ≠ 247 → c ≠ 248 → c ≠ 249 → s'.1 c = s.1 c) ∧ s'.2 = s.2
section SNM
variable {en : pN} {d w nc nl nt n n2 i k f : Nat} {P P2 : Nat → fI} {s s' s'' τ : qS} {X X2 : xT} {N M : fI} {v1 : Int32}
theorem frW9.rf : frW9 s s := ⟨fun _ _ _ _ => rfl, rfl⟩
theorem frW9.tr (h : frW9 s s') (g : frW9 s' s'') : frW9 s s'' := ⟨fun c a b e => (g.1 c a b e).trans (h.1 c a b e), g.2.trans h.2⟩
theorem roP.fr (h : roP P w nt X s) (g : frW9 s s') : roP P w nt X s' := ⟨by rw [g.1 151 (by decide) (by decide) (by decide)]; exact h.1, fun i hi j hj => by rw [g.1 210 (by decide) (by decide) (by decide)]; exact h.2.1 i hi j hj, by rw [g.1 151 (by decide) (by decide) (by decide)]; exact h.2.2.1, fun j hj => by rw [g.1 221 (by decide) (by decide) (by decide), g.1 225 (by decide) (by decide) (by decide)]; exact h.2.2.2 j hj⟩
/-- where an outcome's state lies -/
theorem ro_room (hw2 : w ≤ 2) (hX : XV P w nc nl nt n X) (hk : k < xN X) : k * wid w + wid w ≤ 1600000 ∧ 52 ≤ wid w ∧ wid w ≤ 213 := by
  have hxN := hX.1.2
  have hlim := @lim_le w
  have hw := wid_w hw2
  refine ⟨rm_room (n := xN X) (k := k) (W := wid w) (by omega) (by
    rcases hw.2 with z | z
    · exact Or.inl z
    · right
      rw [z] at hxN
      exact hxN) hw.1 hk, wid_ge, hw.1⟩
theorem m_s91 (hk : k < 4000) (hi : f + 213 ≤ 1610000) {q : Nat} (h221 : s.1 221 k = nI q) {W : Nat} (h60 : s.1 151 60 = nI W) (hq : q * W = f) {g : Nat → Int32} (hg : ∀ c, c < 8 → s.1 210 (f + 44 + c) = g c) : ∀ (m c : Nat) (s' : qS), c + m = 8 → (∀ x, x ≠ 248 → s'.1 x = s.1 x) → s'.2 = s.2 → (∀ x, x < 8 * k → s'.1 248 x = s.1 248 x) → (∀ x, x < c → s'.1 248 (8 * k + x) = g x) → ∃ s'', (∀ x, x ≠ 248 → s''.1 x = s.1 x) ∧ s''.2 = s.2 ∧ (∀ x, x < 8 * k → s''.1 248 x = s.1 248 x) ∧ (∀ x, x < 8 → s''.1 248 (8 * k + x) = g x) ∧ ∀ r, L_X12_sound_141 en d v1 (nI k) 0 s'' = some r → L_X12_sound_91 en d v1 (nI k) (nI c) s' = some r := by
  intro m
  induction m with
  | zero =>
    intro c s' hc h1 h2 h3 h4
    refine ⟨s', h1, h2, h3, fun x hx => h4 x (by omega), fun r hr => le_X12_sound_91 en _ _ _ _ _ _ ?_⟩
    rw [if_pos (by rw [show (8 : Int32) = nI 8 from rfl, n_LE (by omega) (by omega)]; omega)]
    exact hr
  | succ m ih =>
    intro c s' hc h1 h2 h3 h4
    obtain ⟨s2, a1, a2, a3, a4, a5⟩ := ih (c + 1) (uI s' 248 (8 * k + c) (g c)) (by omega) (fun x hx => (uI_ne hx).trans (h1 x hx)) h2 (fun x hx => by rw [uI_row, pk_un (by omega)]; exact h3 x hx) (fun x hx => by
      rw [uI_row]
      by_cases z : x = c
      · rw [z, pk_us]
      · rw [pk_un (by omega)]; exact h4 x (by omega))
    refine ⟨s2, a1, a2, a3, a4, fun r hr => le_X12_sound_91 en _ _ _ _ _ _ ?_⟩
    have e1 : nI f + (44 : Int32) + nI c = nI (f + 44 + c) := by rw [show nI f + (44 : Int32) = nI (f + 44) from n_ar, nI_add]
    have e2 : (8 : Int32) * nI k + nI c = nI (8 * k + c) := by rw [n_ml, nI_add]
    rw [if_neg (by rw [show (8 : Int32) = nI 8 from rfl, n_LE (by omega) (by omega)]; omega), gd_true (n_in (by omega) (by decide)), n_cl (by omega), h1 221 (by decide), h1 151 (by decide), h221, h60, n_mul, hq, e1, e2, gd_true (n_in (by omega) (by decide)), gd_true (n_in (by omega) (by decide)), nm_eq, n_cl (by omega), n_cl (by omega), h1 210 (by decide), hg c (by omega), show nI c + (1 : Int32) = nI (c + 1) from n_ar]
    exact a5 r hr
theorem m_s141 (hk : k < 4000) (hi : f + 213 ≤ 1610000) {q : Nat} (h221 : s.1 221 k = nI q) {W : Nat} (h60 : s.1 151 60 = nI W) (hq : q * W = f) {g : Nat → Int32} (hg : ∀ c, c < 24 → s.1 210 (f + 12 + c) = g c) : ∀ (m c : Nat) (s' : qS), c + m = 24 → (∀ x, x ≠ 249 → s'.1 x = s.1 x) → s'.2 = s.2 → (∀ x, x < 24 * k → s'.1 249 x = s.1 249 x) → (∀ x, x < c → s'.1 249 (24 * k + x) = g x) → ∃ s'', (∀ x, x ≠ 249 → s''.1 x = s.1 x) ∧ s''.2 = s.2 ∧ (∀ x, x < 24 * k → s''.1 249 x = s.1 249 x) ∧ (∀ x, x < 24 → s''.1 249 (24 * k + x) = g x) ∧ ∀ r, L_X12_sound_68 en d v1 (nI (k + 1)) s'' = some r → L_X12_sound_141 en d v1 (nI k) (nI c) s' = some r := by
  intro m
  induction m with
  | zero =>
    intro c s' hc h1 h2 h3 h4
    refine ⟨s', h1, h2, h3, fun x hx => h4 x (by omega), fun r hr => le_X12_sound_141 en _ _ _ _ _ _ ?_⟩
    rw [if_pos (by rw [show (24 : Int32) = nI 24 from rfl, n_LE (by omega) (by omega)]; omega), show nI k + (1 : Int32) = nI (k + 1) from n_ar]
    exact hr
  | succ m ih =>
    intro c s' hc h1 h2 h3 h4
    obtain ⟨s2, a1, a2, a3, a4, a5⟩ := ih (c + 1) (uI s' 249 (24 * k + c) (g c)) (by omega) (fun x hx => (uI_ne hx).trans (h1 x hx)) h2 (fun x hx => by rw [uI_row, pk_un (by omega)]; exact h3 x hx) (fun x hx => by
      rw [uI_row]
      by_cases z : x = c
      · rw [z, pk_us]
      · rw [pk_un (by omega)]; exact h4 x (by omega))
    refine ⟨s2, a1, a2, a3, a4, fun r hr => le_X12_sound_141 en _ _ _ _ _ _ ?_⟩
    have e1 : nI f + (12 : Int32) + nI c = nI (f + 12 + c) := by rw [show nI f + (12 : Int32) = nI (f + 12) from n_ar, nI_add]
    have e2 : (24 : Int32) * nI k + nI c = nI (24 * k + c) := by rw [n_ml, nI_add]
    rw [if_neg (by rw [show (24 : Int32) = nI 24 from rfl, n_LE (by omega) (by omega)]; omega), gd_true (n_in (by omega) (by decide)), n_cl (by omega), h1 221 (by decide), h1 151 (by decide), h221, h60, n_mul, hq, e1, e2, gd_true (n_in (by omega) (by decide)), gd_true (n_in (by omega) (by decide)), nm_eq, n_cl (by omega), n_cl (by omega), h1 210 (by decide), hg c (by omega), show nI c + (1 : Int32) = nI (c + 1) from n_ar]
    exact a5 r hr
/-- outcomes laid aside -/
theorem m_s68 (hw2 : w ≤ 2) (hX : XV P w nc nl nt n X) (hl4 : (outL P w nt (xS X) (xN X)).length ≤ 4000) : ∀ (m i : Nat) (s : qS), i + m = (outL P w nt (xS X) (xN X)).length → roP P w nt X s → s.1 151 154 = nI (outL P w nt (xS X) (xN X)).length → wsP P w nt X s i → ∃ s', frW9 s s' ∧ wsP P w nt X s' (outL P w nt (xS X) (xN X)).length ∧ ∀ r, (bV (qev en d 293 [.ref 151, .int (1 : Int32), .int (2 : Int32)] s') (fun s3 => nm (uI s3 151 148 (1 : Int32)) (fun s5 => bI (qev en d 365 [.ref 151, .int v1, .int (0 : Int32)] s5) (fun w6 s7 => if ¬ w6 = (-3 : Int32) then L_X12_sound_225 en d (-2 : Int32) (0 : Int32) s7 else some (some (.int (-3 : Int32)), s7)))) : Option qR) = some r → L_X12_sound_68 en d v1 (nI i) s = some r := by
  intro m
  induction m with
  | zero =>
    intro i s hi hR h154 hW
    have ei : i = (outL P w nt (xS X) (xN X)).length := by omega
    refine ⟨s, frW9.rf, by rw [← ei]; exact hW, fun r hr => le_X12_sound_68 en _ _ _ _ _ ?_⟩
    rw [h154, ei, if_pos (Int32.le_refl _)]
    exact hr
  | succ m ih =>
    intro i s hi hR h154 hW
    have hok : oK P w nt X i < xN X := outL_lt _ _ (getD_mem (by omega))
    obtain ⟨hroom, hw52, hw213⟩ := ro_room hw2 hX hok
    obtain ⟨q1, q2⟩ := hR.2.2.2 i (by omega)
    let s1 : qS := uI s 247 i (nI (soS (xS X (oK P w nt X i)) nt))
    have o1 : ∀ c, c ≠ 247 → s1.1 c = s.1 c := fun c hc => uI_ne hc
    obtain ⟨s2, a1, a2, a3, a4, a5⟩ := m_s91 (en := en) (d := d) (v1 := v1) (k := i) (f := oK P w nt X i * wid w) (s := s1) (by omega) (by omega) (q := oK P w nt X i) (by rw [o1 221 (by decide)]; exact q1) (W := wid w) (by rw [o1 151 (by decide)]; exact hR.1) rfl (g := fun c => sm w (xS X (oK P w nt X i)) (44 + c)) (fun c hc => by rw [o1 210 (by decide), Nat.add_assoc]; exact hR.2.1 _ hok _ (by omega)) 8 0 s1 (by omega) (fun _ _ => rfl) rfl (fun _ _ => rfl) (fun x hx => absurd hx (Nat.not_lt_zero _))
    obtain ⟨s3, b1, b2, b3, b4, b5⟩ := m_s141 (en := en) (d := d) (v1 := v1) (k := i) (f := oK P w nt X i * wid w) (s := s2) (by omega) (by omega) (q := oK P w nt X i) (by rw [a1 221 (by decide), o1 221 (by decide)]; exact q1) (W := wid w) (by rw [a1 151 (by decide), o1 151 (by decide)]; exact hR.1) rfl (g := fun c => sm w (xS X (oK P w nt X i)) (12 + c)) (fun c hc => by rw [a1 210 (by decide), o1 210 (by decide), Nat.add_assoc]; exact hR.2.1 _ hok _ (by omega)) 24 0 s2 (by omega) (fun _ _ => rfl) rfl (fun _ _ => rfl) (fun x hx => absurd hx (Nat.not_lt_zero _))
    have hf : frW9 s s3 := ⟨fun c e1 e2 e3 => by rw [b1 c e3, a1 c e2, o1 c e1], by rw [b2, a2]; rfl⟩
    have e247 : s3.1 247 = s1.1 247 := by rw [b1 247 (by decide), a1 247 (by decide)]
    have e248 : s3.1 248 = s2.1 248 := b1 248 (by decide)
    have hW3 : wsP P w nt X s3 (i + 1) := fun j hj => by
      by_cases z : j = i
      · subst z
        refine ⟨?_, fun c hc => by rw [e248]; exact a4 c hc, fun l hl => b4 l hl⟩
        rw [e247]
        show (uI s 247 j _).1 247 j = _
        rw [uI_row, pk_us]
      · obtain ⟨c1, c2, c3⟩ := hW j (by omega)
        refine ⟨?_, fun c hc => ?_, fun l hl => ?_⟩
        · rw [e247]
          show (uI s 247 i _).1 247 j = _
          rw [uI_row, pk_un z]; exact c1
        · rw [e248, a3 _ (by omega), o1 248 (by decide)]; exact c2 c hc
        · rw [b3 _ (by omega), a1 249 (by decide), o1 249 (by decide)]; exact c3 l hl
    obtain ⟨s4, c1, c2, c3⟩ := ih (i + 1) s3 (by omega) (hR.fr hf) (by rw [hf.1 151 (by decide) (by decide) (by decide)]; exact h154) hW3
    refine ⟨s4, hf.tr c1, c2, fun r hr => le_X12_sound_68 en _ _ _ _ _ ?_⟩
    rw [h154, if_neg (by rw [n_LE (by omega) (by omega)]; omega), gd_true (n_in (by omega) (by decide)), gd_true (n_in (by omega) (by decide)), nm_eq, n_cl (by omega), q2]
    exact a5 r (b5 r (c3 r hr))
/-! whether one was -/
theorem m_w109 {v2 : Nat} (hv2 : v2 + 213 ≤ 1610000) (hk : k < 4000) : ∀ (m l : Nat) (b : Bool), l + m = 24 → ∃ b' : Bool, (b' = true ↔ b = true ∧ ∀ x, l ≤ x → x < 24 → s.1 249 (24 * k + x) = s.1 210 (v2 + 12 + x)) ∧ ∀ r, L_X12_wasThere_17 en d v1 (nI v2) (bt b') (nI (k + 1)) s = some r → L_X12_wasThere_109 en d v1 (nI v2) (bt b) (nI k) (nI l) s = some r := by
  intro m
  induction m with
  | zero =>
    intro l b hl
    refine ⟨b, ⟨fun z => ⟨z, fun x h1 h2 => by omega⟩, fun z => z.1⟩, fun r hr => le_X12_wasThere_109 en _ _ _ _ _ _ _ _ ?_⟩
    rw [if_pos (by rw [show (24 : Int32) = nI 24 from rfl, n_LE (by omega) (by omega)]; omega), show nI k + (1 : Int32) = nI (k + 1) from n_ar]
    exact hr
  | succ m ih =>
    intro l b hl
    have n24 : ¬ (24 : Int32) ≤ nI l := by rw [show (24 : Int32) = nI 24 from rfl, n_LE (by omega) (by omega)]; omega
    cases b with
    | false =>
      refine ⟨false, ⟨fun z => (by cases z), fun z => (by cases z.1)⟩, fun r hr => le_X12_wasThere_109 en _ _ _ _ _ _ _ _ ?_⟩
      rw [if_neg n24, if_pos (show bt false = (0 : Int32) from rfl), show nI k + (1 : Int32) = nI (k + 1) from n_ar]
      exact hr
    | true =>
      have e1 : nI v2 + (12 : Int32) + nI l = nI (v2 + 12 + l) := by rw [show nI v2 + (12 : Int32) = nI (v2 + 12) from n_ar, nI_add]
      have e2 : (24 : Int32) * nI k + nI l = nI (24 * k + l) := by rw [n_ml, nI_add]
      have go : ∀ (b1 : Bool), (b1 = true ↔ s.1 249 (24 * k + l) = s.1 210 (v2 + 12 + l)) → ∀ r, L_X12_wasThere_109 en d v1 (nI v2) (bt b1) (nI k) (nI (l + 1)) s = some r → L_X12_wasThere_109 en d v1 (nI v2) (bt true) (nI k) (nI l) s = some r := fun b1 hb1 r hr => by
        refine le_X12_wasThere_109 en _ _ _ _ _ _ _ _ ?_
        rw [if_neg n24, if_neg (show ¬ bt true = (0 : Int32) by decide), e1, e2, gd_true (n_in (by omega) (by decide)), gd_true (n_in (by omega) (by decide)), n_cl (by omega), n_cl (by omega), show nI l + (1 : Int32) = nI (l + 1) from n_ar]
        cases b1 with
        | true => rw [if_neg (not_not_intro (hb1.mp rfl))]; exact hr
        | false => rw [if_pos (fun z => by have := hb1.mpr z; cases this)]; exact hr
      by_cases q : s.1 249 (24 * k + l) = s.1 210 (v2 + 12 + l)
      · obtain ⟨b', h1, h2⟩ := ih (l + 1) true (by omega)
        refine ⟨b', ⟨fun z => ⟨rfl, fun x a1 a2 => ?_⟩, fun z => h1.mpr ⟨rfl, fun x a1 a2 => z.2 x (by omega) a2⟩⟩, fun r hr => go true ⟨fun _ => q, fun _ => rfl⟩ r (h2 r hr)⟩
        by_cases y : x = l
        · rw [y]; exact q
        · exact (h1.mp z).2 x (by omega) a2
      · obtain ⟨b', h1, h2⟩ := ih (l + 1) false (by omega)
        refine ⟨b', ⟨fun z => (by have := (h1.mp z).1; cases this), fun z => absurd (z.2 l (Nat.le_refl _) (by omega)) q⟩, fun r hr => go false ⟨fun z => (by cases z), fun z => absurd z q⟩ r (h2 r hr)⟩
theorem m_w55 {v2 : Nat} (hv2 : v2 + 213 ≤ 1610000) (hk : k < 4000) : ∀ (m l : Nat) (b : Bool), l + m = 8 → ∃ b' : Bool, (b' = true ↔ b = true ∧ ∀ x, l ≤ x → x < 8 → s.1 248 (8 * k + x) = s.1 210 (v2 + 44 + x)) ∧ ∀ r, L_X12_wasThere_109 en d v1 (nI v2) (bt b') (nI k) 0 s = some r → L_X12_wasThere_55 en d v1 (nI v2) (bt b) (nI k) (nI l) s = some r := by
  intro m
  induction m with
  | zero =>
    intro l b hl
    refine ⟨b, ⟨fun z => ⟨z, fun x h1 h2 => by omega⟩, fun z => z.1⟩, fun r hr => le_X12_wasThere_55 en _ _ _ _ _ _ _ _ ?_⟩
    rw [if_pos (by rw [show (8 : Int32) = nI 8 from rfl, n_LE (by omega) (by omega)]; omega)]
    exact hr
  | succ m ih =>
    intro l b hl
    have n24 : ¬ (8 : Int32) ≤ nI l := by rw [show (8 : Int32) = nI 8 from rfl, n_LE (by omega) (by omega)]; omega
    cases b with
    | false =>
      refine ⟨false, ⟨fun z => (by cases z), fun z => (by cases z.1)⟩, fun r hr => le_X12_wasThere_55 en _ _ _ _ _ _ _ _ ?_⟩
      rw [if_neg n24, if_pos (show bt false = (0 : Int32) from rfl)]
      exact hr
    | true =>
      have e1 : nI v2 + (44 : Int32) + nI l = nI (v2 + 44 + l) := by rw [show nI v2 + (44 : Int32) = nI (v2 + 44) from n_ar, nI_add]
      have e2 : (8 : Int32) * nI k + nI l = nI (8 * k + l) := by rw [n_ml, nI_add]
      have go : ∀ (b1 : Bool), (b1 = true ↔ s.1 248 (8 * k + l) = s.1 210 (v2 + 44 + l)) → ∀ r, L_X12_wasThere_55 en d v1 (nI v2) (bt b1) (nI k) (nI (l + 1)) s = some r → L_X12_wasThere_55 en d v1 (nI v2) (bt true) (nI k) (nI l) s = some r := fun b1 hb1 r hr => by
        refine le_X12_wasThere_55 en _ _ _ _ _ _ _ _ ?_
        rw [if_neg n24, if_neg (show ¬ bt true = (0 : Int32) by decide), e1, e2, gd_true (n_in (by omega) (by decide)), gd_true (n_in (by omega) (by decide)), n_cl (by omega), n_cl (by omega), show nI l + (1 : Int32) = nI (l + 1) from n_ar]
        cases b1 with
        | true => rw [if_neg (not_not_intro (hb1.mp rfl))]; exact hr
        | false => rw [if_pos (fun z => by have := hb1.mpr z; cases this)]; exact hr
      by_cases q : s.1 248 (8 * k + l) = s.1 210 (v2 + 44 + l)
      · obtain ⟨b', h1, h2⟩ := ih (l + 1) true (by omega)
        refine ⟨b', ⟨fun z => ⟨rfl, fun x a1 a2 => ?_⟩, fun z => h1.mpr ⟨rfl, fun x a1 a2 => z.2 x (by omega) a2⟩⟩, fun r hr => go true ⟨fun _ => q, fun _ => rfl⟩ r (h2 r hr)⟩
        by_cases y : x = l
        · rw [y]; exact q
        · exact (h1.mp z).2 x (by omega) a2
      · obtain ⟨b', h1, h2⟩ := ih (l + 1) false (by omega)
        refine ⟨b', ⟨fun z => (by have := (h1.mp z).1; cases this), fun z => absurd (z.2 l (Nat.le_refl _) (by omega)) q⟩, fun r hr => go false ⟨fun z => (by cases z), fun z => absurd z q⟩ r (h2 r hr)⟩
theorem m_was (hw2 : w ≤ 2) (hX : XV P w nc nl nt n X) (hX2 : XV P2 w nc nl nt n2 X2) (hl4 : (outL P w nt (xS X) (xN X)).length ≤ 4000) (hR : roP P2 w nt X2 s) (h154 : s.1 151 154 = nI (outL P w nt (xS X) (xN X)).length) (hW : wsP P w nt X s (outL P w nt (xS X) (xN X)).length) (hi : i < (outL P2 w nt (xS X2) (xN X2)).length) : ∃ b : Bool, (b = true ↔ isO P w nt X (xS X2 (oK P2 w nt X2 i))) ∧ qev en (d + 1) 406 [.ref 151, .int (nI i)] s = some (some (.int (bt b)), s) := by
  have hok : oK P2 w nt X2 i < xN X2 := outL_lt _ _ (getD_mem hi)
  obtain ⟨hroom, hw52, hw213⟩ := ro_room hw2 hX2 hok
  have hlim := @lim_le w
  have hxN2 := hX2.1
  have hol2 := outL_len (P := P2) (w := w) (nt := nt) (S := xS X2) (xN X2)
  obtain ⟨q1, q2⟩ := hR.2.2.2 i hi
  generalize hf : oK P2 w nt X2 i * wid w = f at hroom
  have hrow : ∀ x, x < wid w → s.1 210 (f + x) = sm w (xS X2 (oK P2 w nt X2 i)) x := fun x hx => by rw [← hf]; exact hR.2.1 _ hok x hx
  have hso : ∀ K : fI, soS K nt ≤ 2 := fun K => soF_le nt 0 true
  have loop : ∀ (m k : Nat) (b : Bool), k + m = (outL P w nt (xS X) (xN X)).length → (b = true ↔ ∃ j, j < k ∧ eqO nt (xS X (oK P w nt X j)) (xS X2 (oK P2 w nt X2 i))) → ∃ b' : Bool, (b' = true ↔ isO P w nt X (xS X2 (oK P2 w nt X2 i))) ∧ L_X12_wasThere_17 en d (nI i) (nI f) (bt b) (nI k) s = some (some (.int (bt b')), s) := by
    intro m
    induction m with
    | zero =>
      intro k b hk hb
      refine ⟨b, ⟨fun z => ?_, fun ⟨j, hj, h⟩ => hb.mpr ⟨j, by omega, h⟩⟩, le_X12_wasThere_17 en _ _ _ _ _ _ _ ?_⟩
      · obtain ⟨j, h1, h2⟩ := hb.mp z
        exact ⟨j, by omega, h2⟩
      · rw [h154, if_pos (by rw [n_LE (by omega) (by omega)]; omega), gd_true (by cases b; exact Or.inl rfl; exact Or.inr rfl)]
    | succ m ih =>
      intro k b hk hb
      have nle : ¬ nI (outL P w nt (xS X) (xN X)).length ≤ nI k := by rw [n_LE (by omega) (by omega)]; omega
      cases b with
      | true =>
        refine ⟨true, ⟨fun _ => ?_, fun _ => rfl⟩, le_X12_wasThere_17 en _ _ _ _ _ _ _ ?_⟩
        · obtain ⟨j, h1, h2⟩ := hb.mp rfl
          exact ⟨j, by omega, h2⟩
        · rw [h154, if_neg nle, if_pos (show ¬ bt true = (0 : Int32) by decide), gd_true (show bt true = 0 ∨ bt true = 1 from Or.inr rfl)]
      | false =>
        obtain ⟨c1, c2, c3⟩ := hW k (by omega)
        -- the sort
        have hb1 : ∃ b1 : Bool, (b1 = true ↔ soS (xS X (oK P w nt X k)) nt = soS (xS X2 (oK P2 w nt X2 i)) nt) ∧ ∀ r, L_X12_wasThere_55 en d (nI i) (nI f) (bt b1) (nI k) 0 s = some r → L_X12_wasThere_17 en d (nI i) (nI f) (bt false) (nI k) s = some r := by
          have a1 := hso (xS X (oK P w nt X k))
          have a2 := hso (xS X2 (oK P2 w nt X2 i))
          refine ⟨decide (soS (xS X (oK P w nt X k)) nt = soS (xS X2 (oK P2 w nt X2 i)) nt), decide_eq_true_iff, fun r hr => le_X12_wasThere_17 en _ _ _ _ _ _ _ ?_⟩
          rw [h154, if_neg nle, if_neg (not_not_intro (show bt false = (0 : Int32) from rfl)), gd_true (n_in (by omega) (by decide)), gd_true (n_in (by omega) (by decide)), n_cl (by omega), n_cl (by omega), c1, q2]
          by_cases z : soS (xS X (oK P w nt X k)) nt = soS (xS X2 (oK P2 w nt X2 i)) nt
          · rw [decide_eq_true z] at hr
            rw [if_neg (not_not_intro (by rw [z]))]; exact hr
          · rw [decide_eq_false z] at hr
            rw [if_pos (by rw [n_EQ (by omega) (by omega)]; exact z)]; exact hr
        obtain ⟨b1, d1, d2⟩ := hb1
        obtain ⟨b2, e1, e2⟩ := m_w55 (en := en) (d := d) (v1 := nI i) (s := s) (v2 := f) (k := k) (by omega) (by omega) 8 0 b1 (by omega)
        obtain ⟨b3, f1, f2⟩ := m_w109 (en := en) (d := d) (v1 := nI i) (s := s) (v2 := f) (k := k) (by omega) (by omega) 24 0 b2 (by omega)
        have hb3 : b3 = true ↔ eqO nt (xS X (oK P w nt X k)) (xS X2 (oK P2 w nt X2 i)) := by
          rw [f1, e1, d1]
          have hO := smO_eqO (w := w) (nt := nt) (N := xS X2 (oK P2 w nt X2 i)) (S := xS X) (L := outL P w nt (xS X) (xN X)) (f := sm w (xS X2 (oK P2 w nt X2 i))) (i := k) (fun _ _ => rfl)
          rw [← hO]
          constructor
          · rintro ⟨⟨h1, h2⟩, h3⟩
            refine ⟨h1, fun x a b => ?_, fun x a b => ?_⟩
            · have := h3 (x - 12) (Nat.zero_le _) (by omega)
              rw [c3 _ (by omega), show f + 12 + (x - 12) = f + x by omega, hrow x (by omega), show 12 + (x - 12) = x by omega] at this
              exact this
            · have := h2 (x - 44) (Nat.zero_le _) (by omega)
              rw [c2 _ (by omega), show f + 44 + (x - 44) = f + x by omega, hrow x (by omega), show 44 + (x - 44) = x by omega] at this
              exact this
          · rintro ⟨h1, h2, h3⟩
            refine ⟨⟨h1, fun x _ b => ?_⟩, fun x _ b => ?_⟩
            · rw [c2 x b, show f + 44 + x = f + (44 + x) by omega, hrow (44 + x) (by omega)]
              exact h3 (44 + x) (by omega) (by omega)
            · rw [c3 x b, show f + 12 + x = f + (12 + x) by omega, hrow (12 + x) (by omega)]
              exact h2 (12 + x) (by omega) (by omega)
        obtain ⟨b', g1, g2⟩ := ih (k + 1) b3 (by omega) (by
          rw [hb3]
          constructor
          · intro z; exact ⟨k, Nat.lt_succ_self k, z⟩
          · rintro ⟨j, h1, h2⟩
            by_cases z : j = k
            · rw [← z]; exact h2
            · have := hb.mpr ⟨j, by omega, h2⟩; cases this)
        exact ⟨b', g1, d2 _ (e2 _ (f2 _ g2))⟩
  obtain ⟨b', g1, g2⟩ := loop (outL P w nt (xS X) (xN X)).length 0 false (by omega) ⟨fun z => (by cases z), fun ⟨j, h, _⟩ => absurd h (Nat.not_lt_zero _)⟩
  refine ⟨b', g1, le_X12_wasThere en _ _ _ _ ?_⟩
  rw [gd_true (n_in (by omega) (by decide)), n_cl (by omega), q1, hR.1, n_mul, hf, nm_eq]
  exact g2
end SNM
