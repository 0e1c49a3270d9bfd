/-! REWRITINGS: one rewriting done, what was explored or run of the rewritten program forgotten, on both sides. -/
/-- what is explored (e; x: of the rewritten program), what runs (g; y) -/
abbrev flE (s t : qS) (e x g y : Bool) : Prop := (s.1 70 17 = bt e ∧ t.1 151 98 = bt e) ∧ (e = true → s.1 0 11 = bt x) ∧ (e = true → t.1 151 148 = bt x) ∧ ((s.1 111 4 = 0 ↔ g = false) ∧ (t.1 151 74 = 0 ↔ g = false)) ∧ s.1 0 12 = bt y ∧ (g = true → t.1 151 149 = bt y)
section CHG
variable {en : pN} {d d' k i n N j r v u m nc nl nt key a w : Nat} {cl th K : Nat → Nat} {bl : Nat → List Nat} {go : Nat → Bool} {s s' s1 t t' t1 : qS} {e x g y : Bool} {z : Int32}
theorem chX.tr {s'' : qS} (h : chX s s') (g : chX s' s'') : chX s s'' := ⟨fun c h1 h2 h3 => (g.1 c h1 h2 h3).trans (h.1 c h1 h2 h3), fun j hj => ⟨(g.2.1 j hj).1.trans (h.2.1 j hj).1, (g.2.1 j hj).2.trans (h.2.1 j hj).2⟩, fun c hc => (g.2.2.1 c hc).trans (h.2.2.1 c hc), g.2.2.2.trans h.2.2.2⟩
theorem rwF_u (h : rwF s t nc nl nt N cl th K bl go) (hj : j ≠ 32) : rwF s (uI t 151 j z) nc nl nt N cl th K bl go := by
  have o : ∀ c, c ≠ 151 → (uI t 151 j z).1 c = t.1 c := fun c hc => uI_ne hc
  obtain ⟨h1, h2, h3, h4⟩ := h
  refine ⟨cnF_ch h1 (fun _ _ => rfl) (fun c hc => o c (by omega)), fun i hi => ?_, ?_, ?_⟩
  · obtain ⟨⟨k, g1, g2, g3, g4, g5, g6, g7, g8, g9⟩, g10⟩ := h2 i hi
    refine ⟨⟨k, by rw [o 164 (by decide)]; exact g1, g2, by rw [o 166 (by decide)]; exact g3, g4, by rw [o 167 (by decide)]; exact g5, ?_, ?_, g8, g9⟩, g10⟩
    · rw [o 176 (by decide), o 177 (by decide)]
      exact exF_cg g6 (fun _ _ _ j _ _ => ⟨rfl, rfl⟩) lmR_le (o 161 (by decide)) (o 162 (by decide))
    · rw [o 178 (by decide), o 179 (by decide)]
      exact exF_cg g7 (fun _ _ _ j _ _ => ⟨rfl, rfl⟩) lmR_le (o 161 (by decide)) (o 162 (by decide))
  · unfold TG
    rw [o 164 (by decide), o 165 (by decide), o 169 (by decide), o 170 (by decide), o 171 (by decide), o 172 (by decide), o 173 (by decide), o 175 (by decide), o 181 (by decide)]
    exact h3
  · rw [rdU, if_neg (fun q => hj q.2.symm)]
    exact h4
/-- one rewriting -/
theorem op_al (h : rwF s t nc nl nt N cl th K bl go) (hi : i < N) (hg : go i = false) (hw : w ≤ 2) : (∃ v : Nat, v ≤ 1 ∧ ∃ s1 t1 bl' go', (∀ r, L_X5_change_30 en (d + 3) 36 (nI v) s1 = some r → qev en (d + 4) 105 [.ref 36, .int (nI w), .int (nI i)] s = some r) ∧ (∀ r, L_X12_rewrite_117 en (d' + 2) (nI v) t1 = some r → L_X12_rewrite_78 en (d' + 2) (nI w) (nI i) t = some r) ∧ chX s s1 ∧ chM t t1 ∧ rwF s1 t1 nc nl nt N cl th K bl' go' ∧ (v = 0 → s1 = s ∧ t1 = t)) := by
  have e36 : lc 36 = 5 := rfl
  have hN : N ≤ 100 := h.1.1.2.2.2.2
  have hnt : nt ≤ 4 := h.1.1.2.2.1.2
  have kk : t.1 164 (100 + i) = s.1 43 i := by
    obtain ⟨⟨ki, g1, -⟩, -⟩ := h.2.1 i hi
    have y1 : t.1 164 (100 + i) = nI ki := g1.2.2
    have y2 : s.1 43 i = nI ki := g1.2.1
    rw [y1, y2]
  have e100 : (100 : Int32) + nI i = nI (100 + i) := n_al
  have rX : chX s s := ⟨fun _ _ _ _ => rfl, fun _ _ => ⟨rfl, rfl⟩, fun _ _ => rfl, rfl⟩
  have rM : chM t t := ⟨fun _ _ => rfl, fun _ _ _ _ _ => rfl, fun _ _ => rfl, rfl⟩
  have b0 : (0 : Int32) = nI 0 := rfl
  have b1 : (1 : Int32) = nI 1 := rfl
  have : w = 0 ∨ w = 1 ∨ w = 2 := by omega
  rcases this with rfl | rfl | rfl
  · have qX : ∀ (vv : Int32) (s1 : qS) r, qev en (d + 3) 107 [.ref 36, .int (nI i)] s = some (some (.int vv), s1) → L_X5_change_30 en (d + 3) 36 vv s1 = some r → qev en (d + 4) 105 [.ref 36, .int (nI 0), .int (nI i)] s = some r := fun vv s1 r hq hr => by
      refine le_X5_change en _ _ _ _ _ _ ?_
      rw [gd_true e36, if_neg (show ¬ ¬ nI 0 = (0 : Int32) from not_not_intro rfl), hq, bI_some]
      exact hr
    have qM : ∀ (vv : Int32) (t1 : qS) r, qev en (d' + 2) 401 [.ref 151, .int (nI (100 + i))] t = some (some (.int vv), t1) → L_X12_rewrite_117 en (d' + 2) vv t1 = some r → L_X12_rewrite_78 en (d' + 2) (nI 0) (nI i) t = some r := fun vv t1 r hq hr => by
      refine le_X12_rewrite_78 en _ _ _ _ _ ?_
      rw [if_neg (show ¬ ¬ nI 0 = (0 : Int32) from not_not_intro rfl), e100, hq, bI_some]
      exact hr
    rcases x_swap (en := en) (d := d + 1) (d' := d') h.2.2.1 hN hnt hi hg h.2.2.2 with ⟨a1, a2⟩ | ⟨s1, t1, bl', a1, a2, a3, a4, a5⟩
    · exact ⟨0, by omega, s, t, bl, go, fun r hr => qX _ _ r a1 hr, fun r hr => qM _ _ r a2 hr, rX, rM, h, fun _ => ⟨rfl, rfl⟩⟩
    · exact ⟨1, by omega, s1, t1, bl', go, fun r hr => qX _ _ r a1 hr, fun r hr => qM _ _ r a2 hr, (chX_rw a3).1, chM_rw a4, rwF_rw h a3 a4 a5, fun q => absurd q (by decide)⟩
  · have qX : ∀ (vv : Int32) (s1 : qS) r, qev en (d + 3) 108 [.ref 36, .int (nI i)] s = some (some (.int vv), s1) → L_X5_change_30 en (d + 3) 36 vv s1 = some r → qev en (d + 4) 105 [.ref 36, .int (nI 1), .int (nI i)] s = some r := fun vv s1 r hq hr => by
      refine le_X5_change en _ _ _ _ _ _ ?_
      rw [gd_true e36, if_pos (show ¬ nI 1 = (0 : Int32) by decide), if_neg (show ¬ ¬ nI 1 = (1 : Int32) from not_not_intro rfl), hq, bI_some]
      exact hr
    have qM : ∀ (vv : Int32) (t1 : qS) r, qev en (d' + 2) 402 [.ref 151, .int (nI (100 + i))] t = some (some (.int vv), t1) → L_X12_rewrite_117 en (d' + 2) vv t1 = some r → L_X12_rewrite_78 en (d' + 2) (nI 1) (nI i) t = some r := fun vv t1 r hq hr => by
      refine le_X12_rewrite_78 en _ _ _ _ _ ?_
      rw [if_pos (show ¬ nI 1 = (0 : Int32) by decide), if_neg (show ¬ ¬ nI 1 = (1 : Int32) from not_not_intro rfl), e100, hq, bI_some]
      exact hr
    rcases x_leaveOut (en := en) (d := d) (d' := d') h.2.2.1 hN hnt hi hg h.2.2.2 kk with ⟨a1, a2⟩ | ⟨s1, t1, bl', a1, a2, a3, a4, a5⟩
    · exact ⟨0, by omega, s, t, bl, go, fun r hr => qX _ _ r a1 hr, fun r hr => qM _ _ r a2 hr, rX, rM, h, fun _ => ⟨rfl, rfl⟩⟩
    · exact ⟨1, by omega, s1, t1, bl', at1 go i true, fun r hr => qX _ _ r a1 hr, fun r hr => qM _ _ r a2 hr, (chX_rw a3).1, chM_rw a4, rwF_rw h a3 a4 a5, fun q => absurd q (by decide)⟩
  · have qX : ∀ (vv : Int32) (s1 : qS) r, qev en (d + 3) 111 [.ref 36, .int (nI i)] s = some (some (.int vv), s1) → L_X5_change_30 en (d + 3) 36 vv s1 = some r → qev en (d + 4) 105 [.ref 36, .int (nI 2), .int (nI i)] s = some r := fun vv s1 r hq hr => by
      refine le_X5_change en _ _ _ _ _ _ ?_
      rw [gd_true e36, if_pos (show ¬ nI 2 = (0 : Int32) by decide), if_pos (show ¬ nI 2 = (1 : Int32) by decide), hq, bI_some]
      exact hr
    have qM : ∀ (vv : Int32) (t1 : qS) r, qev en (d' + 2) 403 [.ref 151, .int (nI (100 + i))] t = some (some (.int vv), t1) → L_X12_rewrite_117 en (d' + 2) vv t1 = some r → L_X12_rewrite_78 en (d' + 2) (nI 2) (nI i) t = some r := fun vv t1 r hq hr => by
      refine le_X12_rewrite_78 en _ _ _ _ _ ?_
      rw [if_pos (show ¬ nI 2 = (0 : Int32) by decide), if_pos (show ¬ nI 2 = (1 : Int32) by decide), e100, hq, bI_some]
      exact hr
    rcases x_reuse (en := en) (d := d + 1) (d' := d') h hN hnt hi hg with ⟨a1, a2⟩ | ⟨s1, t1, a1, a2, a3, a4, a5⟩
    · exact ⟨0, by omega, s, t, bl, go, fun r hr => qX _ _ r a1 hr, fun r hr => qM _ _ r a2 hr, rX, rM, h, fun _ => ⟨rfl, rfl⟩⟩
    · exact ⟨1, by omega, s1, t1, bl, go, fun r hr => qX _ _ r a1 hr, fun r hr => qM _ _ r a2 hr, a3, a4, a5, fun q => absurd q (by decide)⟩
/-- with the ways laid anew -/
theorem change_al (h : rwF s t nc nl nt N cl th K bl go) (hi : i < N) (hg : go i = false) (hw : w ≤ 2) : (qev en (d + 4) 105 [.ref 36, .int (nI w), .int (nI i)] s = some (some (.int 0), s) ∧ L_X12_rewrite_78 en (d' + 2) (nI w) (nI i) t = some (some (.int 0), t)) ∨ (∃ s1 t1 bl' go', qev en (d + 4) 105 [.ref 36, .int (nI w), .int (nI i)] s = some (some (.int 1), s1) ∧ (∀ r, bV (qev en (d' + 2) 397 [.ref 151] t1) (fun s7 => some (some (.int (1 : Int32)), s7)) = some r → L_X12_rewrite_78 en (d' + 2) (nI w) (nI i) t = some r) ∧ chX s s1 ∧ chM (uI t 151 147 1) t1 ∧ rwF s1 t1 nc nl nt N cl th K bl' go' ∧ PV (rdP s1 36) nc nl nt N ∧ MB t1 1 (rdP s1 36) nc nl nt N) := by
  have e36 : lc 36 = 5 := rfl
  obtain ⟨v, hv, s1, t1, bl', go', h1, h2, h3, h4, h5, h6⟩ := op_al (en := en) (d := d) (d' := d') h hi hg hw
  have : v = 0 ∨ v = 1 := by omega
  rcases this with rfl | rfl
  · obtain ⟨rfl, rfl⟩ := h6 rfl
    refine Or.inl ⟨h1 _ (le_X5_change_30 en _ _ _ _ _ ?_), h2 _ (le_X12_rewrite_117 en _ _ _ _ ?_)⟩
    · rw [gd_true e36, if_pos (show nI 0 = (0 : Int32) from rfl), gd_true (show nI 0 = (0 : Int32) ∨ nI 0 = (1 : Int32) from Or.inl rfl)]
      rfl
    · rw [if_neg (show ¬ ¬ nI 0 = (0 : Int32) from not_not_intro rfl)]
  · obtain ⟨s2, t2, y1, y2, y3, y4, y5, y6, y7, y8, y9, y10⟩ := rwF_ways (en := en) (d := d + 1) (d' := d' + 1) (rwF_u (j := 147) (z := 1) h5 (by decide))
    refine Or.inr ⟨s2, t2, bl', go', h1 _ (le_X5_change_30 en _ _ _ _ _ ?_), fun r hr => h2 _ (le_X12_rewrite_117 en _ _ _ _ ?_), h3.tr ⟨fun c c1 c2 c3 => y3 c (by omega) (by omega), fun j _ => by rw [y3 8 (by decide) (by decide), y3 9 (by decide) (by decide)]; exact ⟨rfl, rfl⟩, fun c hc => y3 c (by omega) (by omega), y4⟩, ⟨fun c hc => ?_, fun c c1 c2 j hj => ?_, fun j hj => ?_, ?_⟩, y8, y9, y10⟩
    · rw [gd_true e36, if_neg (show ¬ nI 1 = (0 : Int32) by decide), y1, bV_some, gd_true (show nI 1 = (0 : Int32) ∨ nI 1 = (1 : Int32) from Or.inr rfl)]
      rfl
    · rw [if_pos (show ¬ nI 1 = (0 : Int32) by decide), nm_eq, show qev en (d' + 2) 292 [.ref 151, .int (1 : Int32)] (uI t1 151 147 1) = _ from y2, bV_some]
      exact hr
    · rw [y5 c (by omega)]
      by_cases q : c = 151
      · rw [q]
        funext j
        rw [rdU, rdU, h4.1 151 (by decide)]
      · rw [uI_ne q, uI_ne q]
        exact h4.1 c hc
    · rw [uI_ne (by omega)]
      by_cases q : c = 174
      · rw [q, y6 j hj, uI_ne (by decide)]
        exact h4.2.1 174 (by decide) (by decide) j hj
      · rw [y5 c q, uI_ne (by omega)]
        exact h4.2.1 c c1 c2 j hj
    · rw [y5 181 (by decide), uI_ne (by decide), uI_ne (by decide)]
      exact h4.2.2.1 j hj
    · rw [y7]
      exact h4.2.2.2
/-- both forget what they explored or run of the rewritten program -/
theorem forget_al (h : flE s t e x g y) : ∃ s' t', qev en (d + 1) 239 [.ref 0] s = some (none, s') ∧ qev en (d' + 1) 397 [.ref 151] t = some (none, t') ∧ flE s' t' (e && !x) false (g && !y) false ∧ (∀ a, a ≠ 0 → a ≠ 70 → a ≠ 111 → s'.1 a = s.1 a) ∧ (∀ j, j ≠ 11 → j ≠ 12 → s'.1 0 j = s.1 0 j) ∧ (∀ j, j ≠ 17 → s'.1 70 j = s.1 70 j) ∧ (∀ j, j ≠ 4 → s'.1 111 j = s.1 111 j) ∧ s'.2 = s.2 ∧ (∀ a, a ≠ 151 → t'.1 a = t.1 a) ∧ (∀ j, j ≠ 74 → j ≠ 98 → t'.1 151 j = t.1 151 j) ∧ t'.2 = t.2 := by
  obtain ⟨⟨h1, h2⟩, h3, h4, ⟨h5, h6⟩, h7, h8⟩ := h
  let sa : qS := if s.1 0 11 = 0 then s else uI (uI s 70 17 0) 0 11 0
  let sb : qS := if y = true then uI (uI sa 111 4 0) 0 12 0 else sa
  have a20 : ∀ r, L_X11_forgetRewritten_20 en d sa = some r → qev en (d + 1) 239 [.ref 0] s = some r := fun r hr => by
    refine le_X11_forgetRewritten en _ _ _ ?_
    have hr' : L_X11_forgetRewritten_20 en d (if s.1 0 11 = 0 then s else uI (uI s 70 17 0) 0 11 0) = some r := hr
    by_cases c : s.1 0 11 = 0
    · rw [if_pos c] at hr' ⊢; exact hr'
    · rw [if_neg c] at hr' ⊢; rw [nm_eq, nm_eq]; exact hr'
  have sa12 : sa.1 0 12 = bt y := by
    show (if s.1 0 11 = 0 then s else uI (uI s 70 17 0) 0 11 0).1 0 12 = _
    by_cases c : s.1 0 11 = 0
    · rw [if_pos c]; exact h7
    · rw [if_neg c, rdU, if_neg (by decide), uI_ne (by decide)]; exact h7
  have b20 : L_X11_forgetRewritten_20 en d sa = some (none, sb) := by
    refine le_X11_forgetRewritten_20 en _ _ _ ?_
    rw [sa12]
    show _ = some (none, if y = true then uI (uI sa 111 4 0) 0 12 0 else sa)
    cases y with
    | false => rw [if_pos bt_f, if_neg (by decide)]
    | true => rw [if_neg (by decide), nm_eq, nm_eq, if_pos rfl]
  let ta : qS := uI t 151 98 (bt (e && !x))
  let tb : qS := uI ta 151 74 (bt (g && !y))
  have m20 : ∀ r, L_X12_forgetOther_20 en d' (bt (e && !x)) t = some r → qev en (d' + 1) 397 [.ref 151] t = some r := fun r hr => by
    refine le_X12_forgetOther en _ _ _ ?_
    rw [h2]
    cases e with
    | false => rw [if_pos bt_f]; exact hr
    | true =>
      rw [if_neg (by decide), h4 rfl]
      cases x with
      | false => rw [if_neg (not_not_intro bt_f)]; exact hr
      | true => rw [if_pos (by decide)]; exact hr
  have m43 : ∀ r, L_X12_forgetOther_43 en d' (bt (g && !y)) ta = some r → L_X12_forgetOther_20 en d' (bt (e && !x)) t = some r := fun r hr => by
    refine le_X12_forgetOther_20 en _ _ _ _ ?_
    rw [gd_true bt_B, nm_eq, show (uI t 151 98 (bt (e && !x))).1 151 74 = t.1 151 74 from by rw [rdU, if_neg (by decide)]]
    cases g with
    | false => rw [if_pos (h6.mpr rfl)]; exact hr
    | true =>
      rw [if_neg (fun z => by have := h6.mp z; cases this), show (uI t 151 98 (bt (e && !x))).1 151 149 = bt y from by rw [rdU, if_neg (by decide)]; exact h8 rfl]
      cases y with
      | false => rw [if_neg (not_not_intro bt_f)]; exact hr
      | true => rw [if_pos (by decide)]; exact hr
  have me : L_X12_forgetOther_43 en d' (bt (g && !y)) ta = some (none, tb) := by
    refine le_X12_forgetOther_43 en _ _ _ _ ?_
    rw [gd_true bt_B, nm_eq]
  have saO : ∀ a j, ¬ (a = 70 ∧ j = 17) → ¬ (a = 0 ∧ j = 11) → sa.1 a j = s.1 a j := fun a j n1 n2 => by
    show (if s.1 0 11 = 0 then s else uI (uI s 70 17 0) 0 11 0).1 a j = _
    by_cases c : s.1 0 11 = 0
    · rw [if_pos c]
    · rw [if_neg c, rdU, if_neg n2, rdU, if_neg n1]
  have sbO : ∀ a j, ¬ (a = 111 ∧ j = 4) → ¬ (a = 0 ∧ j = 12) → sb.1 a j = sa.1 a j := fun a j n1 n2 => by
    show (if y = true then uI (uI sa 111 4 0) 0 12 0 else sa).1 a j = _
    cases y with
    | false => rw [if_neg (by decide)]
    | true => rw [if_pos rfl, rdU, if_neg n2, rdU, if_neg n1]
  have tO : ∀ j, j ≠ 74 → j ≠ 98 → tb.1 151 j = t.1 151 j := fun j n1 n2 => by
    show (uI (uI t 151 98 _) 151 74 _).1 151 j = _
    rw [rdU, if_neg (fun q => n1 q.2), rdU, if_neg (fun q => n2 q.2)]
  refine ⟨sb, tb, a20 _ b20, m20 _ (m43 _ me), ⟨⟨?_, ?_⟩, fun _ => ?_, fun q => ?_, ⟨?_, ?_⟩, ?_, fun q => ?_⟩, fun a q1 q2 q3 => funext fun j => ?_, fun j q1 q2 => ?_, fun j q => ?_, fun j q => ?_, ?_, fun a q => ?_, tO, rfl⟩
  · rw [sbO 70 17 (by decide) (by decide)]
    show (if s.1 0 11 = 0 then s else uI (uI s 70 17 0) 0 11 0).1 70 17 = _
    by_cases c : s.1 0 11 = 0
    · rw [if_pos c, h1]
      cases e with
      | false => rfl
      | true =>
        rw [h3 rfl, bt_0] at c
        rw [c]; rfl
    · rw [if_neg c, uI_ne (by decide), rdU, if_pos ⟨rfl, rfl⟩]
      cases e with
      | false => rfl
      | true =>
        rw [h3 rfl] at c
        cases x with
        | false => exact absurd bt_f c
        | true => rfl
  · show (uI (uI t 151 98 _) 151 74 _).1 151 98 = _
    rw [rdU, if_neg (by decide), rdU, if_pos ⟨rfl, rfl⟩]
  · rw [sbO 0 11 (by decide) (by decide)]
    show (if s.1 0 11 = 0 then s else uI (uI s 70 17 0) 0 11 0).1 0 11 = _
    by_cases c : s.1 0 11 = 0
    · rw [if_pos c, c]; rfl
    · rw [if_neg c, rdU, if_pos ⟨rfl, rfl⟩]; rfl
  · rw [tO 148 (by decide) (by decide)]
    cases e with
    | false => cases q
    | true => cases x with
      | false => exact h4 rfl
      | true => cases q
  · show (if y = true then uI (uI sa 111 4 0) 0 12 0 else sa).1 111 4 = 0 ↔ _
    cases y with
    | false => rw [if_neg (by decide), saO 111 4 (by decide) (by decide), h5]; cases g <;> exact Iff.rfl
    | true => rw [if_pos rfl, uI_ne (by decide), rdU, if_pos ⟨rfl, rfl⟩]; cases g <;> exact ⟨fun _ => rfl, fun _ => rfl⟩
  · show (uI (uI t 151 98 _) 151 74 _).1 151 74 = 0 ↔ _
    rw [rdU, if_pos ⟨rfl, rfl⟩, bt_0]
  · show (if y = true then uI (uI sa 111 4 0) 0 12 0 else sa).1 0 12 = _
    cases y with
    | false => rw [if_neg (by decide), sa12]
    | true => rw [if_pos rfl, rdU, if_pos ⟨rfl, rfl⟩]; rfl
  · rw [tO 149 (by decide) (by decide)]
    cases g with
    | false => cases q
    | true => cases y with
      | false => exact h8 rfl
      | true => cases q
  · rw [sbO a j (fun z => q3 z.1) (fun z => q1 z.1), saO a j (fun z => q2 z.1) (fun z => q1 z.1)]
  · rw [sbO 0 j (fun z => absurd z.1 (by decide)) (fun z => q2 z.2), saO 0 j (fun z => absurd z.1 (by decide)) (fun z => q1 z.2)]
  · rw [sbO 70 j (fun z => absurd z.1 (by decide)) (fun z => absurd z.1 (by decide)), saO 70 j (fun z => q z.2) (fun z => absurd z.1 (by decide))]
  · rw [sbO 111 j (fun z => q z.2) (fun z => absurd z.1 (by decide)), saO 111 j (fun z => absurd z.1 (by decide)) (fun z => absurd z.1 (by decide))]
  · have ea : sa.2 = s.2 := by
      show (if s.1 0 11 = 0 then s else uI (uI s 70 17 0) 0 11 0).2 = _
      split <;> rfl
    show (if y = true then uI (uI sa 111 4 0) 0 12 0 else sa).2 = _
    cases y with
    | false => exact ea
    | true => exact ea
  · show (uI (uI t 151 98 _) 151 74 _).1 a = _
    rw [uI_ne q, uI_ne q]
end CHG
