/-! REWRITINGS, the class's own: one change. -/
section CHC
variable {en : pN} {d nc nl N i j k w : Nat} {bl : Nat → List Nat} {K th lc0 : Nat → Nat} {go : Nat → Bool} {s s' t : qS} {A C : List Nat}
theorem rw_reuse (h : PRGw (rdP s 36) nc nl N lc0 bl K th go) (hG : TG s t 2 N K th bl go) (hi : i < N) (hg : go i = false) (h4 : ∀ i, i < N → ∀ r, r = 13 ∨ r = 15 → ∃ e, s.1 (36 + r) i = nI e ∧ e ≤ 400) : qev en (d + 3) 111 [.ref 36, .int (nI i)] s = some (some (.int 0), s) ∨ ∃ s', qev en (d + 3) 111 [.ref 36, .int (nI i)] s = some (some (.int 1), s') ∧ chX s s' ∧ PRGw (rdP s' 36) nc nl N lc0 bl K th go := by
  have e36 : lc 36 = 5 := rfl
  have hN := h.1.2.2.2.2
  obtain ⟨A, C, hL⟩ := TG_at hG hi hg
  have eA := x_ahead (en := en) (d := d + 1) hG hN (by decide) hi hL
  have hlt : ∀ x, x ∈ bl (K i) → x < N := fun x hx => (hG.2.1 _ x hx).1
  cases hq : A.getLast? with
  | none =>
    have e1 : lstX A (-1) = -1 := by unfold lstX; rw [hq]
    refine Or.inl (le_X5_reuse en _ _ _ _ _ ?_)
    rw [gd_true e36, eA, bI_some, e1, if_pos (by decide)]
  | some l =>
    have lin : l ∈ bl (K i) := by rw [hL]; exact List.mem_append_left _ (List.mem_of_getLast? hq)
    have hl := hlt l lin
    have e1 : lstX A (-1) = nI l := by unfold lstX; rw [hq]
    obtain ⟨⟨k0, k1, k2, k3, k4⟩, l1, -⟩ := h.2.2.2.1 l hl
    have thl : th l = th i := by
      have hK := (hG.2.1 _ l lin).2.1
      rcases (hG.2.2.2.2.1 i hi).2 with ⟨a1, -⟩ | ⟨p, b, p1, b1, a1, -, -, a2, -⟩
      · rcases (hG.2.2.2.2.1 l hl).2 with ⟨c1, -⟩ | ⟨p', b', p1', b1', c1, -⟩
        · omega
        · have := (hG.2.2.2.2.1 i hi).1.1; omega
      · rcases (hG.2.2.2.2.1 l hl).2 with ⟨c1, -⟩ | ⟨p', b', p1', b1', c1, -, -, c2, -⟩
        · have := (hG.2.2.2.2.1 l hl).1.1; omega
        · have : p' = p := by omega
          rw [← a2, ← c2, this]
    obtain ⟨⟨g1, g2, -⟩, -⟩ := hG.2.2.2.2.1 i hi
    have x0 : ∀ R, (if ¬ (s.1 43 i) = (1 : Int32) then some (some (.int (0 : Int32)), s) else if ¬ (s.1 43 l) = (1 : Int32) then some (some (.int (0 : Int32)), s) else if (s.1 45 i) = (s.1 45 l) then bI (qev en (d + 2) 32 [.int (s.1 44 i), .int (s.1 46 l)] s) (fun w10 s11 => bV (qev en (d + 2) 77 [.ref 7, .int ((400 : Int32) + nI i), .int (2 : Int32), .int w10] s11) (fun s14 => nm (uI s14 43 i (0 : Int32)) (fun s16 => nm (uI s16 45 i (-2 : Int32)) (fun s17 => nm (uI s17 48 i ((400 : Int32) + nI i)) (fun s18 => nm (uI s18 49 i (((400 : Int32) + nI i) + (1 : Int32))) (fun s19 => some (some (.int (1 : Int32)), s19))))))) else some (some (.int (0 : Int32)), s)) = some R → qev en (d + 3) 111 [.ref 36, .int (nI i)] s = some R := fun R hR => by
      refine le_X5_reuse en _ _ _ _ _ ?_
      rw [gd_true e36, eA, bI_some, e1, if_neg (by rw [n_gt (by decide) (by omega)]; omega), gd_in (by omega) (by decide), n_cl (by omega), gd_in (by omega) (by decide), n_cl (by omega)]
      exact hR
    by_cases q1 : s.1 43 i = 1
    · by_cases q2 : s.1 43 l = 1
      · by_cases q3 : s.1 45 i = s.1 45 l
        · right
          obtain ⟨x, x1, x2⟩ : ∃ x, x < lc0 (th i) ∧ s.1 46 l = nI x := by
            rcases l1 with ⟨-, y⟩ | ⟨x, x1, x2⟩
            · exact absurd q2 y
            · exact ⟨x, by rw [← thl]; exact x1, x2⟩
          have lck := (h.2.2.2.2.1 (th i) g1).2
          have w1 := PRGw_ru h hi g1 x1 q1 h4
          refine ⟨ruX s i (nI (16 + th i * 6 + x)), x0 _ ?_, ?_, w1⟩
          · rw [if_neg (not_not_intro q1), if_neg (not_not_intro q2), if_pos q3, g2, x2, show qev en (d + 2) 32 [.int (nI (th i)), .int (nI x)] s = _ from x_local (d := d + 1) (by omega), bI_some]
            have e77 : qev en (d + 2) 77 [.ref 7, .int ((400 : Int32) + nI i), .int (2 : Int32), .int (nI (16 + th i * 6 + x))] s = some (none, uI (uI s 8 (400 + i) 2) 9 (400 + i) (nI (16 + th i * 6 + x))) := by
              refine le_X4_set en _ _ _ _ _ _ _ ?_
              rw [show (400 : Int32) + nI i = nI (400 + i) from n_al, gd_true (show lc 7 = 4 from rfl), gd_in (show 400 + i < ln 8 by rw [show ln 8 = 500 from rfl]; omega) (by decide), n_cl (by omega), nm_eq, gd_in (show 400 + i < ln 9 by rw [show ln 9 = 500 from rfl]; omega) (by decide), nm_eq]
            rw [e77, bV_some, nm_eq, nm_eq, nm_eq, nm_eq, show (400 : Int32) + nI i = nI (400 + i) from n_al, show nI (400 + i) + (1 : Int32) = nI (400 + i + 1) from n_ar]
            rfl
          · refine ⟨fun c h1 h2 h3 => ruX_o h2 h3 (by omega) (by omega) (by omega) (by omega), fun j hj => ⟨(ruX_89 (z := nI (16 + th i * 6 + x))).1.trans (if_neg (by omega)), (ruX_89 (z := nI (16 + th i * 6 + x))).2.trans (if_neg (by omega))⟩, fun c hc => ruX_o (by omega) (by omega) (by omega) (by omega) (by omega) (by omega), rfl⟩
        · refine Or.inl (x0 _ ?_)
          rw [if_neg (not_not_intro q1), if_neg (not_not_intro q2), if_neg q3]
      · refine Or.inl (x0 _ ?_)
        rw [if_neg (not_not_intro q1), if_pos q2]
    · refine Or.inl (x0 _ ?_)
      rw [if_pos q1]
/-- one change: nothing, or a good program -/
theorem rw_change (h : PRGw (rdP s 36) nc nl N lc0 bl K th go) (hG : TG s t 2 N K th bl go) (hi : i < N) (hg : go i = false) (hw : w ≤ 2) (h4 : ∀ i, i < N → ∀ r, r = 13 ∨ r = 15 → ∃ e, s.1 (36 + r) i = nI e ∧ e ≤ 400) : qev en (d + 4) 105 [.ref 36, .int (nI w), .int (nI i)] s = some (some (.int 0), s) ∨ ∃ s' bl' go', qev en (d + 4) 105 [.ref 36, .int (nI w), .int (nI i)] s = some (some (.int 1), s') ∧ chX s s' ∧ PRG (rdP s' 36) nc nl N lc0 bl' K th go' := by
  have e36 : lc 36 = 5 := rfl
  have hN := h.1.2.2.2.2
  have z30 : ∀ s, L_X5_change_30 en (d + 3) 36 (0 : Int32) s = some (some (.int 0), s) := fun s => by
    refine le_X5_change_30 en _ _ _ _ _ ?_
    rw [gd_true e36, if_pos rfl, gd_true (Or.inl rfl)]
  have disp : ∀ v s1, (w = 0 → qev en (d + 3) 107 [.ref 36, .int (nI i)] s = some (some (.int v), s1)) → (w = 1 → qev en (d + 3) 108 [.ref 36, .int (nI i)] s = some (some (.int v), s1)) → (w = 2 → qev en (d + 3) 111 [.ref 36, .int (nI i)] s = some (some (.int v), s1)) → ∀ r, L_X5_change_30 en (d + 3) 36 v s1 = some r → qev en (d + 4) 105 [.ref 36, .int (nI w), .int (nI i)] s = some r := fun v s1 a0 a1 a2 r hr => by
    refine le_X5_change en _ _ _ _ _ _ ?_
    rcases (by omega : w = 0 ∨ w = 1 ∨ w = 2) with z | z | z
    · rw [gd_true e36, z, if_neg (by decide), a0 z, bI_some]; exact hr
    · rw [gd_true e36, z, if_pos (by decide), if_neg (by decide), a1 z, bI_some]; exact hr
    · rw [gd_true e36, z, if_pos (by decide), if_pos (by decide), a2 z, bI_some]; exact hr
  have fin : ∀ s1 bl1 go1, chX s s1 → PRGw (rdP s1 36) nc nl N lc0 bl1 K th go1 → ∃ s' bl' go', L_X5_change_30 en (d + 3) 36 (1 : Int32) s1 = some (some (.int 1), s') ∧ chX s s' ∧ PRG (rdP s' 36) nc nl N lc0 bl' K th go' := fun s1 bl1 go1 hc hw1 => by
    have hC := hw1.2.1
    have lw : lwC 36 N s1 := fun i hi => by
      obtain ⟨⟨k, k1, k2, -⟩, -⟩ := hw1.2.2.2.1 i hi
      refine ⟨⟨k, k2.1, k1⟩, ?_, ?_, ?_, ?_⟩
      · rcases ix_next hC (by decide) hN hi rfl with h' | ⟨j, j1, j2, -⟩
        · exact Or.inl h'
        · exact Or.inr ⟨j, j1, j2⟩
      · rcases (hC.2.2.2.2.1 i hi).2 with ⟨-, h'⟩ | ⟨p, b, p1, b1, -, h', -⟩
        · exact Or.inl h'
        · exact Or.inr ⟨p, p1, h'⟩
      · rcases ix_head hC (k := 4 + 2 * i) (by unfold kyV; right; omega) hdK_c with h' | ⟨j, j1, j2, -⟩
        · exact Or.inl h'
        · exact Or.inr ⟨j, j1, j2⟩
      · rcases ix_head hC (k := 5 + 2 * i) (by unfold kyV; right; omega) hdK_o with h' | ⟨j, j1, j2, -⟩
        · exact Or.inl h'
        · exact Or.inr ⟨j, j1, j2⟩
    obtain ⟨s', w1, w2, w3, w4⟩ := x_layWaysC (en := en) (d := d + 1) (r := 36) (Or.inr rfl) hN lw hw1.1.2.2.2.1
    have r2 : ∀ a, a ≠ 58 → a ≠ 59 → s'.1 a = s1.1 a := w2
    have rp : ∀ a, a ≠ 22 → a ≠ 23 → rdP s' 36 a = rdP s1 36 a := fun a h1 h2 => by
      unfold rdP
      rw [r2 8 (by decide) (by decide), r2 9 (by decide) (by decide), r2 (36 + a) (by omega) (by omega)]
    have lm : ∀ s : qS, lmN (rdP s 36) = 500 := fun s => lm_rd
    refine ⟨s', bl1, go1, ?_, ?_, PRGw.to ⟨?_, ?_, hw1.2.2.1, fun i hi => ?_, fun t ht => ?_, fun c hc => ?_, fun t ht => ?_⟩ (fun i hi => ?_)⟩
    · refine le_X5_change_30 en _ _ _ _ _ ?_
      rw [gd_true e36, if_neg (by decide), w1, bV_some, gd_true (Or.inr rfl)]
    · exact hc.tr ⟨fun c h1 h2 h3 => r2 c (by omega) (by omega), fun j _ => by rw [r2 8 (by decide) (by decide), r2 9 (by decide) (by decide)]; exact ⟨rfl, rfl⟩, fun c hc => r2 c (by omega) (by omega), w3⟩
    · rw [rp 0 (by decide) (by decide)]; exact hw1.1
    · unfold CTp
      rw [rp 17 (by decide) (by decide), rp 5 (by decide) (by decide), rp 20 (by decide) (by decide), rp 21 (by decide) (by decide), rp 8 (by decide) (by decide), rp 18 (by decide) (by decide)]
      exact hC
    · refine LFp_cg (hw1.2.2.2.1 i hi) (fun a ha => by rw [rp a (by omega) (by omega)]) (fun j _ => by rw [rp 25 (by decide) (by decide), rp 26 (by decide) (by decide)]; exact ⟨rfl, rfl⟩) (by rw [lm, lm]; exact Nat.le_refl _)
    · rw [rp 3 (by decide) (by decide)]; exact hw1.2.2.2.2.1 t ht
    · rw [rp 4 (by decide) (by decide)]; exact hw1.2.2.2.2.2.1 c hc
    · rw [tcP_cg (P := rdP s1 36) (fun i _ => by rw [rp 7 (by decide) (by decide), rp 8 (by decide) (by decide)]; exact ⟨rfl, rfl⟩)]
      exact hw1.2.2.2.2.2.2 t ht
    · obtain ⟨v1, v2⟩ := w4 i hi
      have e17 : rdP s' 36 17 = s1.1 53 := r2 53 (by decide) (by decide)
      have e18 : rdP s' 36 18 = s1.1 54 := r2 54 (by decide) (by decide)
      have e7 : rdP s' 36 7 = s1.1 43 := r2 43 (by decide) (by decide)
      have e20 : rdP s' 36 20 = s1.1 56 := r2 56 (by decide) (by decide)
      have e21 : rdP s' 36 21 = s1.1 57 := r2 57 (by decide) (by decide)
      unfold itP elP bhP
      rw [e17, e18, e7, e20, e21]
      exact ⟨v1, v2⟩
  rcases (by omega : w = 0 ∨ w = 1 ∨ w = 2) with z | z | z
  · rcases rw_swap (en := en) (d := d) h hG hi hg with e | ⟨s1, bl1, go1, e, hx, hw1⟩
    · exact Or.inl (disp 0 s (fun _ => e) (fun y => by omega) (fun y => by omega) _ (z30 s))
    · obtain ⟨s', bl', go', f1, f2, f3⟩ := fin s1 bl1 go1 (chX_rw hx).1 hw1
      exact Or.inr ⟨s', bl', go', disp 1 s1 (fun _ => e) (fun y => by omega) (fun y => by omega) _ f1, f2, f3⟩
  · rcases rw_leave (en := en) (d := d) h hG hi hg with e | ⟨s1, bl1, go1, e, hx, hw1⟩
    · exact Or.inl (disp 0 s (fun y => by omega) (fun _ => e) (fun y => by omega) _ (z30 s))
    · obtain ⟨s', bl', go', f1, f2, f3⟩ := fin s1 bl1 go1 (chX_rw hx).1 hw1
      exact Or.inr ⟨s', bl', go', disp 1 s1 (fun y => by omega) (fun _ => e) (fun y => by omega) _ f1, f2, f3⟩
  · rcases rw_reuse (en := en) (d := d) h hG hi hg h4 with e | ⟨s1, e, hx, hw1⟩
    · exact Or.inl (disp 0 s (fun y => by omega) (fun y => by omega) (fun _ => e) _ (z30 s))
    · obtain ⟨s', bl', go', f1, f2, f3⟩ := fin s1 bl go hx hw1
      exact Or.inr ⟨s', bl', go', disp 1 s1 (fun y => by omega) (fun y => by omega) (fun _ => e) _ f1, f2, f3⟩
end CHC
