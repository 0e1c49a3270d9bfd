/-! THE CLASS'S CALLS: rewrite. -/
/-- what a first rewriting may change -/
abbrev wrF (s s' : qS) : Prop := (∀ c, c ≠ 0 → (c < 36 ∨ 60 < c) → c ≠ 8 → c ≠ 9 → s'.1 c = s.1 c) ∧ (∀ j, j < 400 → s'.1 8 j = s.1 8 j ∧ s'.1 9 j = s.1 9 j) ∧ (∀ a, a ≠ 37 → a ≠ 38 → s'.2.1 a = s.2.1 a) ∧ s'.2.2 = s.2.2
section RWR
variable {en : pN} {d nc nl N i j k w : Nat} {bl : Nat → List Nat} {K th lc0 : Nat → Nat} {go : Nat → Bool} {s s' t : qS}
theorem x_rewrite (hP : PRG (rdP s 11) nc nl N lc0 bl K th (fun _ => false)) (hT : TRs s 2 N bl K th) (h9 : ¬ s.1 0 9 = 0) (h10 : s.1 0 10 = 0) (h11 : s.1 0 11 = 0) (h12 : s.1 0 12 = 0) (hi : i < N) (hw : w ≤ 2) :
    (∃ s', qev en (d + 6) 234 [.ref 0, .int (nI w), .int (nI i)] s = some (some (.int 0), s') ∧ s'.1 0 = s.1 0 ∧ wrF s s') ∨ ∃ s' bl' go', qev en (d + 6) 234 [.ref 0, .int (nI w), .int (nI i)] s = some (some (.int 1), s') ∧ wrF s s' ∧ PRG (rdP s' 36) nc nl N lc0 bl' K th go' ∧ s'.1 0 10 = 1 ∧ ∀ j, j ≠ 10 → s'.1 0 j = s.1 0 j := by
  have hN := hP.1.2.2.2.2
  obtain ⟨s1, e1, c1, p0, p3, p4, p5, px⟩ := x_copy (en := en) (d := d + 4) (s := s)
  have hT1 : TRs (shS s1) 2 N bl K th := TRs_cg hT (by decide) (fun u hu => p5 u hu) (fun a ha i hi => by
    have := px (a - 18) (by omega) i (by omega)
    show s1.1 (a + 25) i = s.1 a i
    rw [show a + 25 = 43 + (a - 18) by omega, this, show 18 + (a - 18) = a by omega]) (fun p hp _ => px 0 (by decide) p (by omega))
  have hG := TG_gh hT1 hN
  have rw7 : ∀ a, 7 ≤ a → a < 25 → ∀ j, j < 100 → rdP s1 36 a j = rdP s 11 a j := fun a h1 h2 j hj => by
    have := px (a - 7) (by omega) j hj
    unfold rdP
    rw [if_neg (by omega), if_neg (by omega), if_neg (by omega), if_neg (by omega), if_neg (by omega), if_neg (by omega), show 36 + a = 43 + (a - 7) by omega, this, show 18 + (a - 7) = 11 + a by omega]
  have nd : rdP s1 36 25 = rdP s 11 25 ∧ rdP s1 36 26 = rdP s 11 26 := ⟨c1.1 8 (by decide), c1.1 9 (by decide)⟩
  have lm1 : lmN (rdP s1 36) = 500 := lm_rd
  have lm : lmN (rdP s 11) = 400 := lm_rd
  have hw1 : PRGw (rdP s1 36) nc nl N lc0 bl K th (fun _ => false) := by
    refine ⟨⟨⟨?_, hP.1.1.2⟩, ⟨?_, hP.1.2.1.2⟩, ⟨?_, ?_⟩, ?_, hN⟩, CTp_TG hG, hP.2.2.1, fun i hi => ?_, fun t ht => ⟨?_, (hP.2.2.2.2.2.1 t ht).2⟩, fun c hc => ?_, fun t ht => ?_⟩
    · exact (p0 9 (by decide) (by decide)).trans hP.1.1.1
    · exact (p0 10 (by decide) (by decide)).trans hP.1.2.1.1
    · exact (p0 11 (by decide) (by decide)).trans hP.1.2.2.1.1
    · exact (p0 8 (by decide) (by decide)).trans hP.1.2.2.1.2
    · exact (p0 12 (by decide) (by decide)).trans hP.1.2.2.2.1
    · refine LFp_cg (hP.2.2.2.1 i hi) (fun a ha => rw7 a (by omega) (by omega) i (by omega)) (fun j _ => by rw [nd.1, nd.2]; exact ⟨rfl, rfl⟩) (by omega)
    · exact (p3 t (by omega)).trans (hP.2.2.2.2.2.1 t ht).1
    · have : rdP s1 36 4 c = rdP s 11 4 c := p4 c (by have := hP.1.1.2; omega)
      rw [this]; exact hP.2.2.2.2.2.2.1 c hc
    · rw [tcP_cg (P := rdP s 11) (fun i hi => ⟨rw7 7 (by decide) (by decide) i (by omega), rw7 8 (by decide) (by decide) i (by omega)⟩)]
      exact hP.2.2.2.2.2.2.2 t ht
  have h4 : ∀ i, i < N → ∀ r, r = 13 ∨ r = 15 → ∃ e, s1.1 (36 + r) i = nI e ∧ e ≤ 400 := fun i hi r hr => by
    obtain ⟨-, -, ⟨a, e, x1, x2, x3, -⟩, ⟨a', e', y1, y2, y3, -⟩⟩ := hP.2.2.2.1 i hi
    rcases hr with rfl | rfl
    · exact ⟨e, (rw7 13 (by decide) (by decide) i (by omega)).trans x2, by omega⟩
    · exact ⟨e', (rw7 15 (by decide) (by decide) i (by omega)).trans y2, by omega⟩
  have e0 : s1.1 0 = s.1 0 := c1.1 0 (by decide)
  have z60 : s1.1 60 i = 0 := (hG.2.2.2.2.2.1 i hi).1
  have pre : ∀ r, L_X11_rewrite_51 en (d + 5) (nI w) (nI i) s1 = some r → qev en (d + 6) 234 [.ref 0, .int (nI w), .int (nI i)] s = some r := fun r hr => by
    refine le_X11_rewrite en _ _ _ _ _ ?_
    have e12 : s.1 11 12 = nI N := hP.1.2.2.2.1
    rw [if_neg h9, if_neg (nI_pos (by omega)), e12, if_neg (by rw [n_LE (by omega) (by omega)]; omega), if_neg (nI_pos (by omega)), if_pos (by rw [n_ge (by decide) (by omega)]; exact hw), h10, if_neg (show ¬ ¬ (0 : Int32) = 0 from not_not_intro rfl), show qev en (d + 5) 82 [.ref 36, .ref 11] s = _ from e1, bV_some]
    exact hr
  have wc : wrF s s1 := ⟨fun c _ h2 _ _ => c1.1 c h2, fun j _ => by rw [c1.1 8 (by decide), c1.1 9 (by decide)]; exact ⟨rfl, rfl⟩, c1.2.1, c1.2.2⟩
  rcases rw_change (en := en) (d := d + 1) hw1 hG hi rfl hw h4 with e | ⟨s2, bl', go', e, hc, hP2⟩
  · refine Or.inl ⟨s1, pre _ ?_, e0, wc⟩
    refine le_X11_rewrite_51 en _ _ _ _ _ ?_
    rw [gd_in (by omega) (by decide), n_cl (by omega), z60, if_pos rfl, e, bI_some, if_neg (by decide)]
  · have f0 : s2.1 0 = s.1 0 := (hc.1 0 (by decide) (by decide) (by decide)).trans e0
    have e239 : qev en (d + 5) 239 [.ref 0] s2 = some (none, s2) := by
      refine le_X11_forgetRewritten en _ _ _ ?_
      rw [f0, h11, if_pos rfl]
      refine le_X11_forgetRewritten_20 en _ _ _ ?_
      rw [f0, h12, if_pos rfl]
    have eP : rdP (uI s2 0 10 1) 36 = rdP s2 36 := by
      funext a
      unfold rdP
      rw [uI_ne (by decide), uI_ne (by decide), uI_ne (show 36 + a ≠ 0 by omega)]
    refine Or.inr ⟨uI s2 0 10 1, bl', go', pre _ ?_, ⟨fun c h1 h2 h3 h4 => ?_, fun j hj => ?_, fun a h1 h2 => ?_, ?_⟩, by rw [eP]; exact hP2, ?_, fun j hj => ?_⟩
    · refine le_X11_rewrite_51 en _ _ _ _ _ ?_
      rw [gd_in (by omega) (by decide), n_cl (by omega), z60, if_pos rfl, e, bI_some, if_pos (by decide), e239, bV_some, nm_eq]
    · rw [uI_ne h1, hc.1 c h2 h3 h4]; exact c1.1 c h2
    · rw [uI_ne (by decide), uI_ne (by decide), (hc.2.1 j hj).1, (hc.2.1 j hj).2, c1.1 8 (by decide), c1.1 9 (by decide)]
      exact ⟨rfl, rfl⟩
    · show s2.2.1 a = _
      rw [hc.2.2.2]; exact c1.2.1 a h1 h2
    · show s2.2.2 = _
      rw [hc.2.2.2]; exact c1.2.2
    · rw [g_I, if_pos ⟨rfl, rfl⟩]
    · rw [g_I, if_neg (fun z => hj z.2), f0]
end RWR
