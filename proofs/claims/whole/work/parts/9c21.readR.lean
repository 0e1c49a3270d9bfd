/-! THE READER: a whole program on both sides, begun and ended. -/
section RPR
variable {en : pN} {d d' k i n N j r v u m nc nl nt q : Nat} {V cl th K : Nat → Nat} {U : Nat → Nat → Nat} {bl : Nat → List Nat} {s s' s'' t t' t'' : qS} {B : Nat → Nat} {w : Int32} {F p : Nat}
/-- what is read, with its ways -/
theorem lay_al (hS : tpS s t V U cl nc nl nt m N th K bl) (hai : aiI s nt N) (h13 : s.1 11 13 = nI m) : ∃ s' t', qev en (d + 2) 101 [.ref 11] s = some (none, s') ∧ qev en (d' + 1) 292 [.ref 151, .int (0 : Int32)] (erS t 0 (-2)) = some (none, t') ∧ (∀ a, a ≠ 33 → a ≠ 34 → s'.1 a = s.1 a) ∧ s'.2 = s.2 ∧ (∀ a, a ≠ 174 → t'.1 a = (erS t 0 (-2)).1 a) ∧ t'.2 = t.2 ∧ PGx s' t' (rdP s' 11) V U cl nc nl nt m N th K bl := by
  have hT : tpT s (erS t 0 (-2)) V U cl nc nl nt m N th K bl := tpT_eq (tpT_S hS) (fun a _ => rfl) (fun j _ _ => rfl) (fun _ _ => rfl) (fun a h1 h2 h3 => erS_o (by omega)) (fun j hj => by rw [erS_f, if_neg (by omega), if_neg (by omega), if_neg (by omega), if_neg (by omega), if_neg (by omega)]) (fun _ _ _ => rfl)
  obtain ⟨hC, hL, hR⟩ := tpT_facts hT hai
  have hN : N ≤ 100 := hT.2.1.2.2.1
  have h25 : t.1 151 25 = nI m := hS.2.1.2.2.2.2
  have h32 : (erS t 0 (-2)).1 151 32 = nI N := hT.2.1.2.1
  obtain ⟨s', e1, e2, e3, e4⟩ := x_layWays (en := en) (d := d) (r := 11) (Or.inl rfl) hN hR.1 hC.1.2.2.2.1
  obtain ⟨t', f1, f2, f3, f4, f5⟩ := m_layFlow (en := en) (d := d') (r := 11) (v := 0) (s := s) (by decide) hN hR.1 h32
  obtain ⟨g1, g2⟩ := ways_al (s' := s') (t' := t') (Or.inl rfl) hC hL hR (by decide) e2 e4 f2 f5
  refine ⟨s', t', e1, f1, e2, e3, f2, f4, tpT_eq hT (fun a ha => e2 a (by omega) (by omega)) (fun j _ _ => by rw [e2 11 (by decide) (by decide)]) (fun a _ => by rw [e3]) (fun a h1 h2 h3 => f2 a h3) (fun j _ => by rw [f2 151 (by decide)]) (fun a _ _ => by rw [f4]), fun i hi hk => ?_, ⟨by rw [e2 11 (by decide) (by decide)]; exact h13, ?_⟩, ⟨fun a ha => ?_, lm_rd, fun j hj => ⟨rfl, rfl⟩⟩, g1, g2⟩
  · rw [e2 18 (by decide) (by decide)] at hk
    rw [e2 20 (by decide) (by decide)]
    exact hai i hi hk
  · rw [f2 151 (by decide), erS_f, if_pos rfl]
    exact h25
  · unfold rdP
    rw [if_neg (by omega), if_neg (by omega), if_neg (by omega)]
theorem readProg_al (hT : TX s n B) (hM : MX t n B) (hz : frS sT s) (hk : ∀ j, j < 33 → s.2.1 3 j = Int64.ofNat (KN.getD j 0)) (hw : ∀ j, j < 7 → s.2.1 66 j = Int64.ofNat (CWN.getD j 0)) (h6 : ∀ j, j = 12 ∨ j = 16 ∨ j = 18 ∨ j = 25 ∨ j = 28 ∨ j = 29 ∨ j = 32 → t.1 151 j = 0) : ∃ (s' t' : qS) (F : Nat), qev en (d + 165) 117 [.ref 65] s = some (none, s') ∧ bV (qev en (d' + 17) 250 [.ref 151] t) (fun s15 => L_X12_program_71 en (d' + 17) s15) = some (some (.int (nI F)), t') ∧ (s'.1 65 11 = nI F ∧ F < 16) ∧ pgX s s' ∧ pgM t t' ∧ frS sT s' ∧ (t'.1 151 9 = nI F ∧ t'.1 151 10 = s'.1 65 12 ∧ t'.1 151 1 = 0 ∧ t'.1 151 11 = bt (decide (F = 0))) ∧ (∀ j, j < 33 → s'.2.1 3 j = Int64.ofNat (KN.getD j 0)) ∧ (F = 0 → ∃ (P : Nat → fI) (V : Nat → Nat) (U : Nat → Nat → Nat) (cl : Nat → Nat) (nc nl nt m N : Nat) (th K : Nat → Nat) (bl : Nat → List Nat), PGx s' t' P V U cl nc nl nt m N th K bl) := by
  have n66 : ¬ sT 66 := fun h => absurd h.2 (by decide)
  have n11 : ¬ sT 11 := fun h => absurd h.2 (by decide)
  have n12 : ¬ sT 12 := fun h => absurd h.2 (by decide)
  have n14 : ¬ sT 14 := fun h => absurd h.2 (by decide)
  have hTc : TX (pcS s) n B := by
    obtain ⟨h1, h2, h3, h4⟩ := hT
    exact ⟨by rw [pcS_o (by decide) (by decide) (by decide)]; exact h1, h2, h3, fun i hi => by rw [pcS_o (by decide) (by decide) (by decide)]; exact h4 i hi⟩
  have hkc : ∀ j, j < 33 → (pcS s).2.1 3 j = Int64.ofNat (KN.getD j 0) := fun j hj => by rw [pcS_J, if_neg (by decide)]; exact hk j hj
  have hzc : frS sT (pcS s) := fun a k ha h => hz a k ha h
  obtain ⟨s1, t1, e1, e2, e3, ⟨e4, e4'⟩, ⟨e5, -⟩, e6, ⟨e7, e8, e9, e10, e10', e11⟩, e12, e13⟩ := begin_al (en := en) (d := d + 156) (d' := d' + 13) (q := 7) (lw := false) (Or.inl rfl) hTc hM hzc hkc
  have fx1 : pgX s s1 := pgX_pc.tr (pgX.ox e12)
  have fm1 : pgM t t1 := pgM.mv e13
  have pX : ∀ r, L_X6_readProgram_21 en (d + 164) (nI 0) s1 = some r → qev en (d + 165) 117 [.ref 65] s = some r := fun r hr => by
    refine le_X6_readProgram en _ _ _ ?_
    rw [show qev en (d + 164) 81 [.ref 11] s = _ from x_clearP (d := d + 162), bV_some, show qev en (d + 164) 113 [.ref 65, .ref 7, .int (0 : Int32)] (pcS s) = _ from e1, bV_some]
    exact hr
  have pM : ∀ r, L_X12_program_71 en (d' + 17) t1 = some r → bV (qev en (d' + 17) 250 [.ref 151] t) (fun s15 => L_X12_program_71 en (d' + 17) s15) = some r := fun r hr => by
    rw [show qev en (d' + 17) 250 [.ref 151] t = _ from e2, bV_some]
    exact hr
  have keep : ∀ s2 : qS, (∀ a, ¬ sT a → True) → s2.2.1 3 = s1.2.1 3 → ∀ j, j < 33 → s2.2.1 3 j = Int64.ofNat (KN.getD j 0) := fun s2 _ h j hj => by rw [h]; exact e5 j hj
  -- with a fault
  have bad : ∀ (s2 t2 : qS) (F p : Nat), (∀ r, L_X6_readProgram_100 en (d + 164) s2 = some r → L_X6_readProgram_21 en (d + 164) (nI 0) s1 = some r) → (∀ r, L_X12_program_205 en (d' + 17) 0 t2 = some r → L_X12_program_71 en (d' + 17) t1 = some r) → tqX s1 s2 → tqM t1 t2 → s2.1 65 11 = nI F → s2.1 65 12 = nI p → F ≠ 0 → F < 16 → mtD t2 F p → ∃ (s' t' : qS) (F : Nat), qev en (d + 165) 117 [.ref 65] s = some (none, s') ∧ bV (qev en (d' + 17) 250 [.ref 151] t) (fun s15 => L_X12_program_71 en (d' + 17) s15) = some (some (.int (nI F)), t') ∧ (s'.1 65 11 = nI F ∧ F < 16) ∧ pgX s s' ∧ pgM t t' ∧ frS sT s' ∧ (t'.1 151 9 = nI F ∧ t'.1 151 10 = s'.1 65 12 ∧ t'.1 151 1 = 0 ∧ t'.1 151 11 = bt (decide (F = 0))) ∧ (∀ j, j < 33 → s'.2.1 3 j = Int64.ofNat (KN.getD j 0)) ∧ (F = 0 → ∃ (P : Nat → fI) (V : Nat → Nat) (U : Nat → Nat → Nat) (cl : Nat → Nat) (nc nl nt m N : Nat) (th K : Nat → Nat) (bl : Nat → List Nat), PGx s' t' P V U cl nc nl nt m N th K bl) := fun s2 t2 F p a1 a2 a3 a4 b1 b2 b3 b4 b5 => by
    have hw : (if F = 0 then (-2 : Int32) else t2.1 151 8) = nI p := by rw [if_neg b3]; exact b5.2.2.2
    have g205 : ∀ r, L_X12_program_285 en (d' + 17) t2 = some r → L_X12_program_205 en (d' + 17) 0 t2 = some r := fun r hr => by
      refine le_X12_program_205 en _ _ _ _ ?_
      by_cases y : t2.1 151 32 ≤ (0 : Int32)
      · rw [if_pos y]; exact hr
      · rw [if_neg y, m_goodD b5, bI_some, if_pos rfl]; exact hr
    have g285 := m_285 (en := en) (d := d' + 16) b5.1 b4 hw
    refine ⟨uI s2 11 13 (s2.1 65 13), erS t2 F (nI p), F, pX _ (a1 _ (x_100D (d := d + 162) b1 b3 b4)), pM _ (a2 _ (g205 _ (g285 _ ?_))), ⟨by rw [uI_ne (by decide)]; exact b1, b4⟩, (fx1.tr (pgX.tq a3)).tr (pgX.ui (by decide)), (fm1.tr (pgM.tq a4)).tr pgM.er, ?_, ⟨by rw [erS_f, if_neg (by decide), if_neg (by decide), if_neg (by decide), if_pos rfl], ?_, by rw [erS_f, if_neg (by decide), if_neg (by decide), if_neg (by decide), if_neg (by decide), if_pos rfl], by rw [erS_f, if_neg (by decide), if_pos rfl]⟩, keep _ (fun _ _ => trivial) ?_, fun z => absurd z b3⟩
    · rw [if_neg b3]
      exact m_317 (by rw [erS_f, if_neg (by decide), if_neg (by decide), if_neg (by decide), if_pos rfl])
    · intro a k ha h
      have e : (uI s2 11 13 (s2.1 65 13)).2.2 a k = s1.2.2 a k := by
        show s2.2.2 a k = _
        rw [a3.2.2.2.2.2]
      rw [e] at h ⊢
      exact e6 a k ha h
    · rw [erS_f, if_neg (by decide), if_neg (by decide), if_pos rfl, uI_ne (by decide)]
      exact b2.symm
    · show s2.2.1 3 = _
      exact a3.2.2.2.2.1 3 (by decide) (by decide) (Or.inl (by decide))
  rcases e3 with e3 | e3
  · have hS1 : tpS s1 t1 (fun _ => 0) (fun _ _ => 0) (fun _ => 0) 0 0 0 0 0 (fun _ => 0) (fun _ => 0) (fun _ => []) := by
      have g151 : ∀ j, 9 ≤ j → t1.1 151 j = t.1 151 j := fun j hj => e13.2.1 j (by omega) (by omega) (by omega) (by omega) (by omega) (by omega)
      refine tpS_0 (fun j a1 a2 => ?_) (fun j hj => ?_) (fun j hj => ?_) ⟨e9, e7, e11, e8⟩ (fun j hj => ?_) (fun j hj => ?_)
      · rw [e12.1 11 (by decide) (by decide) n11]; exact pcS_11 ⟨a1, by omega⟩
      · rw [e12.1 14 (by decide) (by decide) n14]; exact pcS_14 hj
      · rw [e12.2.2.2.1 12 n12, pcS_J, if_pos rfl, if_pos hj]
      · rw [e12.2.2.2.1 66 n66, pcS_J, if_neg (by decide)]; exact hw j hj
      · rw [g151 j (by omega)]; exact h6 j hj
    have hB : ∀ j, j < n → B j < 256 := hT.byte
    obtain ⟨s2, t2, a1, a2, a3, a4, a5⟩ := prog_loop (en := en) (d := d) (d' := d') hB 17 0 s1 t1 (fun _ => 0) (fun _ _ => 0) (fun _ => 0) 0 0 0 0 0 0 (fun _ => 0) (fun _ => 0) (fun _ => []) (by decide) (Nat.le_refl _) e3 hS1
    rcases a5 with ⟨V, U, cl, nc, nl, nt, i, m, N, th, K, bl, b1, b2⟩ | ⟨F, p, b1, b2, b3, b4, b5⟩
    · have hm13 : s2.1 65 13 = nI m := b2.2.1.2.2.1.1
      have hS2 := tpS_13 (w := s2.1 65 13) b2
      have f11 : s2.1 65 11 = 0 := b1.1.2.2.2.1.1
      have hp2 : s2.1 65 12 = -2 := b1.1.2.2.2.1.2
      have f7 : t2.1 151 7 = 0 := b1.2.2.1
      obtain ⟨s3, t3, c1, c2, c3, c4, c6, c5⟩ := aim_al (en := en) (d := d + 162) (d' := d' + 16) N 0 (uI s2 11 13 (s2.1 65 13)) t2 (Nat.zero_add N) hS2 (by rw [uI_ne (by decide)]; exact f11) f7 (fun i hi => absurd hi (Nat.not_lt_zero i))
      have e132 : qev en (d + 164) 132 [.ref 65] (uI s2 11 13 (s2.1 65 13)) = some (none, s3) := le_X6_aimThreads en _ _ _ c1
      have fx3 : pgX s s3 := ((fx1.tr (pgX.tq a3)).tr (pgX.ui (q := 11) (j := 13) (w := s2.1 65 13) (by decide))).tr ⟨fun a h1 h2 h3 h4 => c3.1 a (by omega) h1, fun j _ => by rw [c3.1 7 (by decide) (by decide)], fun j hj => c3.2.1 j (by omega) (by omega), fun a _ _ _ _ => by rw [c3.2.2], fun a k _ _ => by rw [c3.2.2]⟩
      have fm3 : pgM t t3 := (fm1.tr (pgM.tq a4)).tr ⟨fun a h1 h2 => c4.1 a (by omega) h1, fun j hj => c4.2.1 j (fun z => by rw [z] at hj; cases hj) (fun z => by rw [z] at hj; cases hj), fun a _ _ => by rw [c4.2.2], fun j _ => by rw [c4.2.2], by rw [c4.2.2]⟩
      have hR3 : s3.2.2 = s1.2.2 := by
        rw [c3.2.2]
        exact a3.2.2.2.2.2
      have hJ3 : s3.2.1 3 = s1.2.1 3 := by
        rw [c3.2.2]
        exact a3.2.2.2.2.1 3 (by decide) (by decide) (Or.inl (by decide))
      have fS3 : ∀ s4 : qS, s4.2.2 = s3.2.2 → frS sT s4 := fun s4 h4 a k ha h => by
        rw [h4, hR3] at h ⊢
        exact e6 a k ha h
      rcases c5 with ⟨hS3, h11, h7, hai⟩ | ⟨p, h11, h12, hD⟩
      · have h13 : s3.1 11 13 = nI m := by
          rw [c3.1 11 (by decide) (by decide), rdW]
          exact hm13
        obtain ⟨s4, t4, g1, g2, g3, g4, g5, g6, g7⟩ := lay_al (en := en) (d := d + 162) (d' := d' + 16) hS3 hai h13
        have g285 := m_285 (en := en) (d := d' + 16) (F := 0) (w := -2) h7 (by decide) rfl
        have t49 : t4.1 151 9 = nI 0 := by rw [g5 151 (by decide), erS_f, if_neg (by decide), if_neg (by decide), if_neg (by decide), if_pos rfl]
        refine ⟨s4, t4, 0, pX _ (a1 _ (le_X6_readProgram_100 en _ _ _ ?_)), pM _ (a2 _ (c2 _ (g285 _ ?_))), ⟨by rw [g3 65 (by decide) (by decide)]; exact h11, by decide⟩, fx3.tr ⟨fun a h1 h2 h3 h4 => g3 a (by omega) (by omega), fun j _ => by rw [g3 7 (by decide) (by decide)], fun j hj => by rw [g3 65 (by decide) (by decide)], fun a _ _ _ _ => by rw [g4], fun a k _ _ => by rw [g4]⟩, (fm3.tr pgM.er).tr ⟨fun a h1 h2 => g5 a (by omega), fun j hj => by rw [g5 151 (by decide)], fun a _ _ => by rw [g6]; rfl, fun j _ => by rw [g6]; rfl, by rw [g6]; rfl⟩, fS3 s4 (by rw [g4]), ⟨t49, ?_, ?_, ?_⟩, keep _ (fun _ _ => trivial) (by rw [g4]; exact hJ3), fun _ => ⟨_, _, _, _, _, _, _, _, _, _, _, _, g7⟩⟩
        · rw [nm_eq, e132, bV_some, if_neg (not_not_intro h11), g1, bV_some]
        · rw [if_pos rfl, show qev en (d' + 16 + 1) 292 [.ref 151, .int (0 : Int32)] (erS t3 0 (-2)) = _ from g2, bV_some]
          exact m_317 t49
        · rw [g5 151 (by decide), erS_f, if_neg (by decide), if_neg (by decide), if_pos rfl, g3 65 (by decide) (by decide), c6 h11, uI_ne (by decide)]
          exact hp2.symm
        · rw [g5 151 (by decide), erS_f, if_neg (by decide), if_neg (by decide), if_neg (by decide), if_neg (by decide), if_pos rfl]
        · rw [g5 151 (by decide), erS_f, if_neg (by decide), if_pos rfl]
      · have n5 : ¬ s3.1 65 11 = (0 : Int32) := by rw [h11]; decide
        have hw : (if 5 = 0 then (-2 : Int32) else t3.1 151 8) = nI p := by rw [if_neg (by decide)]; exact hD.2.2.2
        have g285 := m_285 (en := en) (d := d' + 16) (F := 5) (w := nI p) hD.1 (by decide) hw
        refine ⟨s3, erS t3 5 (nI p), 5, pX _ (a1 _ (le_X6_readProgram_100 en _ _ _ ?_)), pM _ (a2 _ (c2 _ (g285 _ ?_))), ⟨h11, by decide⟩, fx3, fm3.tr pgM.er, fS3 s3 rfl, ⟨by rw [erS_f, if_neg (by decide), if_neg (by decide), if_neg (by decide), if_pos rfl], by rw [erS_f, if_neg (by decide), if_neg (by decide), if_pos rfl]; exact h12.symm, by rw [erS_f, if_neg (by decide), if_neg (by decide), if_neg (by decide), if_neg (by decide), if_pos rfl], by rw [erS_f, if_neg (by decide), if_pos rfl]⟩, keep _ (fun _ _ => trivial) hJ3, fun z => absurd z (by decide)⟩
        · rw [nm_eq, e132, bV_some, if_pos n5]
        · rw [if_neg (by decide)]
          exact m_317 (by rw [erS_f, if_neg (by decide), if_neg (by decide), if_neg (by decide), if_pos rfl])
    · exact bad s2 t2 F p a1 a2 a3 a4 b1 b2 b3 b4 b5
  · obtain ⟨s2, a1, a2, a3, F, p, b1, b2, b3, b4, b5⟩ := prog_dead (en := en) (d := d) (d' := d') (v := 0) e3 (by decide)
    exact bad s2 t1 F p a1 a2 a3 tqM.rf b1 b2 b3 b4 b5
end RPR
