/-! JUDGING, the model's side: layParts. -/
/-- what the model gathers of its groups -/
abbrev acP (Q : Nat) (s : qS) (p4 : Nat → Prop) (p5 : Nat → Nat → Prop) : Prop := ∀ k, k < Q → (∃ b : Bool, s.1 244 k = bt b ∧ (b = true ↔ p4 k)) ∧ ∀ t, t < 4 → ((bI' (s.1 245 k) t ∨ bI' (s.1 246 k) t) ↔ p5 k t)
abbrev in4 (A E : Nat → Nat) (W : Nat → Bool) (G : Nat → Nat) (k x e : Nat) : Prop := ∃ e', A x ≤ e' ∧ e' < e ∧ W (E e') = false ∧ G (E e') = k + 1
abbrev in5 (A E T M : Nat → Nat) (W : Nat → Bool) (G : Nat → Nat) (k t x e : Nat) : Prop := ¬ (M x).testBit t = true ∨ ∃ e', A x ≤ e' ∧ e' < e ∧ W (E e') = false ∧ G (E e') = k + 1 ∧ T e' / 10 = t
abbrev al4 (A E : Nat → Nat) (W : Nat → Bool) (G : Nat → Nat) (v k : Nat) : Prop := ∃ x, x < v ∧ W x = false ∧ G x = k + 1 ∧ in4 A E W G k x (A (x + 1))
abbrev al5 (A E T M : Nat → Nat) (W : Nat → Bool) (G : Nat → Nat) (v k t : Nat) : Prop := ∃ x, x < v ∧ W x = false ∧ G x = k + 1 ∧ in5 A E T M W G k t x (A (x + 1))
section LPM
variable {en : pN} {d N C no nn Q v u i0 e nt k0 : Nat} {I L G X op tr A E T M : Nat → Nat} {s s' s'' σ : qS} {W B R K : Nat → Bool} {y1 y3 y4 : Int32}
theorem m_lpLoop (hH : mjH A E T M W N nt σ) : ∀ (m v : Nat) (s : qS) (C : Nat) (I L G X : Nat → Nat) (no : Nat) (op tr : Nat → Nat) (Q : Nat), v + m = N → mjV A E W N σ s C I L G X no op 0 tr Q → (∀ u, u < v → W u = false → I u ≠ 0) → ∃ (s' : qS) (C' : Nat) (I' L' G' X' : Nat → Nat) (no' : Nat) (op' tr' : Nat → Nat) (Q' : Nat), (∀ r, L_X12_layParts_494 en d 0 s' = some r → L_X12_layParts_43 en d (nI C) (nI no) (nI v) s = some r) ∧ mjV A E W N σ s' C' I' L' G' X' no' op' 0 tr' Q' ∧ ∀ u, u < N → W u = false → I' u ≠ 0 := by
  obtain ⟨⟨hN, hAN⟩, hA, hG0⟩ := id hH
  intro m
  induction m with
  | zero =>
    intro v s C I L G X no op tr Q hv hV hI
    refine ⟨s, C, I, L, G, X, no, op, tr, Q, fun r hr => le_X12_layParts_43 en _ _ _ _ _ _ ?_, hV, fun u hu => hI u (by omega)⟩
    rw [(hG0.fr' hV.2.1).2.2.1.1, if_pos (by rw [n_LE (by omega) (by omega)]; omega)]
    exact hr
  | succ m ih =>
    intro v s C I L G X no op tr Q hv hV hI
    obtain ⟨hT, hF, hP, hQ⟩ := id hV
    obtain ⟨hI9, hL, hg, ho8, ht, h143, h456⟩ := id hP
    have hG := hG0.fr' hF
    obtain ⟨nle1, nle2, nle3⟩ := hT.no_le
    have hvN : v < N := by omega
    have hIb := hT.1.2.1 v hvN
    have w233 := (hG.2.2.2 v hvN).1
    have skip : (W v = false → I v ≠ 0) → ∃ (s' : qS) (C' : Nat) (I' L' G' X' : Nat → Nat) (no' : Nat) (op' tr' : Nat → Nat) (Q' : Nat), (∀ r, L_X12_layParts_494 en d 0 s' = some r → L_X12_layParts_43 en d (nI C) (nI no) (nI (v + 1)) s = some r) ∧ mjV A E W N σ s' C' I' L' G' X' no' op' 0 tr' Q' ∧ ∀ u, u < N → W u = false → I' u ≠ 0 := fun hx => ih (v + 1) s C I L G X no op tr Q (by omega) hV (fun u hu hw => by
      by_cases q : u = v
      · rw [q]; exact hx (by rw [← q]; exact hw)
      · exact hI u (by omega) hw)
    cases hw : W v
    · by_cases q : I v = 0
      · have hroom := hT.room hvN q
        obtain ⟨t1, t2⟩ := hT.enter hvN q (hA v (v + 1) (by omega) (by omega)) hw (fun i hi => absurd hi (by omega))
        let s2 : qS := uI (uI (uI (uI (uI s 242 0 (nI v)) 239 v (nI C)) 240 v (nI C)) 241 v (nI (A v))) 243 no (nI v)
        have hF2 : mjF σ s2 := hF.tr' ((mjF_u (by omega)).tr' ((mjF_u (by omega)).tr' ((mjF_u (by omega)).tr' ((mjF_u (by omega)).tr' (mjF_u (by omega))))))
        have hP2 : mjP s2 N (at1 I v (C + 1)) (at1 L v (C + 1)) G (at1 X v (A v)) (no + 1) (at1 op no v) (0 + 1) (at1 tr 0 v) Q := by
          refine ⟨fun u hu => ?_, fun u hu hn => ⟨?_, ?_⟩, fun u hu => hg u hu, fun i hi => ?_, fun i hi => ?_, h143, h456⟩
          · show (uI (uI (uI (uI (uI s 242 0 (nI v)) 239 v (nI C)) 240 v (nI C)) 241 v (nI (A v))) 243 no (nI v)).1 239 u = _
            rw [uI_ne (by decide), uI_ne (by decide), uI_ne (by decide), rdU]
            by_cases q : u = v
            · rw [if_pos ⟨rfl, q⟩, q, at1_s, idV_s (by omega)]; rfl
            · rw [if_neg (fun z => q z.2), at1_n q, uI_ne (by decide)]; exact hI9 u hu
          · show (uI (uI (uI (uI (uI s 242 0 (nI v)) 239 v (nI C)) 240 v (nI C)) 241 v (nI (A v))) 243 no (nI v)).1 240 u = _
            rw [uI_ne (by decide), uI_ne (by decide), rdU]
            by_cases q : u = v
            · rw [if_pos ⟨rfl, q⟩, q, at1_s]; rfl
            · rw [if_neg (fun z => q z.2), at1_n q, uI_ne (by decide), uI_ne (by decide)]
              rw [at1_n q] at hn
              exact (hL u hu hn).1
          · show (uI (uI (uI (uI (uI s 242 0 (nI v)) 239 v (nI C)) 240 v (nI C)) 241 v (nI (A v))) 243 no (nI v)).1 241 u = _
            rw [uI_ne (by decide), rdU]
            by_cases q : u = v
            · rw [if_pos ⟨rfl, q⟩, q, at1_s]
            · rw [if_neg (fun z => q z.2), at1_n q, uI_ne (by decide), uI_ne (by decide), uI_ne (by decide)]
              rw [at1_n q] at hn
              exact (hL u hu hn).2
          · show (uI (uI (uI (uI (uI s 242 0 (nI v)) 239 v (nI C)) 240 v (nI C)) 241 v (nI (A v))) 243 no (nI v)).1 243 i = _
            rw [rdU]
            by_cases q : i = no
            · rw [if_pos ⟨rfl, q⟩, q, at1_s]
            · rw [if_neg (fun z => q z.2), at1_n q, uI_ne (by decide), uI_ne (by decide), uI_ne (by decide), uI_ne (by decide)]
              exact ho8 i (by omega)
          · show (uI (uI (uI (uI (uI s 242 0 (nI v)) 239 v (nI C)) 240 v (nI C)) 241 v (nI (A v))) 243 no (nI v)).1 242 i = _
            rw [uI_ne (by decide), uI_ne (by decide), uI_ne (by decide), uI_ne (by decide), rdU, if_pos ⟨rfl, by omega⟩, show i = 0 by omega, at1_s]
        obtain ⟨s1, C1, I1, L1, G1, X1, no1, op1, tr1, Q1, w1, w2, w3⟩ := m_walkLoop (en := en) (d := d) (y3 := nI v) hH _ s2 _ _ _ _ _ _ _ _ _ _ ⟨t1, hF2, hP2, by omega⟩ (Nat.le_refl _)
        obtain ⟨s', C', I', L', G', X', no', op', tr', Q', z1, z2, z3⟩ := ih (v + 1) s1 C1 I1 L1 G1 X1 no1 op1 tr1 Q1 (by omega) w2 (fun u hu hwu => by
          by_cases q' : u = v
          · rw [q']; exact w3 v (by rw [at1_s]; omega)
          · exact w3 u (by rw [at1_n q']; exact hI u (by omega) hwu))
        refine ⟨s', C', I', L', G', X', no', op', tr', Q', fun r hr => le_X12_layParts_43 en _ _ _ _ _ _ ?_, z2, z3⟩
        rw [hG.2.2.1.1, if_neg (by rw [n_LE (by omega) (by omega)]; omega), gd_in (by omega) (by decide), n_cl (by omega), w233, hw, if_neg (show ¬ ¬ bt false = (0 : Int32) from not_not_intro rfl), hI9 v hvN, if_pos (by rw [idV_z (by omega)]; exact q), nm_eq, nm_eq, nm_eq, gd_in (by omega) (by decide), nm_eq, gd_in (by omega) (by decide), nm_eq, n_cl (show no < 2 ^ 31 by omega), uI_ne (by decide), uI_ne (by decide), uI_ne (by decide), hG.1 v (by omega), show nI C + (1 : Int32) = nI (C + 1) from n_ar, show nI no + (1 : Int32) = nI (no + 1) from n_ar]
        exact w1 r (by rw [show nI v + (1 : Int32) = nI (v + 1) from n_ar]; exact z1 r hr)
      · obtain ⟨s', C', I', L', G', X', no', op', tr', Q', y1, y2, y3⟩ := skip (fun _ => q)
        refine ⟨s', C', I', L', G', X', no', op', tr', Q', fun r hr => le_X12_layParts_43 en _ _ _ _ _ _ ?_, y2, y3⟩
        rw [hG.2.2.1.1, if_neg (by rw [n_LE (by omega) (by omega)]; omega), gd_in (by omega) (by decide), n_cl (by omega), w233, hw, if_neg (show ¬ ¬ bt false = (0 : Int32) from not_not_intro rfl), hI9 v hvN, if_neg (by rw [idV_z (by omega)]; exact q), show nI v + (1 : Int32) = nI (v + 1) from n_ar]
        exact y1 r hr
    · obtain ⟨s', C', I', L', G', X', no', op', tr', Q', y1, y2, y3⟩ := skip (fun h => by rw [hw] at h; exact Bool.noConfusion h)
      refine ⟨s', C', I', L', G', X', no', op', tr', Q', fun r hr => le_X12_layParts_43 en _ _ _ _ _ _ ?_, y2, y3⟩
      rw [hG.2.2.1.1, if_neg (by rw [n_LE (by omega) (by omega)]; omega), gd_in (by omega) (by decide), n_cl (by omega), w233, hw, if_pos (show ¬ bt true = (0 : Int32) by decide), show nI v + (1 : Int32) = nI (v + 1) from n_ar]
      exact y1 r hr
/-- what one state gathers -/
theorem m_gaEdges (hH : mjH A E T M W N nt σ) (hv : v < N) {z : Nat} (hz : z < Q) (hQ : Q ≤ 20000) {p4 : Nat → Prop} {p5 : Nat → Nat → Prop} : ∀ (m e : Nat) (s : qS), e + m = A (v + 1) → A v ≤ e → mjF σ s → (∀ u, u < N → s.1 238 u = idV (G u)) → (∀ u, u < N → G u ≤ Q) → acP Q s (fun k => p4 k ∨ (k = z ∧ in4 A E W G k v e)) (fun k t => p5 k t ∨ (k = z ∧ in5 A E T M W G k t v e)) → ∃ s', (∀ r, L_X12_layParts_494 en d (nI (v + 1)) s' = some r → L_X12_layParts_548 en d (nI v) (nI z) (nI e) s = some r) ∧ mjF σ s' ∧ (∀ u, u < N → s'.1 238 u = idV (G u)) ∧ acP Q s' (fun k => p4 k ∨ (k = z ∧ in4 A E W G k v (A (v + 1)))) (fun k t => p5 k t ∨ (k = z ∧ in5 A E T M W G k t v (A (v + 1)))) := by
  obtain ⟨⟨hN, hAN⟩, hA, hG0⟩ := id hH
  have hAz : A (v + 1) ≤ A N := hA (v + 1) N hv (Nat.le_refl _)
  intro m
  induction m with
  | zero =>
    intro e s he hAe hF h8 hGQ hP
    have hG := hG0.fr' hF
    have he' : e = A (v + 1) := by omega
    subst he'
    refine ⟨s, fun r hr => le_X12_layParts_548 en _ _ _ _ _ _ ?_, hF, h8, hP⟩
    rw [show nI v + (1 : Int32) = nI (v + 1) from n_ar, gd_in (by omega) (by decide), n_cl (by omega), hG.1 (v + 1) (by omega), if_pos (by rw [n_LE (by omega) (by omega)]; omega)]
    exact hr
  | succ m ih =>
    intro e s he hAe hF h8 hGQ hP
    have hG := hG0.fr' hF
    obtain ⟨z1, z1', z2, z3⟩ := hG.2.1 e (by omega)
    have gb := hGQ _ z2
    have s4 : ∀ k, in4 A E W G k v (e + 1) ↔ in4 A E W G k v e ∨ (W (E e) = false ∧ G (E e) = k + 1) := fun k => by
      constructor
      · rintro ⟨e', h1, h2, h3⟩
        by_cases q : e' = e
        · right; rw [← q]; exact h3
        · exact Or.inl ⟨e', h1, by omega, h3⟩
      · rintro (⟨e', h1, h2, h3⟩ | h)
        · exact ⟨e', h1, by omega, h3⟩
        · exact ⟨e, hAe, by omega, h⟩
    have s5 : ∀ k t, in5 A E T M W G k t v (e + 1) ↔ in5 A E T M W G k t v e ∨ (W (E e) = false ∧ G (E e) = k + 1 ∧ T e / 10 = t) := fun k t => by
      constructor
      · rintro (h | ⟨e', h1, h2, h3⟩)
        · exact Or.inl (Or.inl h)
        · by_cases q : e' = e
          · right; rw [← q]; exact h3
          · exact Or.inl (Or.inr ⟨e', h1, by omega, h3⟩)
      · rintro ((h | ⟨e', h1, h2, h3⟩) | h)
        · exact Or.inl h
        · exact Or.inr ⟨e', h1, by omega, h3⟩
        · exact Or.inr ⟨e, hAe, by omega, h⟩
    by_cases q : W (E e) = false ∧ G (E e) = z + 1
    · let s1 : qS := uI (uI s 244 z 1) 246 z (s.1 246 z ||| ((1 : Int32) <<< (nI (T e / 10) &&& 31)))
      have r1 : ∀ c, c ≠ 244 → c ≠ 246 → s1.1 c = s.1 c := fun c h1 h2 => by
        show (uI (uI s 244 z 1) 246 z _).1 c = _
        rw [uI_ne h2, uI_ne h1]
      obtain ⟨s', w1, w2, w3, w4⟩ := ih (e + 1) s1 (by omega) (by omega) (hF.tr' ((mjF_u (by omega)).tr' (mjF_u (by omega)))) (fun u hu => by rw [r1 238 (by decide) (by decide)]; exact h8 u hu) hGQ (fun k hk => by
        obtain ⟨⟨b, b1, b2⟩, b3⟩ := hP k hk
        by_cases qk : k = z
        · refine ⟨⟨true, ?_, fun _ => Or.inr ⟨qk, (s4 k).mpr (Or.inr ⟨q.1, by rw [qk]; exact q.2⟩)⟩, fun _ => rfl⟩, fun t ht => ?_⟩
          · show (uI (uI s 244 z 1) 246 z _).1 244 k = _
            rw [uI_ne (by decide), rdU, if_pos ⟨rfl, qk⟩]; rfl
          · have e6 : s1.1 246 k = s.1 246 k ||| ((1 : Int32) <<< (nI (T e / 10) &&& 31)) := by
              show (uI (uI s 244 z 1) 246 z _).1 246 k = _
              rw [rdU, if_pos ⟨rfl, qk⟩, qk]
            rw [r1 245 (by decide) (by decide), e6, msk_or, msk_sh (by omega), ← or_assoc]
            refine Iff.trans (or_congr (b3 t ht) Iff.rfl) ?_
            show (p5 k t ∨ (k = z ∧ in5 A E T M W G k t v e)) ∨ t = T e / 10 ↔ p5 k t ∨ (k = z ∧ in5 A E T M W G k t v (e + 1))
            rw [s5]
            constructor
            · rintro ((h | ⟨_, h⟩) | h)
              · exact Or.inl h
              · exact Or.inr ⟨qk, Or.inl h⟩
              · exact Or.inr ⟨qk, Or.inr ⟨q.1, by rw [qk]; exact q.2, h.symm⟩⟩
            · rintro (h | ⟨_, h | h⟩)
              · exact Or.inl (Or.inl h)
              · exact Or.inl (Or.inr ⟨qk, h⟩)
              · exact Or.inr h.2.2.symm
        · refine ⟨⟨b, ?_, b2.trans (or_congr Iff.rfl ⟨fun h => absurd h.1 qk, fun h => absurd h.1 qk⟩)⟩, fun t ht => ?_⟩
          · show (uI (uI s 244 z 1) 246 z _).1 244 k = _
            rw [uI_ne (by decide), rdU, if_neg (fun z => qk z.2)]; exact b1
          · have e6 : s1.1 246 k = s.1 246 k := by
              show (uI (uI s 244 z 1) 246 z _).1 246 k = _
              rw [rdU, if_neg (fun z => qk z.2), uI_ne (by decide)]
            rw [r1 245 (by decide) (by decide), e6]
            exact (b3 t ht).trans (or_congr Iff.rfl ⟨fun h => absurd h.1 qk, fun h => absurd h.1 qk⟩))
      refine ⟨s', fun r hr => le_X12_layParts_548 en _ _ _ _ _ _ ?_, w2, w3, w4⟩
      rw [show nI v + (1 : Int32) = nI (v + 1) from n_ar, gd_in (by omega) (by decide), n_cl (by omega), hG.1 (v + 1) (by omega), if_neg (by rw [n_LE (by omega) (by omega)]; omega), gd_in (by omega) (by decide), n_cl (by omega), z1, gd_in (by omega) (by decide), n_cl (show E e < 2 ^ 31 by omega), (hG.2.2.2 _ z2).1, q.1, if_neg (show ¬ ¬ bt false = (0 : Int32) from not_not_intro rfl), h8 _ z2, idV_s (by omega), q.2, Nat.add_sub_cancel, if_neg (not_not_intro rfl), gd_in (by omega) (by decide), n_cl (show z < 2 ^ 31 by omega), nm_eq, nm_eq, nar1, uI_ne (by decide), uI_ne (by decide), z1', n_d10 (show T e < 2 ^ 31 by omega), show nI e + (1 : Int32) = nI (e + 1) from n_ar]
      exact w1 r hr
    · obtain ⟨s', w1, w2, w3, w4⟩ := ih (e + 1) s (by omega) (by omega) hF h8 hGQ (fun k hk => by
        obtain ⟨⟨b, b1, b2⟩, b3⟩ := hP k hk
        refine ⟨⟨b, b1, b2.trans (or_congr Iff.rfl ?_)⟩, fun t ht => (b3 t ht).trans (or_congr Iff.rfl ?_)⟩
        · exact ⟨fun h => ⟨h.1, (s4 k).mpr (Or.inl h.2)⟩, fun h => ⟨h.1, ((s4 k).mp h.2).elim id (fun w => absurd ⟨w.1, by rw [← h.1]; exact w.2⟩ q)⟩⟩
        · exact ⟨fun h => ⟨h.1, (s5 k t).mpr (Or.inl h.2)⟩, fun h => ⟨h.1, ((s5 k t).mp h.2).elim id (fun w => absurd ⟨w.1, by rw [← h.1]; exact w.2.1⟩ q)⟩⟩)
      refine ⟨s', fun r hr => le_X12_layParts_548 en _ _ _ _ _ _ ?_, w2, w3, w4⟩
      rw [show nI v + (1 : Int32) = nI (v + 1) from n_ar, gd_in (by omega) (by decide), n_cl (by omega), hG.1 (v + 1) (by omega), if_neg (by rw [n_LE (by omega) (by omega)]; omega), gd_in (by omega) (by decide), n_cl (by omega), z1, gd_in (by omega) (by decide), n_cl (show E e < 2 ^ 31 by omega), (hG.2.2.2 _ z2).1, h8 _ z2, show nI e + (1 : Int32) = nI (e + 1) from n_ar]
      cases hw : W (E e)
      · rw [if_neg (show ¬ ¬ bt false = (0 : Int32) from not_not_intro rfl), if_pos (by
          intro h
          by_cases g0 : G (E e) = 0
          · rw [g0] at h; exact (n_2m (a := z) (by omega)).mp h
          · rw [idV_s g0, n_EQ (by omega) (by omega)] at h
            exact q ⟨hw, by omega⟩)]
        exact w1 r hr
      · rw [if_pos (show ¬ bt true = (0 : Int32) by decide)]
        exact w1 r hr
end LPM
