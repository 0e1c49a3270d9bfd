/-! JUDGING, the model's side: layParts and isLasting. -/
/-- the model's groups are laid -/
abbrev mjD (A E T M : Nat → Nat) (W : Nat → Bool) (N : Nat) (s : qS) (G : Nat → Nat) (Q : Nat) : Prop := (∀ v, v < N → s.1 238 v = idV (G v)) ∧ (∀ v, v < N → G v ≤ Q) ∧ Q ≤ N ∧ (∀ v, v < N → W v = false → G v ≠ 0) ∧ (∀ v, v < N → G v ≠ 0 → W v = false) ∧ (∀ v u, v < N → u < N → G v ≠ 0 → ((rcW A E W v u ∧ rcW A E W u v) ↔ G u = G v)) ∧ acP Q s (al4 A E W G N) (al5 A E T M W G N)
section LST
variable {en : pN} {d N C no nn Q v u i0 e nt k0 : Nat} {I L G X op tr A E T M : Nat → Nat} {s s' s'' σ : qS} {W B R K : Nat → Bool} {y1 y3 y4 : Int32} {fr : Bool}
theorem m_gaLoop (hH : mjH A E T M W N nt σ) (hGQ : ∀ u, u < N → G u ≤ Q) (hQ : Q ≤ 20000) (hW : ∀ v, v < N → W v = false → G v ≠ 0) : ∀ (m v : Nat) (s : qS), v + m = N → mjF σ s → (∀ u, u < N → s.1 238 u = idV (G u)) → acP Q s (al4 A E W G v) (al5 A E T M W G v) → ∃ s', L_X12_layParts_494 en d (nI v) s = some (none, s') ∧ mjF σ s' ∧ (∀ u, u < N → s'.1 238 u = idV (G u)) ∧ acP Q s' (al4 A E W G N) (al5 A E T M W G N) := by
  obtain ⟨⟨hN, hAN⟩, hA, hG0⟩ := id hH
  intro m
  induction m with
  | zero =>
    intro v s hv hF h8 hP
    have hv' : v = N := by omega
    subst hv'
    refine ⟨s, le_X12_layParts_494 en _ _ _ _ ?_, hF, h8, hP⟩
    rw [(hG0.fr' hF).2.2.1.1, if_pos (by rw [n_LE (by omega) (by omega)]; omega)]
  | succ m ih =>
    intro v s hv hF h8 hP
    have hG := hG0.fr' hF
    have hvN : v < N := by omega
    have hAm : A v ≤ A (v + 1) := hA _ _ (by omega) (by omega)
    have h15 := (hG.2.2.2 v hvN).2.2
    have sp4 : ∀ k, al4 A E W G (v + 1) k ↔ al4 A E W G v k ∨ (W v = false ∧ G v = k + 1 ∧ in4 A E W G k v (A (v + 1))) := fun k => by
      constructor
      · rintro ⟨x, x1, x2⟩
        by_cases q : x = v
        · right; rw [← q]; exact x2
        · exact Or.inl ⟨x, by omega, x2⟩
      · rintro (⟨x, x1, x2⟩ | h)
        · exact ⟨x, by omega, x2⟩
        · exact ⟨v, by omega, h⟩
    have sp5 : ∀ k t, al5 A E T M W G (v + 1) k t ↔ al5 A E T M W G v k t ∨ (W v = false ∧ G v = k + 1 ∧ in5 A E T M W G k t v (A (v + 1))) := fun k t => by
      constructor
      · rintro ⟨x, x1, x2⟩
        by_cases q : x = v
        · right; rw [← q]; exact x2
        · exact Or.inl ⟨x, by omega, x2⟩
      · rintro (⟨x, x1, x2⟩ | h)
        · exact ⟨x, by omega, x2⟩
        · exact ⟨v, by omega, h⟩
    cases hw : W v
    · have g0 := hW v hvN hw
      have gq := hGQ v hvN
      obtain ⟨z, hz⟩ : ∃ z, G v = z + 1 := ⟨G v - 1, by omega⟩
      have kz : ∀ k, G v = k + 1 ↔ k = z := fun k => by rw [hz]; exact ⟨fun h => by omega, fun h => by omega⟩
      let s1 : qS := uI s 245 z (s.1 245 z ||| ((15 : Int32) &&& (s.1 215 v ^^^ (-1 : Int32))))
      have r1 : ∀ c, c ≠ 245 → s1.1 c = s.1 c := fun c h1 => uI_ne h1
      obtain ⟨s2, w1, w2, w3, w4⟩ := m_gaEdges (en := en) (d := d) (G := G) hH hvN (show z < Q by omega) hQ (p4 := al4 A E W G v) (p5 := al5 A E T M W G v) (A (v + 1) - A v) (A v) s1 (by omega) (Nat.le_refl _) (hF.tr' (mjF_u (by omega))) (fun u hu => by rw [r1 238 (by decide)]; exact h8 u hu) hGQ (fun k hk => by
        obtain ⟨⟨b, b1, b2⟩, b3⟩ := hP k hk
        refine ⟨⟨b, by rw [r1 244 (by decide)]; exact b1, b2.trans ⟨Or.inl, fun h => h.elim id (fun ⟨_, e', h1, h2, _⟩ => absurd h2 (by omega))⟩⟩, fun t ht => ?_⟩
        rw [r1 246 (by decide)]
        by_cases qk : k = z
        · have e5 : s1.1 245 k = s.1 245 k ||| ((15 : Int32) &&& (s.1 215 v ^^^ (-1 : Int32))) := by
            show (uI s 245 z _).1 245 k = _
            rw [rdU, if_pos ⟨rfl, qk⟩, qk]
          rw [e5, msk_or, Int32.and_comm, msk_15 ht, msk_not (by omega), h15 t ht]
          constructor
          · rintro ((h | h) | h)
            · exact Or.inl ((b3 t ht).mp (Or.inl h))
            · exact Or.inr ⟨qk, Or.inl h⟩
            · exact Or.inl ((b3 t ht).mp (Or.inr h))
          · rintro (h | ⟨_, h | ⟨e', h1, h2, _⟩⟩)
            · rcases (b3 t ht).mpr h with h | h
              · exact Or.inl (Or.inl h)
              · exact Or.inr h
            · exact Or.inl (Or.inr h)
            · exact absurd h2 (by omega)
        · have e5 : s1.1 245 k = s.1 245 k := by
            show (uI s 245 z _).1 245 k = _
            rw [rdU, if_neg (fun z => qk z.2)]
          rw [e5]
          exact (b3 t ht).trans ⟨Or.inl, fun h => h.elim id (fun h => absurd h.1 qk)⟩)
      obtain ⟨s', z1, z2, z3, z4⟩ := ih (v + 1) s2 (by omega) w2 w3 (fun k hk => by
        obtain ⟨⟨b, b1, b2⟩, b3⟩ := w4 k hk
        refine ⟨⟨b, b1, b2.trans ?_⟩, fun t ht => (b3 t ht).trans ?_⟩
        · rw [sp4]
          exact or_congr Iff.rfl ⟨fun h => ⟨hw, (kz k).mpr h.1, h.2⟩, fun h => ⟨(kz k).mp h.2.1, h.2.2⟩⟩
        · rw [sp5]
          exact or_congr Iff.rfl ⟨fun h => ⟨hw, (kz k).mpr h.1, h.2⟩, fun h => ⟨(kz k).mp h.2.1, h.2.2⟩⟩)
      refine ⟨s', le_X12_layParts_494 en _ _ _ _ ?_, z2, z3, z4⟩
      rw [hG.2.2.1.1, if_neg (by rw [n_LE (by omega) (by omega)]; omega), gd_in (by omega) (by decide), n_cl (by omega), (hG.2.2.2 v hvN).1, hw, if_neg (show ¬ ¬ bt false = (0 : Int32) from not_not_intro rfl), h8 v hvN, idV_s g0, hz, Nat.add_sub_cancel, nm_eq, gd_in (by omega) (by decide), n_cl (show z < 2 ^ 31 by omega), nm_eq, gd_in (by omega) (by decide), uI_ne (by decide), hG.1 v (by omega), nm_eq]
      exact w1 _ z1
    · obtain ⟨s', z1, z2, z3, z4⟩ := ih (v + 1) s (by omega) hF h8 (fun k hk => by
        obtain ⟨⟨b, b1, b2⟩, b3⟩ := hP k hk
        refine ⟨⟨b, b1, b2.trans ?_⟩, fun t ht => (b3 t ht).trans ?_⟩
        · rw [sp4]
          exact ⟨Or.inl, fun h => h.elim id (fun h => by rw [hw] at h; exact Bool.noConfusion h.1)⟩
        · rw [sp5]
          exact ⟨Or.inl, fun h => h.elim id (fun h => by rw [hw] at h; exact Bool.noConfusion h.1)⟩)
      refine ⟨s', le_X12_layParts_494 en _ _ _ _ ?_, z2, z3, z4⟩
      rw [hG.2.2.1.1, if_neg (by rw [n_LE (by omega) (by omega)]; omega), gd_in (by omega) (by decide), n_cl (by omega), (hG.2.2.2 v hvN).1, hw, if_pos (show ¬ bt true = (0 : Int32) by decide), show nI v + (1 : Int32) = nI (v + 1) from n_ar]
      exact z1
theorem m_lpInit (hN : N ≤ 20000) : ∀ (m v : Nat) (s : qS), v + m = N → s.1 151 101 = nI N → (∀ u, u < v → s.1 238 u = -2 ∧ s.1 239 u = -2) → ∃ s', (∀ r, L_X12_layParts_43 en d y1 y3 0 s' = some r → L_X12_layParts_11 en d y1 y3 (nI v) s = some r) ∧ (∀ c, c ≠ 238 → c ≠ 239 → s'.1 c = s.1 c) ∧ s'.2 = s.2 ∧ ∀ u, u < N → s'.1 238 u = -2 ∧ s'.1 239 u = -2 := by
  intro m
  induction m with
  | zero =>
    intro v s hv h1 h2
    refine ⟨s, fun r hr => le_X12_layParts_11 en _ _ _ _ _ _ ?_, fun _ _ _ => rfl, rfl, fun u hu => h2 u (by omega)⟩
    rw [h1, if_pos (by rw [n_LE (by omega) (by omega)]; omega)]
    exact hr
  | succ m ih =>
    intro v s hv h1 h2
    obtain ⟨s', w1, w2, w3, w4⟩ := ih (v + 1) (uI (uI s 238 v (-2)) 239 v (-2)) (by omega) (by rw [uI_ne (by decide), uI_ne (by decide)]; exact h1) (fun u hu => by
      simp only [rdU, Nat.reduceEqDiff, false_and, if_false, true_and]
      by_cases q : u = v
      · simp only [if_pos q]; exact ⟨trivial, trivial⟩
      · simp only [if_neg q]; exact h2 u (by omega))
    refine ⟨s', fun r hr => le_X12_layParts_11 en _ _ _ _ _ _ ?_, fun c a b => by rw [w2 c a b, uI_ne b, uI_ne a], w3, w4⟩
    rw [h1, if_neg (by rw [n_LE (by omega) (by omega)]; omega), gd_in (by omega) (by decide), n_cl (by omega), nm_eq, nm_eq, show nI v + (1 : Int32) = nI (v + 1) from n_ar]
    exact w1 r hr
theorem m_layParts (hH : mjH A E T M W N nt σ) : ∃ (s' : qS) (G : Nat → Nat) (Q : Nat), qev en (d + 1) 395 [.ref 151] σ = some (none, s') ∧ mjF σ s' ∧ mjD A E T M W N s' G Q := by
  obtain ⟨⟨hN, hAN⟩, hA, hG0⟩ := id hH
  let s1 : qS := uI σ 151 143 0
  have f1 : mjF σ s1 := ⟨fun c h1 _ => uI_ne h1, fun j hj => by
    show (uI σ 151 143 0).1 151 j = _
    rw [rdU, if_neg (fun z => hj z.2)], rfl⟩
  obtain ⟨s2, w1, w2, w3, w4⟩ := m_lpInit (en := en) (d := d) (y1 := 0) (y3 := 0) hN N 0 s1 (by omega) (by rw [f1.2.1 101 (by decide)]; exact hG0.2.2.1.1) (fun u hu => absurd hu (by omega))
  have f2 : mjF σ s2 := f1.tr' ⟨fun c _ h2 => w2 c (by omega) (by omega), fun j _ => by rw [w2 151 (by decide) (by decide)], w3⟩
  have hV : mjV A E W N σ s2 0 (fun _ => 0) (fun _ => 0) (fun _ => 0) (fun _ => 0) 0 (fun _ => 0) 0 (fun _ => 0) 0 := ⟨TJ.none (fun _ _ => rfl) (fun _ _ => rfl), f2, ⟨fun u hu => (w4 u hu).2, fun u hu hn => absurd rfl hn, fun u hu => (w4 u hu).1, fun i hi => absurd hi (by omega), fun i hi => absurd hi (by omega), by rw [w2 151 (by decide) (by decide)]; rfl, fun k hk => absurd hk (by omega)⟩, Nat.le_refl _⟩
  obtain ⟨s3, C', I', L', G', X', no', op', tr', Q', z1, z2, z3⟩ := m_lpLoop (en := en) (d := d) hH N 0 s2 _ _ _ _ _ _ _ _ _ (by omega) hV (fun u hu => absurd hu (by omega))
  obtain ⟨hT, hF3, hP3, hQ3⟩ := z2
  obtain ⟨nle1, nle2, nle3⟩ := hT.no_le
  have hW : ∀ v, v < N → W v = false → G' v ≠ 0 := fun v hv hw => hT.all hv (z3 v hv hw)
  obtain ⟨s4, y1, y2, y3, y4⟩ := m_gaLoop (en := en) (d := d) (G := G') (Q := Q') hH hT.Q_le (by omega) hW N 0 s3 (by omega) hF3 hP3.2.2.1 (fun k hk => by
    obtain ⟨e4, e5, e6⟩ := hP3.2.2.2.2.2.2 k hk
    refine ⟨⟨false, e4, fun z => Bool.noConfusion z, fun ⟨x, hx, _⟩ => absurd hx (by omega)⟩, fun t ht => ?_⟩
    rw [e5, e6]
    have z0 : ¬ bI' (0 : Int32) t := fun h => by
      unfold bI' at h
      rw [show (0 : Int32) = nI 0 from rfl, nI_bit (by decide), Nat.zero_testBit] at h
      exact Bool.noConfusion h
    exact ⟨fun h => h.elim (fun h => absurd h z0) (fun h => absurd h z0), fun ⟨x, hx, _⟩ => absurd hx (by omega)⟩)
  refine ⟨s4, G', Q', le_X12_layParts en _ _ _ ?_, y2, y3, hT.Q_le, by omega, hW, fun v hv hg => hT.1.2.2.2.2 v hv (fun q => hg (hT.1.2.2.2.1 v hv q)), fun v u hv hu hg => hT.mates (fun e he => (hG0.2.1 e he).2.2.1) hA hv hu hg, y4⟩
  rw [nm_eq]
  exact w1 _ (z1 _ y1)
theorem rcW_W (h : rcW A E W v u) (hw : W v = false) : W u = false := h (fun x => W x = false) hw (fun _ _ _ _ _ h => h)
theorem m_isLasting (hH : mjH A E T M W N nt s) (hD : mjD A E T M W N s G Q) (hv : v < N) (hw : W v = false) (hNT : ∀ v, v < N → ∀ t, nt ≤ t → t < 4 → ¬ (M v).testBit t = true) : ∃ b : Bool, qev en (d + 1) 396 [.ref 151, .int (nI v), .int (bt fr)] s = some (some (.int (bt b)), s) ∧ (b = true ↔ lasJ A E T W M fr v) := by
  obtain ⟨⟨hN, hAN⟩, hA, hG⟩ := id hH
  obtain ⟨h8, hGQ, hQN, hW, hW', hm, hac⟩ := hD
  have g0 := hW v hv hw
  have gq := hGQ v hv
  obtain ⟨z, hz⟩ : ∃ z, G v = z + 1 := ⟨G v - 1, by omega⟩
  obtain ⟨⟨b4, b1, b2⟩, b3⟩ := hac z (by omega)
  have hEN : ∀ e, e < A N → E e < N := fun e he => (hG.2.1 e he).2.2.1
  obtain ⟨nt1, nt2, nt4⟩ := hG.2.2.1
  have mate : ∀ u, u < N → ((rcW A E W v u ∧ rcW A E W u v) ↔ G u = z + 1) := fun u hu => by rw [← hz]; exact hm v u hv hu g0
  have eN : ∀ x e, x < N → e < A (x + 1) → E e < N := fun x e hx he => hEN e (Nat.lt_of_lt_of_le he (hA (x + 1) N hx (Nat.le_refl _)))
  have i4 : al4 A E W G N z ↔ ∃ a e, rcW A E W v a ∧ rcW A E W a v ∧ A a ≤ e ∧ e < A (a + 1) ∧ W (E e) = false ∧ rcW A E W v (E e) ∧ rcW A E W (E e) v := by
    constructor
    · rintro ⟨x, x1, x2, x3, e, e1, e2, e3, e4⟩
      have q1 := (mate x x1).mpr x3
      have q2 := (mate (E e) (eN x e x1 e2)).mpr e4
      exact ⟨x, e, q1.1, q1.2, e1, e2, e3, q2.1, q2.2⟩
    · rintro ⟨a, e, p1, p2, p3, p4, p5, p6, p7⟩
      have ha := rcW_lt hEN hA hv p1
      exact ⟨a, ha, rcW_W p1 hw, (mate a ha).mp ⟨p1, p2⟩, e, p3, p4, p5, (mate _ (eN a e ha p4)).mp ⟨p6, p7⟩⟩
  have i5 : ∀ t, al5 A E T M W G N z t ↔ ∃ a, rcW A E W v a ∧ rcW A E W a v ∧ (¬ (M a).testBit t = true ∨ ∃ e, A a ≤ e ∧ e < A (a + 1) ∧ W (E e) = false ∧ rcW A E W v (E e) ∧ rcW A E W (E e) v ∧ T e / 10 = t) := fun t => by
    constructor
    · rintro ⟨x, x1, x2, x3, h | ⟨e, e1, e2, e3, e4, e5⟩⟩
      · have q1 := (mate x x1).mpr x3
        exact ⟨x, q1.1, q1.2, Or.inl h⟩
      · have q1 := (mate x x1).mpr x3
        have q2 := (mate (E e) (eN x e x1 e2)).mpr e4
        exact ⟨x, q1.1, q1.2, Or.inr ⟨e, e1, e2, e3, q2.1, q2.2, e5⟩⟩
    · rintro ⟨a, p1, p2, h⟩
      have ha := rcW_lt hEN hA hv p1
      refine ⟨a, ha, rcW_W p1 hw, (mate a ha).mp ⟨p1, p2⟩, ?_⟩
      rcases h with h | ⟨e, p3, p4, p5, p6, p7, p8⟩
      · exact Or.inl h
      · exact Or.inr ⟨e, p3, p4, p5, (mate _ (eN a e ha p4)).mp ⟨p6, p7⟩, p8⟩
  have all5 : (∀ t, t < nt → al5 A E T M W G N z t) ↔ ∀ t, t < 4 → ∃ a, rcW A E W v a ∧ rcW A E W a v ∧ (¬ (M a).testBit t = true ∨ ∃ e, A a ≤ e ∧ e < A (a + 1) ∧ W (E e) = false ∧ rcW A E W v (E e) ∧ rcW A E W (E e) v ∧ T e / 10 = t) := by
    constructor
    · intro h t ht
      by_cases q : t < nt
      · exact (i5 t).mp (h t q)
      · exact ⟨v, rcW_r, rcW_r, Or.inl (hNT v hv t (by omega) ht)⟩
    · intro h t ht
      exact (i5 t).mpr (h t (by omega))
  have start : ∀ r, (if s.1 244 z = (0 : Int32) then some (some (.int (0 : Int32)), s) else if bt fr = (0 : Int32) then some (some (.int (1 : Int32)), s) else if ¬ ((s.1 245 z ||| s.1 246 z) &&& nI (2 ^ nt - 1)) = nI (2 ^ nt - 1) then some (some (.int (0 : Int32)), s) else some (some (.int (1 : Int32)), s) : Option qR) = some r → qev en (d + 1) 396 [.ref 151, .int (nI v), .int (bt fr)] s = some r := by
    intro r hr
    refine le_X12_isLasting en _ _ _ _ _ ?_
    have hp : 1 ≤ 2 ^ nt := Nat.one_le_two_pow
    have hp' : 2 ^ nt ≤ 2 ^ 4 := Nat.pow_le_pow_right (by decide) nt4
    rw [gd_in (by omega) (by decide), n_cl (by omega), h8 v hv, idV_s g0, hz, Nat.add_sub_cancel, nm_eq, nt2, show ((1 : Int32) <<< (nI nt &&& 31)) - (1 : Int32) = nI (2 ^ nt - 1) from by
      rw [show (1 : Int32) = nI 1 from rfl, shl_nI (by omega) (by omega), Nat.one_mul]
      exact n_sub hp, nm_eq, gd_in (by omega) (by decide), n_cl (show z < 2 ^ 31 by omega)]
    exact hr
  cases hb4 : b4
  · refine ⟨false, start _ ?_, fun z => Bool.noConfusion z, fun h => ?_⟩
    · rw [b1, hb4, if_pos (show bt false = (0 : Int32) from rfl)]; rfl
    · have := b2.mpr (i4.mpr h.1)
      rw [hb4] at this
      exact Bool.noConfusion this
  · have h4 := i4.mp (b2.mp hb4)
    cases hfr : fr
    · refine ⟨true, by rw [← hfr]; exact start _ (by rw [b1, hb4, hfr, if_neg (show ¬ bt true = (0 : Int32) by decide), if_pos (show bt false = (0 : Int32) from rfl)]; rfl), fun _ => ⟨h4, Or.inl rfl⟩, fun _ => rfl⟩
    · have e5 : ((s.1 245 z ||| s.1 246 z) &&& nI (2 ^ nt - 1) = nI (2 ^ nt - 1)) ↔ ∀ t, t < nt → al5 A E T M W G N z t := by
        rw [msk_all (show nt ≤ 30 by omega)]
        exact ⟨fun h t ht => (b3 t (by omega)).mp (msk_or.mp (h t ht)), fun h t ht => msk_or.mpr ((b3 t (by omega)).mpr (h t ht))⟩
      by_cases q : (s.1 245 z ||| s.1 246 z) &&& nI (2 ^ nt - 1) = nI (2 ^ nt - 1)
      · refine ⟨true, by rw [← hfr]; exact start _ (by rw [b1, hb4, hfr, if_neg (show ¬ bt true = (0 : Int32) by decide), if_neg (show ¬ bt true = (0 : Int32) by decide), if_neg (not_not_intro q)]; rfl), fun _ => ⟨h4, Or.inr (all5.mp (e5.mp q))⟩, fun _ => rfl⟩
      · refine ⟨false, by rw [← hfr]; exact start _ (by rw [b1, hb4, hfr, if_neg (show ¬ bt true = (0 : Int32) by decide), if_neg (show ¬ bt true = (0 : Int32) by decide), if_pos q]; rfl), fun z => Bool.noConfusion z, fun h => ?_⟩
        rcases h.2 with h | h
        · exact Bool.noConfusion h
        · exact absurd (e5.mpr (all5.mpr h)) q
end LST
