/-! JUDGING, the model's side: from where it may go on without what is wanted. -/
/-- how many are not marked -/
abbrev cF (H : Nat → Bool) (N : Nat) : Nat := sumF (fun v => if H v = true then 0 else 1) N
abbrev clA (A E : Nat → Nat) (W H : Nat → Bool) (u : Nat) : Prop := W u = false → ∀ e, A u ≤ e → e < A (u + 1) → H (E e) = true → H u = true
section WYM
variable {en : pN} {d N v u e nt : Nat} {A E T M : Nat → Nat} {s s' σ : qS} {W B R H H' : Nat → Bool} {fr : Bool}
theorem cF_le (h : ∀ v, H v = true → H' v = true) : ∀ n, cF H' n ≤ cF H n := by
  intro n
  induction n with
  | zero => exact Nat.le_refl _
  | succ n ih =>
    show cF H' n + (if H' n = true then 0 else 1) ≤ cF H n + (if H n = true then 0 else 1)
    by_cases q : H n = true
    · rw [if_pos q, if_pos (h n q)]; omega
    · rw [if_neg q]; split <;> omega
theorem cF_up (hv : v < N) (h : H v = false) : cF (at1 H v true) N + 1 = cF H N := by
  have := sumF_set (f := fun v => if H v = true then 0 else 1) (g := fun u => if at1 H v true u = true then 0 else 1) N hv (fun j hj => by show (if at1 H v true j = true then 0 else 1) = _; rw [at1_n hj])
  simp only [at1_s] at this
  rw [if_neg (by rw [h]; decide), if_pos trivial] at this
  omega
/-- what stays while 236 is filled -/
abbrev wyF (s s' : qS) : Prop := (∀ c, c ≠ 236 → s'.1 c = s.1 c) ∧ s'.2 = s.2
theorem m_wyEdges (hH : mjH A E T M W N nt s) (hR : ∀ u, u < N → s.1 236 u = bt (H u)) (hv : v < N) {y4 y5 : Int32} (h5 : y5 = nI v) : ∀ (m e : Nat) (h : Bool), e + m = A (v + 1) → A v ≤ e → ∃ h' : Bool, (∀ r, L_X12_lookWays_335 en d y4 y5 (bt h') s = some r → L_X12_lookWays_286 en d y4 y5 (bt h) (nI e) s = some r) ∧ (h' = true ↔ h = true ∨ (W v = false ∧ ∃ e', e ≤ e' ∧ e' < A (v + 1) ∧ H (E e') = true)) := by
  obtain ⟨⟨hN, hAN⟩, hA, hG⟩ := id hH
  have hAz : A (v + 1) ≤ A N := hA (v + 1) N hv (Nat.le_refl _)
  subst h5
  intro m
  induction m with
  | zero =>
    intro e h he hAe
    refine ⟨h, fun r hr => le_X12_lookWays_286 en _ _ _ _ _ _ _ ?_, ⟨Or.inl, fun z => z.elim id (fun ⟨_, e', h1, h2, _⟩ => absurd h2 (by omega))⟩⟩
    rw [show nI v + (1 : Int32) = nI (v + 1) from n_ar, gd_in (by omega) (by decide), n_cl (by omega), hG.1 (v + 1) (by omega), if_pos (by rw [n_LE (by omega) (by omega)]; omega)]
    exact hr
  | succ m ih =>
    intro e h he hAe
    have stop : (h = true ∨ W v = true) → ∃ h' : Bool, (∀ r, L_X12_lookWays_335 en d y4 (nI v) (bt h') s = some r → L_X12_lookWays_286 en d y4 (nI v) (bt h) (nI e) s = some r) ∧ (h' = true ↔ h = true ∨ (W v = false ∧ ∃ e', e ≤ e' ∧ e' < A (v + 1) ∧ H (E e') = true)) := fun hh => by
      refine ⟨h, fun r hr => le_X12_lookWays_286 en _ _ _ _ _ _ _ ?_, ?_⟩
      · rw [show nI v + (1 : Int32) = nI (v + 1) from n_ar, gd_in (by omega) (by decide), n_cl (by omega), hG.1 (v + 1) (by omega), if_neg (by rw [n_LE (by omega) (by omega)]; omega)]
        cases hb : h
        · rw [if_neg (show ¬ ¬ bt false = (0 : Int32) from not_not_intro rfl), gd_in (by omega) (by decide), n_cl (by omega), (hG.2.2.2 v hv).1, if_pos (by rw [show W v = true from hh.elim (fun q => by rw [hb] at q; exact Bool.noConfusion q) id]; decide)]
          rw [hb] at hr; exact hr
        · rw [if_pos (show ¬ bt true = (0 : Int32) by decide)]
          rw [hb] at hr; exact hr
      · rcases hh with q | q
        · exact ⟨fun _ => Or.inl q, fun _ => q⟩
        · exact ⟨Or.inl, fun z => z.elim id (fun w => by rw [q] at w; exact Bool.noConfusion w.1)⟩
    cases hb : h
    · cases hw : W v
      · obtain ⟨z1, z1', z2, z3⟩ := hG.2.1 e (by omega)
        obtain ⟨h', w1, w2⟩ := ih (e + 1) (H (E e)) (by omega) (by omega)
        refine ⟨h', fun r hr => le_X12_lookWays_286 en _ _ _ _ _ _ _ ?_, w2.trans ?_⟩
        · rw [show nI v + (1 : Int32) = nI (v + 1) from n_ar, gd_in (by omega) (by decide), n_cl (by omega), hG.1 (v + 1) (by omega), if_neg (by rw [n_LE (by omega) (by omega)]; omega), if_neg (show ¬ ¬ bt false = (0 : Int32) from not_not_intro rfl), gd_in (by omega) (by decide), n_cl (by omega), (hG.2.2.2 v hv).1, hw, if_neg (show ¬ ¬ bt false = (0 : Int32) from not_not_intro rfl), gd_in (by omega) (by decide), n_cl (by omega), z1, gd_in (by omega) (by decide), n_cl (show E e < 2 ^ 31 by omega), hR _ z2, nm_eq, show nI e + (1 : Int32) = nI (e + 1) from n_ar]
          exact w1 r hr
        · constructor
          · rintro (h | ⟨h1, e', h2, h3, h4⟩)
            · exact Or.inr ⟨rfl, e, Nat.le_refl _, by omega, h⟩
            · exact Or.inr ⟨rfl, e', by omega, h3, h4⟩
          · rintro (h | ⟨h1, e', h2, h3, h4⟩)
            · exact Bool.noConfusion h
            · by_cases q : e' = e
              · left; rw [← q]; exact h4
              · exact Or.inr ⟨hw, e', by omega, h3, h4⟩
      · obtain ⟨h', w1, w2⟩ := stop (Or.inr hw)
        rw [hb] at w1 w2
        rw [hw] at w2
        exact ⟨h', w1, w2⟩
    · obtain ⟨h', w1, w2⟩ := stop (Or.inl hb)
      rw [hb] at w1 w2
      exact ⟨h', w1, w2⟩
/-- one pass over all states -/
theorem m_wyPass (hN1 : N ≤ 20000) {g : Nat → Prop} (hg : ∀ v e, v < N → W v = false → A v ≤ e → e < A (v + 1) → g (E e) → g v) : ∀ (m : Nat) (s : qS) (H : Nat → Bool) (c : Bool), m ≤ N → mjH A E T M W N nt s → (∀ u, u < N → s.1 236 u = bt (H u)) → (∀ u, u < N → H u = true → W u = false ∧ g u) → ∃ (s' : qS) (H' : Nat → Bool) (c' : Bool), (∀ r, L_X12_lookWays_247 en d (bt c') s' = some r → L_X12_lookWays_263 en d (bt c) (nI m + (-1)) s = some r) ∧ wyF s s' ∧ (∀ u, u < N → s'.1 236 u = bt (H' u)) ∧ (∀ u, u < N → H' u = true → W u = false ∧ g u) ∧ (∀ u, H u = true → H' u = true) ∧ (c' = false → c = false ∧ H' = H ∧ ∀ u, u < m → clA A E W H u) ∧ (c' = true → c = true ∨ cF H' N < cF H N) := by
  intro m
  induction m with
  | zero =>
    intro s H c hm hH hR hS
    refine ⟨s, H, c, fun r hr => le_X12_lookWays_263 en _ _ _ _ _ ?_, ⟨fun _ _ => rfl, rfl⟩, hR, hS, fun _ h => h, fun h => ⟨h, rfl, fun u hu => absurd hu (by omega)⟩, fun h => Or.inl h⟩
    rw [if_pos (by decide)]
    exact hr
  | succ m ih =>
    intro s H c hm hH hR hS
    obtain ⟨⟨hN, hAN⟩, hA, hG⟩ := id hH
    have hvN : m < N := by omega
    have hAm : A m ≤ A (m + 1) := hA _ _ (by omega) (by omega)
    obtain ⟨h', w1, w2⟩ := m_wyEdges (en := en) (d := d) (y4 := bt c) hH hR hvN rfl (A (m + 1) - A m) (A m) (H m) (by omega) (Nat.le_refl _)
    let H1 : Nat → Bool := at1 H m h'
    let s1 : qS := uI s 236 m (bt h')
    have r1 : ∀ c, c ≠ 236 → s1.1 c = s.1 c := fun c hc => uI_ne hc
    have mono : ∀ u, H u = true → H1 u = true := fun u hu => by
      show at1 H m h' u = true
      by_cases q : u = m
      · rw [q, at1_s]; exact w2.mpr (Or.inl (by rw [← q]; exact hu))
      · rw [at1_n q]; exact hu
    have hH1 : mjH A E T M W N nt s1 := ⟨⟨hN, hAN⟩, hA, fun i hi => by rw [r1 218 (by decide)]; exact hG.1 i hi, fun e he => by rw [r1 219 (by decide), r1 220 (by decide)]; exact hG.2.1 e he, by rw [r1 151 (by decide)]; exact hG.2.2.1, fun v hv => by rw [r1 233 (by decide), r1 216 (by decide), r1 215 (by decide)]; exact hG.2.2.2 v hv⟩
    have hR1 : ∀ u, u < N → s1.1 236 u = bt (H1 u) := fun u hu => by
      show (uI s 236 m (bt h')).1 236 u = bt (at1 H m h' u)
      rw [rdU]
      by_cases q : u = m
      · rw [if_pos ⟨rfl, q⟩, q, at1_s]
      · rw [if_neg (fun z => q z.2), at1_n q]; exact hR u hu
    have hS1 : ∀ u, u < N → H1 u = true → W u = false ∧ g u := fun u hu h1 => by
      have h1 : at1 H m h' u = true := h1
      by_cases q : u = m
      · rw [q, at1_s] at h1
        rw [q]
        rcases w2.mp h1 with z | ⟨z1, e', z2, z3, z4⟩
        · exact hS m hvN z
        · exact ⟨z1, hg m e' hvN z1 z2 z3 (hS _ (hG.2.1 e' (Nat.lt_of_lt_of_le z3 (hA (m + 1) N (by omega) (Nat.le_refl _)))).2.2.1 z4).2⟩
      · rw [at1_n q] at h1; exact hS u hu h1
    have go : ∀ c1 : Bool, (c1 = true ↔ c = true ∨ (h' = true ∧ H m = false)) → ∃ (s' : qS) (H' : Nat → Bool) (c' : Bool), (∀ r, L_X12_lookWays_247 en d (bt c') s' = some r → L_X12_lookWays_360 en d (nI m) (bt h') (bt c1) s = some r) ∧ wyF s s' ∧ (∀ u, u < N → s'.1 236 u = bt (H' u)) ∧ (∀ u, u < N → H' u = true → W u = false ∧ g u) ∧ (∀ u, H u = true → H' u = true) ∧ (c' = false → c = false ∧ H' = H ∧ ∀ u, u < m + 1 → clA A E W H u) ∧ (c' = true → c = true ∨ cF H' N < cF H N) := fun c1 hc1 => by
      obtain ⟨s', H', c', z1, z2, z3, z4, z5, z6, z7⟩ := ih s1 H1 c1 (by omega) hH1 hR1 hS1
      refine ⟨s', H', c', fun r hr => le_X12_lookWays_360 en _ _ _ _ _ _ ?_, ⟨fun c hc => (z2.1 c hc).trans (r1 c hc), z2.2⟩, z3, z4, fun u hu => z5 u (mono u hu), fun hc => ?_, fun hc => ?_⟩
      · rw [gd_in (by omega) (by decide), n_cl (by omega), show vp_nar .boolean (bt h') = bt h' from by cases h' <;> decide, nm_eq]
        exact z1 r hr
      · obtain ⟨y1, y2, y3⟩ := z6 hc
        have nc : ¬ (c = true ∨ (h' = true ∧ H m = false)) := fun w => by rw [hc1.mpr w] at y1; exact Bool.noConfusion y1
        have hHm : H1 = H := by
          show at1 H m h' = H
          apply at1_id
          cases hm' : H m
          · cases hh : h'
            · rfl
            · exact absurd (Or.inr ⟨hh, hm'⟩) nc
          · exact (w2.mpr (Or.inl hm')).symm
        refine ⟨by cases hcc : c <;> first | rfl | exact absurd (Or.inl hcc) nc, by rw [y2, hHm], fun u hu => ?_⟩
        by_cases q : u = m
        · rw [q]
          intro hw e e1 e2 e3
          have h't : h' = true := w2.mpr (Or.inr ⟨hw, e, e1, e2, e3⟩)
          cases hm' : H m
          · exact absurd (Or.inr ⟨h't, hm'⟩) nc
          · rfl
        · rw [← hHm]; exact y3 u (by omega)
      · have hle : cF H1 N ≤ cF H N := cF_le mono N
        rcases z7 hc with w | w
        · rcases hc1.mp w with w' | ⟨w1', w2'⟩
          · exact Or.inl w'
          · right
            have e1 : cF H1 N + 1 = cF H N := by
              show cF (at1 H m h') N + 1 = cF H N
              rw [w1']; exact cF_up hvN w2'
            have e2 : cF H' N ≤ cF H1 N := cF_le z5 N
            omega
        · right; omega
    have f335 : ∃ (s' : qS) (H' : Nat → Bool) (c' : Bool), (∀ r, L_X12_lookWays_247 en d (bt c') s' = some r → L_X12_lookWays_335 en d (bt c) (nI m) (bt h') s = some r) ∧ wyF s s' ∧ (∀ u, u < N → s'.1 236 u = bt (H' u)) ∧ (∀ u, u < N → H' u = true → W u = false ∧ g u) ∧ (∀ u, H u = true → H' u = true) ∧ (c' = false → c = false ∧ H' = H ∧ ∀ u, u < m + 1 → clA A E W H u) ∧ (c' = true → c = true ∨ cF H' N < cF H N) := by
      have lift : ∀ c1 : Bool, (c1 = true ↔ c = true ∨ (h' = true ∧ H m = false)) → (∀ r, L_X12_lookWays_360 en d (nI m) (bt h') (bt c1) s = some r → L_X12_lookWays_335 en d (bt c) (nI m) (bt h') s = some r) → ∃ (s' : qS) (H' : Nat → Bool) (c' : Bool), (∀ r, L_X12_lookWays_247 en d (bt c') s' = some r → L_X12_lookWays_335 en d (bt c) (nI m) (bt h') s = some r) ∧ wyF s s' ∧ (∀ u, u < N → s'.1 236 u = bt (H' u)) ∧ (∀ u, u < N → H' u = true → W u = false ∧ g u) ∧ (∀ u, H u = true → H' u = true) ∧ (c' = false → c = false ∧ H' = H ∧ ∀ u, u < m + 1 → clA A E W H u) ∧ (c' = true → c = true ∨ cF H' N < cF H N) := fun c1 hc1 hl => by
        obtain ⟨s', H', c', z1, z⟩ := go c1 hc1
        exact ⟨s', H', c', fun r hr => hl r (z1 r hr), z⟩
      cases hc : c
      · cases hh : h'
        · rw [hc, hh] at lift
          refine lift false ⟨Or.inl, fun z => z.elim id (fun w => w.1)⟩ (fun r hr => le_X12_lookWays_335 en _ _ _ _ _ _ ?_)
          rw [if_neg (show ¬ ¬ bt false = (0 : Int32) from not_not_intro rfl), if_pos (show bt false = (0 : Int32) from rfl)]
          exact hr
        · cases hm' : H m
          · rw [hc, hh, hm'] at lift
            refine lift true ⟨fun _ => Or.inr ⟨rfl, rfl⟩, fun _ => rfl⟩ (fun r hr => le_X12_lookWays_335 en _ _ _ _ _ _ ?_)
            rw [if_neg (show ¬ ¬ bt false = (0 : Int32) from not_not_intro rfl), if_neg (show ¬ bt true = (0 : Int32) by decide), gd_in (by omega) (by decide), n_cl (by omega), hR m hvN, hm', if_neg (show ¬ ¬ bt false = (0 : Int32) from not_not_intro rfl)]
            exact hr
          · rw [hc, hh, hm'] at lift
            refine lift false ⟨Or.inl, fun z => z.elim id (fun w => Bool.noConfusion w.2)⟩ (fun r hr => le_X12_lookWays_335 en _ _ _ _ _ _ ?_)
            rw [if_neg (show ¬ ¬ bt false = (0 : Int32) from not_not_intro rfl), if_neg (show ¬ bt true = (0 : Int32) by decide), gd_in (by omega) (by decide), n_cl (by omega), hR m hvN, hm', if_pos (show ¬ bt true = (0 : Int32) by decide)]
            exact hr
      · rw [hc] at lift
        refine lift true ⟨fun _ => Or.inl rfl, fun _ => rfl⟩ (fun r hr => le_X12_lookWays_335 en _ _ _ _ _ _ ?_)
        rw [if_pos (show ¬ bt true = (0 : Int32) by decide)]
        exact hr
    obtain ⟨s', H', c', z1, z⟩ := f335
    refine ⟨s', H', c', fun r hr => le_X12_lookWays_263 en _ _ _ _ _ ?_, z⟩
    rw [n_cm1, if_neg (by rw [n_gt (by decide) (by omega)]; omega), gd_in (by omega) (by decide), n_cl (by omega), hR m hvN, nm_eq, gd_in (by omega) (by decide), hG.1 m (by omega), nm_eq]
    exact w1 r (z1 r hr)
/-- pass upon pass, until nothing changes -/
theorem m_wyAll (hN1 : N ≤ 20000) {g : Nat → Prop} (hg : ∀ v e, v < N → W v = false → A v ≤ e → e < A (v + 1) → g (E e) → g v) : ∀ (m : Nat) (s : qS) (H : Nat → Bool), cF H N ≤ m → mjH A E T M W N nt s → (∀ u, u < N → s.1 236 u = bt (H u)) → (∀ u, u < N → H u = true → W u = false ∧ g u) → ∃ (s' : qS) (H' : Nat → Bool), (∀ r, L_X12_lookWays_383 en d 0 s' = some r → L_X12_lookWays_247 en d 1 s = some r) ∧ wyF s s' ∧ (∀ u, u < N → s'.1 236 u = bt (H' u)) ∧ (∀ u, u < N → H' u = true → W u = false ∧ g u) ∧ (∀ u, H u = true → H' u = true) ∧ ∀ u, u < N → clA A E W H' u := by
  intro m
  induction m with
  | zero =>
    intro s H hm hH hR hS
    obtain ⟨s', H', c', z1, z2, z3, z4, z5, z6, z7⟩ := m_wyPass (en := en) (d := d) hN1 hg N s H false (Nat.le_refl _) hH hR hS
    cases hc : c'
    · obtain ⟨_, y2, y3⟩ := z6 hc
      refine ⟨s', H', fun r hr => le_X12_lookWays_247 en _ _ _ _ ?_, z2, z3, z4, z5, fun u hu => by rw [y2]; exact y3 u hu⟩
      rw [if_neg (by decide), hH.2.2.2.2.1.1, nm_eq, Int32.sub_eq_add_neg]
      refine z1 r (le_X12_lookWays_247 en _ _ _ _ ?_)
      rw [hc, if_pos (show bt false = (0 : Int32) from rfl)]
      exact hr
    · rcases z7 hc with w | w
      · exact Bool.noConfusion w
      · omega
  | succ m ih =>
    intro s H hm hH hR hS
    obtain ⟨s', H', c', z1, z2, z3, z4, z5, z6, z7⟩ := m_wyPass (en := en) (d := d) hN1 hg N s H false (Nat.le_refl _) hH hR hS
    cases hc : c'
    · obtain ⟨_, y2, y3⟩ := z6 hc
      refine ⟨s', H', fun r hr => le_X12_lookWays_247 en _ _ _ _ ?_, z2, z3, z4, z5, fun u hu => by rw [y2]; exact y3 u hu⟩
      rw [if_neg (by decide), hH.2.2.2.2.1.1, nm_eq, Int32.sub_eq_add_neg]
      refine z1 r (le_X12_lookWays_247 en _ _ _ _ ?_)
      rw [hc, if_pos (show bt false = (0 : Int32) from rfl)]
      exact hr
    · rcases z7 hc with w | w
      · exact Bool.noConfusion w
      · have hH' : mjH A E T M W N nt s' := ⟨hH.1, hH.2.1, fun i hi => by rw [z2.1 218 (by decide)]; exact hH.2.2.1 i hi, fun e he => by rw [z2.1 219 (by decide), z2.1 220 (by decide)]; exact hH.2.2.2.1 e he, by rw [z2.1 151 (by decide)]; exact hH.2.2.2.2.1, fun v hv => by rw [z2.1 233 (by decide), z2.1 216 (by decide), z2.1 215 (by decide)]; exact hH.2.2.2.2.2 v hv⟩
        obtain ⟨s2, H2, y1, y2, y3, y4, y5, y6⟩ := ih s' H' (by omega) hH' z3 z4
        refine ⟨s2, H2, fun r hr => le_X12_lookWays_247 en _ _ _ _ ?_, ⟨fun c hc => (y2.1 c hc).trans (z2.1 c hc), y2.2.trans z2.2⟩, y3, y4, fun u hu => y5 u (z5 u hu), y6⟩
        rw [if_neg (by decide), hH.2.2.2.2.1.1, nm_eq, Int32.sub_eq_add_neg]
        refine z1 r ?_
        rw [hc]
        exact y1 r hr
end WYM
