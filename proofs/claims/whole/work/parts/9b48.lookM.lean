/-! JUDGING, the model's side: lookWays. -/
/-- the first of the numbers from i on that p holds of -/
def lsV (p : Nat → Bool) : Nat → Nat → Int32
  | 0, _ => -2
  | m + 1, i => if p i = true then nI i else lsV p m (i + 1)
theorem lsV_eq {p q : Nat → Bool} {N : Nat} : ∀ m i, i + m = N → (∀ v, v < N → p v = q v) → lsV p m i = lsV q m i := by
  intro m
  induction m with
  | zero => intro _ _ _; rfl
  | succ m ih =>
    intro i hi h
    unfold lsV
    rw [h i (by omega), ih (i + 1) (by omega) h]
/-- the model's search: what has been come to, what waits -/
abbrev srF (s s' : qS) : Prop := (∀ c, c ≠ 235 → c ≠ 237 → s'.1 c = s.1 c) ∧ s'.2 = s.2
section LKM
variable {en : pN} {d N v u e nt no z p : Nat} {A E T M st : Nat → Nat} {s s' s'' σ : qS} {W B R H H' : Nat → Bool} {fr c1 : Bool} {y2 : Int32}
theorem srF.tr' (h : srF s s') (g : srF s' s'') : srF s s'' := ⟨fun c a b => (g.1 c a b).trans (h.1 c a b), g.2.trans h.2⟩
theorem mjH.sr (h : mjH A E T M W N nt s) (g : srF s s') : mjH A E T M W N nt s' := ⟨h.1, h.2.1, fun i hi => by rw [g.1 218 (by decide) (by decide)]; exact h.2.2.1 i hi, fun e he => by rw [g.1 219 (by decide) (by decide), g.1 220 (by decide) (by decide)]; exact h.2.2.2.1 e he, by rw [g.1 151 (by decide) (by decide)]; exact h.2.2.2.2.1, fun v hv => by rw [g.1 233 (by decide) (by decide), g.1 216 (by decide) (by decide), g.1 215 (by decide) (by decide)]; exact h.2.2.2.2.2 v hv⟩
theorem mjH.wy (h : mjH A E T M W N nt s) (g : wyF s s') : mjH A E T M W N nt s' := ⟨h.1, h.2.1, fun i hi => by rw [g.1 218 (by decide)]; exact h.2.2.1 i hi, fun e he => by rw [g.1 219 (by decide), g.1 220 (by decide)]; exact h.2.2.2.1 e he, by rw [g.1 151 (by decide)]; exact h.2.2.2.2.1, fun v hv => by rw [g.1 233 (by decide), g.1 216 (by decide), g.1 215 (by decide)]; exact h.2.2.2.2.2 v hv⟩
theorem m_wyBegin (hH : mjH A E T M W N nt σ) (hB1 : c1 = true → ∀ v, v < N → B v = decide (v = 0)) (hB2 : c1 = false → ∀ v, v < N → σ.1 234 v = bt (B v)) : ∀ (m v : Nat) (s : qS) (R : Nat → Bool) (no : Nat) (st : Nat → Nat), v + m = N → srF σ s → (∀ u, u < v → s.1 235 u = bt (R u)) → (∀ u, v ≤ u → R u = false) → (∀ i, i < no → s.1 237 i = nI (st i)) → RS A E W B N R no st N 0 0 → (∀ b, b < v → B b = true → W b = false → R b = true) → ∃ (s' : qS) (R' : Nat → Bool) (no' : Nat) (st' : Nat → Nat), (∀ r, L_X12_lookWays_85 en d y2 (nI no') s' = some r → L_X12_lookWays_5 en d (bt c1) y2 (nI no) (nI v) s = some r) ∧ srF σ s' ∧ (∀ u, u < N → s'.1 235 u = bt (R' u)) ∧ (∀ i, i < no' → s'.1 237 i = nI (st' i)) ∧ RS A E W B N R' no' st' N 0 0 ∧ ∀ b, b < N → B b = true → W b = false → R' b = true := by
  obtain ⟨⟨hN, hAN⟩, hA, hG0⟩ := id hH
  intro m
  induction m with
  | zero =>
    intro v s R no st hv hF h5 hz h7 hS hB
    refine ⟨s, R, no, st, fun r hr => le_X12_lookWays_5 en _ _ _ _ _ _ _ ?_, hF, fun u hu => h5 u (by omega), h7, hS, fun b hb => hB b (by omega)⟩
    rw [hF.1 151 (by decide) (by decide), hG0.2.2.1.1, if_pos (by rw [n_LE (by omega) (by omega)]; omega)]
    exact hr
  | succ m ih =>
    intro v s R no st hv hF h5 hz h7 hS hB
    have hvN : v < N := by omega
    have w233 : s.1 233 v = bt (W v) := by rw [hF.1 233 (by decide) (by decide)]; exact (hG0.2.2.2 v hvN).1
    have pre : ∀ r x, (x = if W v = false ∧ B v = true then (1 : Int32) else 0) → L_X12_lookWays_57 en d (bt c1) y2 (nI no) (nI v) (nI v) x s = some r → L_X12_lookWays_5 en d (bt c1) y2 (nI no) (nI v) s = some r := by
      intro r x hx hr
      refine le_X12_lookWays_5 en _ _ _ _ _ _ _ ?_
      rw [hF.1 151 (by decide) (by decide), hG0.2.2.1.1, if_neg (by rw [n_LE (by omega) (by omega)]; omega), gd_in (by omega) (by decide), n_cl (by omega), w233]
      cases hw : W v
      · rw [if_neg (show ¬ ¬ bt false = (0 : Int32) from not_not_intro rfl)]
        rw [hw] at hx
        cases hc : c1
        · rw [if_pos (show bt false = (0 : Int32) from rfl), hF.1 234 (by decide) (by decide), hB2 hc v hvN]
          rw [hc] at hr
          cases hb : B v
          · rw [hb, if_neg (by decide)] at hx
            rw [if_pos (show bt false = (0 : Int32) from rfl), ← hx]; exact hr
          · rw [hb, if_pos (by decide)] at hx
            rw [if_neg (show ¬ bt true = (0 : Int32) by decide), ← hx]; exact hr
        · rw [if_neg (show ¬ bt true = (0 : Int32) by decide)]
          rw [hc] at hr
          have hbv := hB1 hc v hvN
          by_cases q : v = 0
          · rw [hbv, if_pos ⟨rfl, decide_eq_true q⟩] at hx
            rw [if_neg (by rw [q]; exact not_not_intro rfl), ← hx]; exact hr
          · rw [hbv, if_neg (fun h => by rw [decide_eq_false q] at h; exact Bool.noConfusion h.2)] at hx
            rw [if_pos (by rw [n_eq (by decide) (by omega)]; exact q), ← hx]; exact hr
      · rw [hw, if_neg (fun h => Bool.noConfusion h.1)] at hx
        rw [if_pos (show ¬ bt true = (0 : Int32) by decide), ← hx]; exact hr
    by_cases q : W v = false ∧ B v = true
    · have hRv := hz v (Nat.le_refl _)
      have room := hS.room hvN hRv
      let s1 : qS := uI (uI s 235 v 1) 237 no (nI v)
      have hS1 := hS.come hvN hRv ⟨q.1, v, hvN, q.2, q.1, rcW_r⟩
      have f1 : srF s s1 := ⟨fun c a b => by
        show (uI (uI s 235 v 1) 237 no (nI v)).1 c = _
        rw [uI_ne b, uI_ne a], rfl⟩
      obtain ⟨s', R', no', st', z1, z2⟩ := ih (v + 1) s1 (at1 R v true) (no + 1) (at1 st no v) (by omega) (hF.tr' f1) (fun u hu => by
        show (uI (uI s 235 v 1) 237 no (nI v)).1 235 u = _
        rw [uI_ne (by decide), rdU]
        by_cases q' : u = v
        · rw [if_pos ⟨rfl, q'⟩, q', at1_s]; rfl
        · rw [if_neg (fun z => q' z.2), at1_n q']; exact h5 u (by omega)) (fun u hu => by rw [at1_n (by omega)]; exact hz u (by omega)) (fun i hi => by
        show (uI (uI s 235 v 1) 237 no (nI v)).1 237 i = _
        rw [rdU]
        by_cases q' : i = no
        · rw [if_pos ⟨rfl, q'⟩, q', at1_s]
        · rw [if_neg (fun z => q' z.2), at1_n q', uI_ne (by decide)]; exact h7 i (by omega)) hS1 (fun b h1 h2 h3 => by
        by_cases q' : b = v
        · rw [q', at1_s]
        · rw [at1_n q']; exact hB b (by omega) h2 h3)
      refine ⟨s', R', no', st', fun r hr => pre r 1 (by rw [if_pos q]) (le_X12_lookWays_57 en _ _ _ _ _ _ _ _ _ ?_), z2⟩
      rw [gd_in (by omega) (by decide), n_cl (by omega), nar1, nm_eq, gd_in (by omega) (by decide), if_neg (by rw [rdU, if_pos ⟨rfl, rfl⟩]; decide), gd_in (by omega) (by decide), n_cl (show no < 2 ^ 31 by omega), nm_eq, show nI no + (1 : Int32) = nI (no + 1) from n_ar, show nI v + (1 : Int32) = nI (v + 1) from n_ar]
      exact z1 r hr
    · let s1 : qS := uI s 235 v 0
      have f1 : srF s s1 := ⟨fun c a b => uI_ne a, rfl⟩
      obtain ⟨s', R', no', st', z1, z2⟩ := ih (v + 1) s1 R no st (by omega) (hF.tr' f1) (fun u hu => by
        show (uI s 235 v 0).1 235 u = _
        rw [rdU]
        by_cases q' : u = v
        · rw [if_pos ⟨rfl, q'⟩, q', hz v (Nat.le_refl _)]; rfl
        · rw [if_neg (fun z => q' z.2)]; exact h5 u (by omega)) (fun u hu => hz u (by omega)) h7 hS (fun b h1 h2 h3 => by
        by_cases q' : b = v
        · rw [q'] at h2 h3; exact absurd ⟨h3, h2⟩ q
        · exact hB b (by omega) h2 h3)
      refine ⟨s', R', no', st', fun r hr => pre r 0 (by rw [if_neg q]) (le_X12_lookWays_57 en _ _ _ _ _ _ _ _ _ ?_), z2⟩
      rw [gd_in (by omega) (by decide), n_cl (by omega), nar0, nm_eq, gd_in (by omega) (by decide), if_pos (by rw [rdU, if_pos ⟨rfl, rfl⟩]), show nI v + (1 : Int32) = nI (v + 1) from n_ar]
      exact z1 r hr
theorem m_srEdges (hH : mjH A E T M W N nt σ) (hz : z < N) : ∀ (m e : Nat) (s : qS) (R : Nat → Bool) (no : Nat) (st : Nat → Nat), e + m = A (z + 1) → A z ≤ e → R z = true → srF σ s → (∀ u, u < N → s.1 235 u = bt (R u)) → (∀ i, i < no → s.1 237 i = nI (st i)) → RS A E W B N R no st z e p → ∃ (s' : qS) (R' : Nat → Bool) (no' : Nat) (st' : Nat → Nat), (∀ r, L_X12_lookWays_85 en d y2 (nI no') s' = some r → L_X12_lookWays_109 en d y2 (nI no) (nI z) (nI e) s = some r) ∧ srF σ s' ∧ (∀ u, u < N → s'.1 235 u = bt (R' u)) ∧ (∀ i, i < no' → s'.1 237 i = nI (st' i)) ∧ RS A E W B N R' no' st' N 0 p ∧ ∀ u, R u = true → R' u = true := by
  obtain ⟨⟨hN, hAN⟩, hA, hG0⟩ := id hH
  have hAz : A (z + 1) ≤ A N := hA (z + 1) N hz (Nat.le_refl _)
  intro m
  induction m with
  | zero =>
    intro e s R no st he hAe hRz hF h5 h7 hS
    have hG := (hH.sr hF).2.2
    refine ⟨s, R, no, st, fun r hr => le_X12_lookWays_109 en _ _ _ _ _ _ _ ?_, hF, h5, h7, hS.done (by omega), fun u hu => hu⟩
    rw [show nI z + (1 : Int32) = nI (z + 1) from n_ar, gd_in (by omega) (by decide), n_cl (by omega), hG.1 (z + 1) (by omega), if_pos (by rw [n_LE (by omega) (by omega)]; omega)]
    exact hr
  | succ m ih =>
    intro e s R no st he hAe hRz hF h5 h7 hS
    have hG := (hH.sr hF).2.2
    obtain ⟨z1, z1', z2, z3⟩ := hG.2.1 e (by omega)
    have hz0 := hS.1 z hz hRz
    by_cases q : W (E e) = false ∧ R (E e) = false
    · have room := hS.room z2 q.2
      let s1 : qS := uI (uI s 235 (E e) 1) 237 no (nI (E e))
      have f1 : srF s s1 := ⟨fun c a b => by
        show (uI (uI s 235 (E e) 1) 237 no (nI (E e))).1 c = _
        rw [uI_ne b, uI_ne a], rfl⟩
      have hS1 := (hS.come z2 q.2 ⟨q.1, by
        obtain ⟨_, b, b1, b2, b3, b4⟩ := hz0
        exact ⟨b, b1, b2, b3, rcW_e b4 hAe (by omega) q.1⟩⟩).step (fun _ => at1_s)
      have mono : ∀ u, R u = true → at1 R (E e) true u = true := fun u hu => by
        by_cases q' : u = E e
        · rw [q', at1_s]
        · rw [at1_n q']; exact hu
      obtain ⟨s', R', no', st', y1, y2, y3, y4, y5, y6⟩ := ih (e + 1) s1 (at1 R (E e) true) (no + 1) (at1 st no (E e)) (by omega) (by omega) (mono z hRz) (hF.tr' f1) (fun u hu => by
        show (uI (uI s 235 (E e) 1) 237 no (nI (E e))).1 235 u = _
        rw [uI_ne (by decide), rdU]
        by_cases q' : u = E e
        · rw [if_pos ⟨rfl, q'⟩, q', at1_s]; rfl
        · rw [if_neg (fun z => q' z.2), at1_n q']; exact h5 u hu) (fun i hi => by
        show (uI (uI s 235 (E e) 1) 237 no (nI (E e))).1 237 i = _
        rw [rdU]
        by_cases q' : i = no
        · rw [if_pos ⟨rfl, q'⟩, q', at1_s]
        · rw [if_neg (fun z => q' z.2), at1_n q', uI_ne (by decide)]; exact h7 i (by omega)) hS1
      refine ⟨s', R', no', st', fun r hr => le_X12_lookWays_109 en _ _ _ _ _ _ _ ?_, y2, y3, y4, y5, fun u hu => y6 u (mono u hu)⟩
      rw [show nI z + (1 : Int32) = nI (z + 1) from n_ar, gd_in (by omega) (by decide), n_cl (by omega), hG.1 (z + 1) (by omega), if_neg (by rw [n_LE (by omega) (by omega)]; omega), gd_in (by omega) (by decide), n_cl (by omega), z1, nm_eq, gd_in (by omega) (by decide), n_cl (show E e < 2 ^ 31 by omega), (hG.2.2.2 _ z2).1, q.1, if_neg (show ¬ ¬ bt false = (0 : Int32) from not_not_intro rfl), h5 _ z2, q.2, if_neg (show ¬ ¬ bt false = (0 : Int32) from not_not_intro rfl), nar1, nm_eq, gd_in (by omega) (by decide), n_cl (show no < 2 ^ 31 by omega), nm_eq, show nI no + (1 : Int32) = nI (no + 1) from n_ar, show nI e + (1 : Int32) = nI (e + 1) from n_ar]
      exact y1 r hr
    · obtain ⟨s', R', no', st', y1, y2, y3, y4, y5, y6⟩ := ih (e + 1) s R no st (by omega) (by omega) hRz hF h5 h7 (hS.step (fun hw => by
        cases hR : R (E e)
        · exact absurd ⟨hw, hR⟩ q
        · rfl))
      refine ⟨s', R', no', st', fun r hr => le_X12_lookWays_109 en _ _ _ _ _ _ _ ?_, y2, y3, y4, y5, y6⟩
      rw [show nI z + (1 : Int32) = nI (z + 1) from n_ar, gd_in (by omega) (by decide), n_cl (by omega), hG.1 (z + 1) (by omega), if_neg (by rw [n_LE (by omega) (by omega)]; omega), gd_in (by omega) (by decide), n_cl (by omega), z1, nm_eq, gd_in (by omega) (by decide), n_cl (show E e < 2 ^ 31 by omega), (hG.2.2.2 _ z2).1, h5 _ z2, show nI e + (1 : Int32) = nI (e + 1) from n_ar]
      cases hw : W (E e)
      · rw [if_neg (show ¬ ¬ bt false = (0 : Int32) from not_not_intro rfl)]
        cases hR : R (E e)
        · exact absurd ⟨hw, hR⟩ q
        · rw [if_pos (show ¬ bt true = (0 : Int32) by decide)]
          exact y1 r hr
      · rw [if_pos (show ¬ bt true = (0 : Int32) by decide)]
        exact y1 r hr
theorem m_srLoop (hH : mjH A E T M W N nt σ) : ∀ (m c : Nat) (s : qS) (R : Nat → Bool) (no : Nat) (st : Nat → Nat), c + m = N → srF σ s → (∀ u, u < N → s.1 235 u = bt (R u)) → (∀ i, i < no → s.1 237 i = nI (st i)) → RS A E W B N R no st N 0 c → ∃ (s' : qS) (R' : Nat → Bool) (st' : Nat → Nat) (c' : Nat), (∀ r, bV (qev en d 395 [.ref 151] s') (fun s3 => L_X12_lookWays_187 en d y2 (0 : Int32) s3) = some r → L_X12_lookWays_85 en d y2 (nI no) s = some r) ∧ srF σ s' ∧ (∀ u, u < N → s'.1 235 u = bt (R' u)) ∧ RS A E W B N R' 0 st' N 0 c' ∧ ∀ u, R u = true → R' u = true := by
  obtain ⟨⟨hN, hAN⟩, hA, hG0⟩ := id hH
  intro m
  induction m with
  | zero =>
    intro c s R no st hc hF h5 h7 hS
    have h4 := hS.2.2.2
    have : no = 0 := by omega
    subst this
    refine ⟨s, R, st, c, fun r hr => le_X12_lookWays_85 en _ _ _ _ _ ?_, hF, h5, hS, fun u hu => hu⟩
    rw [if_pos (by decide)]
    exact hr
  | succ m ih =>
    intro c s R no st hc hF h5 h7 hS
    have h4 := hS.2.2.2
    rcases no with _ | no
    · refine ⟨s, R, st, c, fun r hr => le_X12_lookWays_85 en _ _ _ _ _ ?_, hF, h5, hS, fun u hu => hu⟩
      rw [if_pos (by decide)]
      exact hr
    · obtain ⟨b1, b2⟩ := hS.2.1 no (by omega)
      have hG := (hH.sr hF).2.2
      have hAm : A (st no) ≤ A (st no + 1) := hA _ _ (by omega) b1
      obtain ⟨s2, R2, no2, st2, y1, y2', y3, y4, y5, y6⟩ := m_srEdges (en := en) (d := d) (y2 := y2) hH b1 (A (st no + 1) - A (st no)) (A (st no)) s R no st (by omega) (Nat.le_refl _) b2 hF h5 (fun i hi => h7 i (by omega)) (hS.pop rfl)
      obtain ⟨s', R', st', c', w1, w2, w3, w4, w5⟩ := ih (c + 1) s2 R2 no2 st2 (by omega) y2' y3 y4 y5
      refine ⟨s', R', st', c', fun r hr => le_X12_lookWays_85 en _ _ _ _ _ ?_, w2, w3, w4, fun u hu => w5 u (y6 u hu)⟩
      rw [if_neg (by rw [n_ge (by decide) (by omega)]; omega), n_cm1, gd_in (by omega) (by decide), n_cl (by omega), h7 no (by omega), nm_eq, gd_in (by omega) (by decide), n_cl (by omega), hG.1 (st no) (by omega), nm_eq]
      exact y1 r (w1 r hr)
/-- 236 at first: ends, and where it may go round for ever -/
theorem m_wyFirst {G : Nat → Nat} {Q : Nat} (hH : mjH A E T M W N nt σ) (hD : mjD A E T M W N σ G Q) (hNT : ∀ v, v < N → ∀ t, nt ≤ t → t < 4 → ¬ (M v).testBit t = true) : ∀ (m v : Nat) (s : qS) (H : Nat → Bool), v + m = N → wyF σ s → (∀ u, u < v → s.1 236 u = bt (H u)) → (∀ u, u < v → (H u = true ↔ W u = false ∧ (M u % 16 = 0 ∨ lasJ A E T W M fr u))) → ∃ (s' : qS) (H' : Nat → Bool), (∀ r, L_X12_lookWays_247 en (d + 1) 1 s' = some r → L_X12_lookWays_187 en (d + 1) (bt fr) (nI v) s = some r) ∧ wyF σ s' ∧ (∀ u, u < N → s'.1 236 u = bt (H' u)) ∧ ∀ u, u < N → (H' u = true ↔ W u = false ∧ (M u % 16 = 0 ∨ lasJ A E T W M fr u)) := by
  obtain ⟨⟨hN, hAN⟩, hA, hG0⟩ := id hH
  intro m
  induction m with
  | zero =>
    intro v s H hv hF h6 hh
    refine ⟨s, H, fun r hr => le_X12_lookWays_187 en _ _ _ _ _ ?_, hF, fun u hu => h6 u (by omega), fun u hu => hh u (by omega)⟩
    rw [hF.1 151 (by decide), hG0.2.2.1.1, if_pos (by rw [n_LE (by omega) (by omega)]; omega)]
    exact hr
  | succ m ih =>
    intro v s H hv hF h6 hh
    have hvN : v < N := by omega
    have hH' := hH.wy hF
    have hD' : mjD A E T M W N s G Q := ⟨fun v hv => by rw [hF.1 238 (by decide)]; exact hD.1 v hv, hD.2.1, hD.2.2.1, hD.2.2.2.1, hD.2.2.2.2.1, hD.2.2.2.2.2.1, fun k hk => by rw [hF.1 244 (by decide), hF.1 245 (by decide), hF.1 246 (by decide)]; exact hD.2.2.2.2.2.2 k hk⟩
    have go : ∀ b : Bool, (b = true ↔ W v = false ∧ (M v % 16 = 0 ∨ lasJ A E T W M fr v)) → ∃ (s' : qS) (H' : Nat → Bool), (∀ r, L_X12_lookWays_247 en (d + 1) 1 s' = some r → L_X12_lookWays_237 en (d + 1) (bt fr) (nI v) (nI v) (bt b) s = some r) ∧ wyF σ s' ∧ (∀ u, u < N → s'.1 236 u = bt (H' u)) ∧ ∀ u, u < N → (H' u = true ↔ W u = false ∧ (M u % 16 = 0 ∨ lasJ A E T W M fr u)) := fun b hb => by
      obtain ⟨s', H', z1, z2, z3, z4⟩ := ih (v + 1) (uI s 236 v (bt b)) (at1 H v b) (by omega) ⟨fun c hc => (uI_ne hc).trans (hF.1 c hc), hF.2⟩ (fun u hu => by
        rw [rdU]
        by_cases q : u = v
        · rw [if_pos ⟨rfl, q⟩, q, at1_s]
        · rw [if_neg (fun z => q z.2), at1_n q]; exact h6 u (by omega)) (fun u hu => by
        by_cases q : u = v
        · rw [q, at1_s]; exact hb
        · rw [at1_n q]; exact hh u (by omega))
      refine ⟨s', H', fun r hr => le_X12_lookWays_237 en _ _ _ _ _ _ _ ?_, z2, z3, z4⟩
      rw [gd_in (by omega) (by decide), n_cl (by omega), show vp_nar .boolean (bt b) = bt b from by cases b <;> decide, nm_eq, show nI v + (1 : Int32) = nI (v + 1) from n_ar]
      exact z1 r hr
    obtain ⟨wv, ev, _⟩ := hH'.2.2.2.2.2 v hvN
    have pre : ∀ r, (if ¬ s.1 233 v = (0 : Int32) then L_X12_lookWays_237 en (d + 1) (bt fr) (nI v) (nI v) 0 s else if ¬ s.1 216 v = (0 : Int32) then L_X12_lookWays_237 en (d + 1) (bt fr) (nI v) (nI v) 1 s else bI (qev en (d + 1) 396 [.ref 151, .int (nI v), .int (bt fr)] s) (fun w5 s6 => if w5 = (0 : Int32) then L_X12_lookWays_237 en (d + 1) (bt fr) (nI v) (nI v) 0 s6 else L_X12_lookWays_237 en (d + 1) (bt fr) (nI v) (nI v) 1 s6)) = some r → L_X12_lookWays_187 en (d + 1) (bt fr) (nI v) s = some r := by
      intro r hr
      refine le_X12_lookWays_187 en _ _ _ _ _ ?_
      rw [hF.1 151 (by decide), hG0.2.2.1.1, if_neg (by rw [n_LE (by omega) (by omega)]; omega), gd_in (by omega) (by decide), n_cl (by omega)]
      exact hr
    cases hw : W v
    · by_cases qe : M v % 16 = 0
      · obtain ⟨s', H', z1, z2⟩ := go true ⟨fun _ => ⟨hw, Or.inl qe⟩, fun _ => rfl⟩
        refine ⟨s', H', fun r hr => pre r ?_, z2⟩
        rw [wv, hw, if_neg (show ¬ ¬ bt false = (0 : Int32) from not_not_intro rfl), ev, decide_eq_true qe, if_pos (show ¬ bt true = (0 : Int32) by decide)]
        exact z1 r hr
      · obtain ⟨b, e1, e2⟩ := m_isLasting (en := en) (d := d) (fr := fr) hH' hD' hvN hw hNT
        obtain ⟨s', H', z1, z2⟩ := go b ⟨fun h => ⟨hw, Or.inr (e2.mp h)⟩, fun h => e2.mpr (h.2.elim (fun q => absurd q qe) id)⟩
        refine ⟨s', H', fun r hr => pre r ?_, z2⟩
        rw [wv, hw, if_neg (show ¬ ¬ bt false = (0 : Int32) from not_not_intro rfl), ev, decide_eq_false qe, if_neg (show ¬ ¬ bt false = (0 : Int32) from not_not_intro rfl), e1, bI_some]
        have := z1 r hr
        cases hb : b
        · rw [if_pos (show bt false = (0 : Int32) from rfl)]; rw [hb] at this; exact this
        · rw [if_neg (show ¬ bt true = (0 : Int32) by decide)]; rw [hb] at this; exact this
    · obtain ⟨s', H', z1, z2⟩ := go false ⟨fun z => Bool.noConfusion z, fun z => by rw [hw] at z; exact Bool.noConfusion z.1⟩
      refine ⟨s', H', fun r hr => pre r ?_, z2⟩
      rw [wv, hw, if_pos (show ¬ bt true = (0 : Int32) by decide)]
      exact z1 r hr
theorem m_wyLeast (hN : N ≤ 20000) (h1 : s.1 151 101 = nI N) (h5 : ∀ u, u < N → s.1 235 u = bt (R u)) (h6 : ∀ u, u < N → s.1 236 u = bt (H u)) : ∀ (m v : Nat), v + m = N → L_X12_lookWays_383 en d (nI v) s = some (some (.int (lsV (fun u => R u && H u) m v)), s) := by
  intro m
  induction m with
  | zero =>
    intro v hv
    refine le_X12_lookWays_383 en _ _ _ _ ?_
    rw [h1, if_pos (by rw [n_LE (by omega) (by omega)]; omega)]
    rfl
  | succ m ih =>
    intro v hv
    refine le_X12_lookWays_383 en _ _ _ _ ?_
    rw [h1, if_neg (by rw [n_LE (by omega) (by omega)]; omega), gd_in (by omega) (by decide), n_cl (by omega), h5 v (by omega), h6 v (by omega), show nI v + (1 : Int32) = nI (v + 1) from n_ar]
    have e : lsV (fun u => R u && H u) (m + 1) v = if (R v && H v) = true then nI v else lsV (fun u => R u && H u) m (v + 1) := rfl
    rw [e]
    cases hR : R v
    · rw [if_pos (show bt false = (0 : Int32) from rfl), Bool.false_and, if_neg (by decide)]; exact ih (v + 1) (by omega)
    · rw [if_neg (show ¬ bt true = (0 : Int32) by decide), Bool.true_and]
      cases hH : H v
      · rw [if_pos (show bt false = (0 : Int32) from rfl), if_neg (by decide)]; exact ih (v + 1) (by omega)
      · rw [if_neg (show ¬ bt true = (0 : Int32) by decide), if_pos rfl]
end LKM
