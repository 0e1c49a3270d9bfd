/-! JUDGING: what is come to from the beginnings; the class's side. -/
/-- it is come to without what is wanted -/
abbrev isRJ (A E : Nat → Nat) (W B : Nat → Bool) (N v : Nat) : Prop := W v = false ∧ ∃ b, b < N ∧ B b = true ∧ W b = false ∧ rcW A E W b v
/-- the search under way: R what has been come to, no how many wait (st), z the state looked at up to step e, p how many have been looked at -/
abbrev RS (A E : Nat → Nat) (W B : Nat → Bool) (N : Nat) (R : Nat → Bool) (no : Nat) (st : Nat → Nat) (z e p : Nat) : Prop := (∀ v, v < N → R v = true → isRJ A E W B N v) ∧ (∀ i, i < no → st i < N ∧ R (st i) = true) ∧ (∀ v, v < N → R v = true → (∃ i, i < no ∧ st i = v) ∨ ∀ e', A v ≤ e' → e' < A (v + 1) → (v = z → e' < e) → W (E e') = false → R (E e') = true) ∧ p + no + sumF (fun v => if R v = true then 0 else 1) N = N
section RSJ
variable {en : pN} {d N no z e p v c : Nat} {st A E T M : Nat → Nat} {s s' s'' τ : qS} {W B R K : Nat → Bool}
theorem RS.come (h : RS A E W B N R no st z e p) (hv : v < N) (hR : R v = false) (hr : isRJ A E W B N v) : RS A E W B N (at1 R v true) (no + 1) (at1 st no v) z e p := by
  obtain ⟨h1, h2, h3, h4⟩ := h
  have mono : ∀ u, R u = true → at1 R v true u = true := fun u hu => by
    by_cases q : u = v
    · rw [q, at1_s]
    · rw [at1_n q]; exact hu
  refine ⟨fun u hu hn => ?_, fun i hi => ?_, fun u hu hn => ?_, ?_⟩
  · by_cases q : u = v
    · rw [q]; exact hr
    · rw [at1_n q] at hn; exact h1 u hu hn
  · by_cases q : i = no
    · rw [q, at1_s, at1_s]; exact ⟨hv, rfl⟩
    · rw [at1_n q]; exact ⟨(h2 i (by omega)).1, mono _ (h2 i (by omega)).2⟩
  · by_cases q : u = v
    · exact Or.inl ⟨no, by omega, by rw [at1_s, q]⟩
    · rw [at1_n q] at hn
      rcases h3 u hu hn with ⟨i, i1, i2⟩ | w
      · exact Or.inl ⟨i, by omega, by rw [at1_n (by omega)]; exact i2⟩
      · exact Or.inr (fun e' g1 g2 g3 g4 => mono _ (w e' g1 g2 g3 g4))
  · have := sumF_set (f := fun v => if R v = true then 0 else 1) (g := fun u => if at1 R v true u = true then 0 else 1) N hv (fun j hj => by show (if at1 R v true j = true then 0 else 1) = _; rw [at1_n hj])
    simp only [at1_s] at this
    rw [if_neg (by rw [hR]; decide), if_pos trivial] at this
    omega
theorem RS.room (h : RS A E W B N R no st z e p) (hv : v < N) (hR : R v = false) : p + no < N := by
  have := (h.come (v := v) hv hR)
  obtain ⟨_, _, _, h4⟩ := h
  have := sumF_set (f := fun v => if R v = true then 0 else 1) (g := fun u => if at1 R v true u = true then 0 else 1) N hv (fun j hj => by show (if at1 R v true j = true then 0 else 1) = _; rw [at1_n hj])
  simp only [at1_s] at this
  rw [if_neg (by rw [hR]; decide), if_pos trivial] at this
  omega
/-- the next one is looked at -/
theorem RS.pop (h : RS A E W B N R (no + 1) st z e p) (hz : z = N) : RS A E W B N R no st (st no) (A (st no)) (p + 1) := by
  obtain ⟨h1, h2, h3, h4⟩ := h
  refine ⟨h1, fun i hi => h2 i (by omega), fun u hu hn => ?_, by omega⟩
  by_cases q : u = st no
  · exact Or.inr (fun e' g1 g2 g3 _ => absurd (g3 q) (by rw [← q]; omega))
  · rcases h3 u hu hn with ⟨i, i1, i2⟩ | w
    · refine Or.inl ⟨i, ?_, i2⟩
      have : i ≠ no := fun q' => q (by rw [← i2, q'])
      omega
    · exact Or.inr (fun e' g1 g2 _ g4 => w e' g1 g2 (fun q' => absurd hu (by omega)) g4)
/-- a step looked at: its goal is come to, or wanted -/
theorem RS.step (h : RS A E W B N R no st z e p) (hE : W (E e) = false → R (E e) = true) : RS A E W B N R no st z (e + 1) p := by
  obtain ⟨h1, h2, h3, h4⟩ := h
  refine ⟨h1, h2, fun u hu hn => ?_, h4⟩
  rcases h3 u hu hn with w | w
  · exact Or.inl w
  · refine Or.inr (fun e' g1 g2 g3 g4 => ?_)
    by_cases q : e' = e
    · rw [q] at g4 ⊢; exact hE g4
    · exact w e' g1 g2 (fun q' => by have := g3 q'; omega) g4
theorem RS.done (h : RS A E W B N R no st z e p) (he : A (z + 1) ≤ e) : RS A E W B N R no st N 0 p := by
  obtain ⟨h1, h2, h3, h4⟩ := h
  refine ⟨h1, h2, fun u hu hn => ?_, h4⟩
  rcases h3 u hu hn with w | w
  · exact Or.inl w
  · exact Or.inr (fun e' g1 g2 _ g4 => w e' g1 g2 (fun q' => by rw [q'] at g2; omega) g4)
/-- nothing waits: all is found -/
theorem RS.all (hEN : ∀ e, e < A N → E e < N) (hA : ∀ i j, i ≤ j → j ≤ N → A i ≤ A j) (h : RS A E W B N R 0 st N 0 p) (hB : ∀ b, b < N → B b = true → W b = false → R b = true) (hv : v < N) : R v = true ↔ isRJ A E W B N v := by
  obtain ⟨h1, h2, h3, h4⟩ := h
  constructor
  · exact h1 v hv
  · rintro ⟨_, b, b1, b2, b3, b4⟩
    refine (b4 (fun x => x < N ∧ R x = true) ⟨b1, hB b b1 b2 b3⟩ (fun x e' ⟨x1, x2⟩ g1 g2 g3 => ?_)).2
    refine ⟨hEN e' (Nat.lt_of_lt_of_le g2 (hA (x + 1) N x1 (Nat.le_refl _))), ?_⟩
    rcases h3 x x1 x2 with ⟨i, hi, _⟩ | w
    · omega
    · exact w e' g1 g2 (fun q => by omega) g3
/-- the class's flags and its stack -/
abbrev crP (W B K : Nat → Bool) (N : Nat) (τ s : qS) (R : Nat → Bool) (no : Nat) (st : Nat → Nat) : Prop := cjF τ s ∧ s.1 103 11 = τ.1 103 11 ∧ s.1 103 10 = nI no ∧ (∀ i, i < no → s.1 108 i = nI (st i)) ∧ ∀ v, v < N → s.1 104 v = fgV (W v) (B v) (R v) (K v)
theorem x_comeTo (hN : N ≤ 20000) (h : crP W B K N τ s R no st) (hS : RS A E W B N R no st z e p) (hv : v < N) (hr : W v = false → isRJ A E W B N v) : ∃ (s' : qS) (R' : Nat → Bool) (no' : Nat) (st' : Nat → Nat), qev en (d + 1) 25 [.ref 103, .int (nI v)] s = some (none, s') ∧ crP W B K N τ s' R' no' st' ∧ RS A E W B N R' no' st' z e p ∧ (W v = false → R' v = true) ∧ ∀ u, R u = true → R' u = true := by
  obtain ⟨h1, h2, h3, h4, h5⟩ := id h
  by_cases q : W v = false ∧ R v = false
  · have room := hS.room hv q.2
    refine ⟨uI (uI (uI s 104 v (fgV (W v) (B v) true (K v))) 108 no (nI v)) 103 10 (nI (no + 1)), at1 R v true, no + 1, at1 st no v, le_X2_comeTo en _ _ _ _ ?_, ⟨⟨fun c hc => ?_, h1.2⟩, ?_, ?_, fun i hi => ?_, fun u hu => ?_⟩, hS.come hv q.2 (hr q.1), fun _ => at1_s, fun u hu => ?_⟩
    · rw [gd_in (by omega) (by decide), n_cl (by omega), h5 v hv, if_neg (not_not_intro (by rw [fg_5]; exact q)), fg_o4, nm_eq, uI_ne (by decide), h3, gd_in (by omega) (by decide), n_cl (by omega), nm_eq, nm_eq, uI_ne (by decide), uI_ne (by decide), h3, show nI no + (1 : Int32) = nI (no + 1) from n_ar]
    · rw [uI_ne (by omega), uI_ne (by omega), uI_ne (by omega)]; exact h1.1 c hc
    · rw [rdU, if_neg (by omega), uI_ne (by decide), uI_ne (by decide)]; exact h2
    · rw [rdU, if_pos ⟨rfl, rfl⟩]
    · rw [uI_ne (by decide), rdU]
      by_cases q' : i = no
      · rw [if_pos ⟨rfl, q'⟩, q', at1_s]
      · rw [if_neg (fun z => q' z.2), at1_n q', uI_ne (by decide)]; exact h4 i (by omega)
    · rw [uI_ne (by decide), uI_ne (by decide), rdU]
      by_cases q' : u = v
      · rw [if_pos ⟨rfl, q'⟩, q', at1_s]
      · rw [if_neg (fun z => q' z.2), at1_n q']; exact h5 u hu
    · by_cases q' : u = v
      · rw [q', at1_s]
      · rw [at1_n q']; exact hu
  · refine ⟨s, R, no, st, le_X2_comeTo en _ _ _ _ ?_, h, hS, fun hw => ?_, fun u hu => hu⟩
    · rw [gd_in (by omega) (by decide), n_cl (by omega), h5 v hv, if_pos (by rw [fg_5]; exact q)]
    · cases hR : R v
      · exact absurd ⟨hw, hR⟩ q
      · rfl
/-- the steps of one state -/
theorem x_frEdges (hH : cjH A E T M N τ) (hz : z < N) : ∀ (m e : Nat) (s : qS) (R : Nat → Bool) (no : Nat) (st : Nat → Nat), e + m = A (z + 1) → A z ≤ e → R z = true → crP W B K N τ s R no st → RS A E W B N R no st z e p → ∃ (s' : qS) (R' : Nat → Bool) (no' : Nat) (st' : Nat → Nat), (∀ r, L_X2_findReached_45 en (d + 1) (nI (c + 1)) s' = some r → L_X2_findReached_89 en (d + 1) (nI c) (nI z) (nI e) s = some r) ∧ crP W B K N τ s' R' no' st' ∧ RS A E W B N R' no' st' N 0 p ∧ ∀ u, R u = true → R' u = true := by
  obtain ⟨⟨hN, hAN⟩, hA, hG0, hM0, hMb⟩ := id hH
  have hAz : A (z + 1) ≤ A N := hA (z + 1) N hz (Nat.le_refl _)
  intro m
  induction m with
  | zero =>
    intro e s R no st he hAe hRz h hS
    have hG := hG0.fr h.1
    refine ⟨s, R, no, st, fun r hr => le_X2_findReached_89 en _ _ _ _ _ _ ?_, h, hS.done (by omega), fun u hu => hu⟩
    rw [show nI z + (1 : Int32) = nI (z + 1) from n_ar, gd_in (by omega) (by decide), n_cl (by omega), hG.1 (z + 1) (by omega), if_pos (by rw [n_LE (by omega) (by omega)]; omega), show nI c + (1 : Int32) = nI (c + 1) from n_ar]
    exact hr
  | succ m ih =>
    intro e s R no st he hAe hRz h hS
    have hG := hG0.fr h.1
    obtain ⟨z1, z2, z3⟩ := hG.2.1 e (by omega)
    have hz0 := hS.1 z hz hRz
    obtain ⟨s1, R1, no1, st1, e1, e2, e3, e4, e5⟩ := x_comeTo (en := en) (d := d) hN h hS z2 (fun hw => ⟨hw, by
      obtain ⟨_, b, b1, b2, b3, b4⟩ := hz0
      exact ⟨b, b1, b2, b3, rcW_e b4 hAe (by omega) hw⟩⟩)
    obtain ⟨s', R', no', st', y1, y2, y3, y4⟩ := ih (e + 1) s1 R1 no1 st1 (by omega) (by omega) (e5 z hRz) e2 (e3.step e4)
    refine ⟨s', R', no', st', fun r hr => le_X2_findReached_89 en _ _ _ _ _ _ ?_, y2, y3, fun u hu => y4 u (e5 u hu)⟩
    rw [show nI z + (1 : Int32) = nI (z + 1) from n_ar, gd_in (by omega) (by decide), n_cl (by omega), hG.1 (z + 1) (by omega), if_neg (by rw [n_LE (by omega) (by omega)]; omega), gd_in (by omega) (by decide), n_cl (by omega), z1, x_stateOf z3 (by omega), bI_some, e1, bV_some, show nI e + (1 : Int32) = nI (e + 1) from n_ar]
    exact y1 r hr
/-- what waits, one by one -/
theorem x_frLoop (hH : cjH A E T M N τ) : ∀ (m c : Nat) (s : qS) (R : Nat → Bool) (no : Nat) (st : Nat → Nat), c + m = 20000 → crP W B K N τ s R no st → RS A E W B N R no st N 0 c → ∃ (s' : qS) (R' : Nat → Bool) (st' : Nat → Nat) (c' : Nat), L_X2_findReached_45 en (d + 1) (nI c) s = some (none, s') ∧ crP W B K N τ s' R' 0 st' ∧ RS A E W B N R' 0 st' N 0 c' ∧ ∀ u, R u = true → R' u = true := by
  obtain ⟨⟨hN, hAN⟩, hA, hG0, hM0, hMb⟩ := id hH
  intro m
  induction m with
  | zero =>
    intro c s R no st hc h hS
    have h4 := hS.2.2.2
    have : no = 0 := by omega
    subst this
    refine ⟨s, R, st, c, le_X2_findReached_45 en _ _ _ _ ?_, h, hS, fun u hu => hu⟩
    rw [if_pos (by rw [n_le (by decide) (by omega)]; omega)]
  | succ m ih =>
    intro c s R no st hc h hS
    have h4 := hS.2.2.2
    rcases no with _ | no
    · refine ⟨s, R, st, c, le_X2_findReached_45 en _ _ _ _ ?_, h, hS, fun u hu => hu⟩
      rw [if_neg (by rw [n_le (by decide) (by omega)]; omega), h.2.2.1, if_pos (by decide)]
    · obtain ⟨h1, h2, h3, h4', h5⟩ := id h
      obtain ⟨b1, b2⟩ := hS.2.1 no (by omega)
      have hG := hG0.fr h1
      let s1 : qS := uI s 103 10 (nI no)
      have hP : crP W B K N τ s1 R no st := ⟨⟨fun c hc => by rw [show s1.1 c = s.1 c from uI_ne (by omega)]; exact h1.1 c hc, h1.2⟩, by
        show (uI s 103 10 (nI no)).1 103 11 = _
        rw [rdU, if_neg (by omega)]; exact h2, by
        show (uI s 103 10 (nI no)).1 103 10 = _
        rw [rdU, if_pos ⟨rfl, rfl⟩], fun i hi => h4' i (by omega), h5⟩
      have hAm : A (st no) ≤ A (st no + 1) := hA _ _ (by omega) b1
      obtain ⟨s2, R2, no2, st2, y1, y2, y3, y4⟩ := x_frEdges (en := en) (d := d) (c := c) hH b1 (A (st no + 1) - A (st no)) (A (st no)) s1 R no st (by omega) (Nat.le_refl _) b2 hP (hS.pop rfl)
      obtain ⟨s', R', st', c', w1, w2, w3, w4⟩ := ih (c + 1) s2 R2 no2 st2 (by omega) y2 y3
      refine ⟨s', R', st', c', le_X2_findReached_45 en _ _ _ _ ?_, w2, w3, fun u hu => w4 u (y4 u hu)⟩
      rw [if_neg (by rw [n_le (by decide) (by omega)]; omega), h3, if_neg (by rw [n_ge (by decide) (by omega)]; omega), show nI (no + 1) - (1 : Int32) = nI no from n_sr (by omega), nm_eq, show (uI s 103 10 (nI no)).1 103 10 = nI no from by rw [rdU, if_pos ⟨rfl, rfl⟩], gd_in (by omega) (by decide), n_cl (by omega), uI_ne (by decide), h4' no (by omega), nm_eq, gd_in (by omega) (by decide), n_cl (by omega), uI_ne (by decide), hG.1 (st no) (by omega), nm_eq]
      exact y1 _ w1
theorem x_frBegin (hH : cjH A E T M N τ) : ∀ (m v : Nat) (s : qS) (R : Nat → Bool) (no : Nat) (st : Nat → Nat), v + m = N → crP W B K N τ s R no st → RS A E W B N R no st N 0 0 → (∀ b, b < v → B b = true → W b = false → R b = true) → ∃ (s' : qS) (R' : Nat → Bool) (no' : Nat) (st' : Nat → Nat), (∀ r, L_X2_findReached_45 en (d + 1) 0 s' = some r → L_X2_findReached_7 en (d + 1) (nI v) s = some r) ∧ crP W B K N τ s' R' no' st' ∧ RS A E W B N R' no' st' N 0 0 ∧ ∀ b, b < N → B b = true → W b = false → R' b = true := by
  obtain ⟨⟨hN, hAN⟩, hA, hG0, hM0, hMb⟩ := id hH
  intro m
  induction m with
  | zero =>
    intro v s R no st hv h hS hB
    refine ⟨s, R, no, st, fun r hr => le_X2_findReached_7 en _ _ _ _ ?_, h, hS, fun b hb => hB b (by omega)⟩
    rw [(hG0.fr h.1).2.2, if_pos (by rw [n_LE (by omega) (by omega)]; omega)]
    exact hr
  | succ m ih =>
    intro v s R no st hv h hS hB
    cases hb : B v
    · obtain ⟨s', R', no', st', y1, y2, y3, y4⟩ := ih (v + 1) s R no st (by omega) h hS (fun b h1 h2 h3 => by
        by_cases q : b = v
        · rw [q, hb] at h2; exact Bool.noConfusion h2
        · exact hB b (by omega) h2 h3)
      refine ⟨s', R', no', st', fun r hr => le_X2_findReached_7 en _ _ _ _ ?_, y2, y3, y4⟩
      rw [(hG0.fr h.1).2.2, if_neg (by rw [n_LE (by omega) (by omega)]; omega), gd_in (by omega) (by decide), n_cl (by omega), h.2.2.2.2 v (by omega), if_pos (by rw [fg_2]; exact hb), show nI v + (1 : Int32) = nI (v + 1) from n_ar]
      exact y1 r hr
    · obtain ⟨s1, R1, no1, st1, e1, e2, e3, e4, e5⟩ := x_comeTo (en := en) (d := d) hN h hS (show v < N by omega) (fun hw => ⟨hw, v, by omega, hb, hw, rcW_r⟩)
      obtain ⟨s', R', no', st', y1, y2, y3, y4⟩ := ih (v + 1) s1 R1 no1 st1 (by omega) e2 e3 (fun b h1 h2 h3 => by
        by_cases q : b = v
        · rw [q]; rw [q] at h3; exact e4 h3
        · exact e5 b (hB b (by omega) h2 h3))
      refine ⟨s', R', no', st', fun r hr => le_X2_findReached_7 en _ _ _ _ ?_, y2, y3, y4⟩
      rw [(hG0.fr h.1).2.2, if_neg (by rw [n_LE (by omega) (by omega)]; omega), gd_in (by omega) (by decide), n_cl (by omega), h.2.2.2.2 v (by omega), if_neg (by rw [fg_2, hb]; decide), e1, bV_some, show nI v + (1 : Int32) = nI (v + 1) from n_ar]
      exact y1 r hr
theorem RS.none (hR : ∀ v, v < N → R v = false) : RS A E W B N R 0 st N 0 0 := by
  have e : ∀ n, n ≤ N → sumF (fun v => if R v = true then 0 else 1) n = n := by
    intro n
    induction n with
    | zero => intro _; rfl
    | succ n ih =>
      intro h
      show sumF _ n + (if R n = true then 0 else 1) = n + 1
      rw [ih (by omega), if_neg (by rw [hR n (by omega)]; decide)]
  exact ⟨fun v hv h => by rw [hR v hv] at h; exact Bool.noConfusion h, fun i hi => absurd hi (by omega), fun v hv h => by rw [hR v hv] at h; exact Bool.noConfusion h, by rw [e N (Nat.le_refl _)]; omega⟩
/-- all that is come to -/
theorem x_findReached (hH : cjH A E T M N τ) (hf : ∀ v, v < N → τ.1 104 v = fgV (W v) (B v) false (K v)) : ∃ (s' : qS) (R : Nat → Bool), qev en (d + 2) 24 [.ref 103] τ = some (none, s') ∧ cjF τ s' ∧ s'.1 103 11 = τ.1 103 11 ∧ (∀ v, v < N → s'.1 104 v = fgV (W v) (B v) (R v) (K v)) ∧ ∀ v, v < N → (R v = true ↔ isRJ A E W B N v) := by
  obtain ⟨⟨hN, hAN⟩, hA, hG0, hM0, hMb⟩ := id hH
  let s1 : qS := uI τ 103 10 0
  have hP : crP W B K N τ s1 (fun _ => false) 0 (fun _ => 0) := ⟨⟨fun c hc => uI_ne (by omega), rfl⟩, rfl, rfl, fun i hi => absurd hi (by omega), hf⟩
  obtain ⟨s2, R2, no2, st2, y1, y2, y3, y4⟩ := x_frBegin (en := en) (d := d) hH N 0 s1 (fun _ => false) 0 (fun _ => 0) (by omega) hP (RS.none (fun _ _ => rfl)) (fun b hb => absurd hb (by omega))
  obtain ⟨s', R', st', c', w1, w2, w3, w4⟩ := x_frLoop (en := en) (d := d) hH 20000 0 s2 R2 no2 st2 (by omega) y2 y3
  refine ⟨s', R', le_X2_findReached en _ _ _ ?_, w2.1, w2.2.1, w2.2.2.2.2, fun v hv => RS.all (fun e he => (hG0.2.1 e he).2.1) hA w3 (fun b h1 h2 h3 => w4 b (y4 b h1 h2 h3)) hv⟩
  rw [nm_eq]
  exact y1 _ w1
end RSJ
