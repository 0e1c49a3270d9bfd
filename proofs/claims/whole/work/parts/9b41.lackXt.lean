/-! JUDGING, the class's side: findLacking. -/
section LKT
variable {en : pN} {d N C no nn Q v u i0 e : Nat} {I L G X op tr A E T M : Nat → Nat} {s s' s'' τ : qS} {W B R K : Nat → Bool} {fr : Bool}
theorem x_walkJ (hH : cjH A E T M N τ) (hV : cjV A E T W B R M fr N τ s C I L G X no op 0 tr Q K) (hv : v < N) (hI : I v = 0) (hW : W v = false) : ∃ (s' : qS) (C' : Nat) (I' L' G' X' : Nat → Nat) (no' : Nat) (op' tr' : Nat → Nat) (Q' : Nat) (K' : Nat → Bool), qev en (d + 3) 28 [.ref 103, .int (nI v), .int (bt fr)] s = some (none, s') ∧ cjV A E T W B R M fr N τ s' C' I' L' G' X' no' op' 0 tr' Q' K' ∧ I' v ≠ 0 ∧ ∀ u, I u ≠ 0 → I' u ≠ 0 := by
  obtain ⟨⟨hN, hAN⟩, hA, hG0, hM0, hMb⟩ := id hH
  obtain ⟨hT, hF, hP, hfl, hK, hQ⟩ := id hV
  obtain ⟨nle1, nle2, nle3⟩ := hT.no_le
  have hroom := hT.room hv hI
  obtain ⟨t1, t2⟩ := hT.enter hv hI (hA v (v + 1) (by omega) (by omega)) hW (fun i hi => absurd hi (by omega))
  let s1 : qS := uI s 103 11 0
  have f103 : ∀ j, j ≠ 11 → s1.1 103 j = s.1 103 j := fun j hj => by
    show (uI s 103 11 0).1 103 j = _
    rw [rdU, if_neg (fun z => hj z.2)]
  have hP1 : cjP s1 N C I L G X no op 0 tr Q := ⟨⟨(f103 9 (by decide)).trans hP.1.1, (f103 10 (by decide)).trans hP.1.2.1, rfl, (f103 12 (by decide)).trans hP.1.2.2.2⟩, hP.2⟩
  have hF1 : cjF τ s1 := hF.tr' ⟨fun c hc => uI_ne (by omega), rfl⟩
  obtain ⟨s2, e1, e2, e3, e4⟩ := x_enterJ (en := en) (d := d + 1) hP1 hN hv (hG0.fr hF1) (by omega) (by omega) hroom
  have hmu := muJ_le hA hT rfl
  obtain ⟨s', C', I', L', G', X', no', op', tr', Q', K', y1, y2, y3⟩ := x_walkLoop (en := en) (d := d) hH 999999 s2 _ _ _ _ _ _ _ _ _ _ K 0 ⟨t1, hF1.tr' e2, e4, fun u hu => by rw [e3]; exact hfl u hu, hK, by omega⟩ (by omega) (by omega)
  refine ⟨s', C', I', L', G', X', no', op', tr', Q', K', le_X2_walkFrom en _ _ _ _ _ ?_, y2, y3 v (by rw [at1_s]; omega), fun u hu => y3 u ?_⟩
  · rw [nm_eq, e1, bV_some]
    exact y1
  · by_cases q : u = v
    · rw [q, at1_s]; omega
    · rw [at1_n q]; exact hu
theorem x_lackLoop (hH : cjH A E T M N τ) : ∀ (m v : Nat) (s : qS) (C : Nat) (I L G X : Nat → Nat) (no : Nat) (op tr : Nat → Nat) (Q : Nat) (K : Nat → Bool), v + m = N → cjV A E T W B R M fr N τ s C I L G X no op 0 tr Q K → (∀ u, u < v → W u = false → I u ≠ 0) → ∃ (s' : qS) (C' : Nat) (I' L' G' X' : Nat → Nat) (no' : Nat) (op' tr' : Nat → Nat) (Q' : Nat) (K' : Nat → Bool), L_X2_findLacking_33 en (d + 3) (bt fr) (nI v) s = some (none, s') ∧ cjV A E T W B R M fr N τ s' C' I' L' G' X' no' op' 0 tr' Q' K' ∧ ∀ u, u < N → W u = false → I' u ≠ 0 := by
  obtain ⟨⟨hN, hAN⟩, hA, hG0, hM0, hMb⟩ := id hH
  intro m
  induction m with
  | zero =>
    intro v s C I L G X no op tr Q K hv hV hI
    refine ⟨s, C, I, L, G, X, no, op, tr, Q, K, le_X2_findLacking_33 en _ _ _ _ _ ?_, hV, fun u hu => hI u (by omega)⟩
    rw [(hG0.fr hV.2.1).2.2, if_pos (by rw [n_LE (by omega) (by omega)]; omega)]
  | succ m ih =>
    intro v s C I L G X no op tr Q K hv hV hI
    obtain ⟨hT, hF, hP, hfl, hK, hQ⟩ := id hV
    have e0 := x_isWantedJ (en := en) (d := d + 2) (s := s) hfl (show v < N by omega) hN
    have hIb := hT.1.2.1 v (by omega)
    obtain ⟨nle1, nle2, nle3⟩ := hT.no_le
    have skip : (W v = false → I v ≠ 0) → ∃ (s' : qS) (C' : Nat) (I' L' G' X' : Nat → Nat) (no' : Nat) (op' tr' : Nat → Nat) (Q' : Nat) (K' : Nat → Bool), L_X2_findLacking_33 en (d + 3) (bt fr) (nI (v + 1)) s = some (none, s') ∧ cjV A E T W B R M fr N τ s' C' I' L' G' X' no' op' 0 tr' Q' K' ∧ ∀ u, u < N → W u = false → I' u ≠ 0 := fun hx => ih (v + 1) s C I L G X no op tr Q K (by omega) hV (fun u hu hw => by
      by_cases q : u = v
      · rw [q]; exact hx (by rw [← q]; exact hw)
      · exact hI u (by omega) hw)
    cases hw : W v
    · by_cases q : I v = 0
      · obtain ⟨s1, C1, I1, L1, G1, X1, no1, op1, tr1, Q1, K1, w1, w2, w3, w4⟩ := x_walkJ (en := en) (d := d) hH hV (show v < N by omega) q hw
        obtain ⟨s', C', I', L', G', X', no', op', tr', Q', K', y1, y2, y3⟩ := ih (v + 1) s1 C1 I1 L1 G1 X1 no1 op1 tr1 Q1 K1 (by omega) w2 (fun u hu hwu => by
          by_cases q' : u = v
          · rw [q']; exact w3
          · exact w4 u (hI u (by omega) hwu))
        refine ⟨s', C', I', L', G', X', no', op', tr', Q', K', le_X2_findLacking_33 en _ _ _ _ _ ?_, y2, y3⟩
        rw [(hG0.fr hF).2.2, if_neg (by rw [n_LE (by omega) (by omega)]; omega), e0, bI_some, hw, if_neg (show ¬ ¬ bt false = (0 : Int32) from not_not_intro rfl), gd_in (by omega) (by decide), n_cl (by omega), hP.2.1 v (by omega), if_neg (by rw [q]; exact not_not_intro rfl), w1, bV_some, show nI v + (1 : Int32) = nI (v + 1) from n_ar]
        exact y1
      · obtain ⟨s', C', I', L', G', X', no', op', tr', Q', K', y1, y2, y3⟩ := skip (fun _ => q)
        refine ⟨s', C', I', L', G', X', no', op', tr', Q', K', le_X2_findLacking_33 en _ _ _ _ _ ?_, y2, y3⟩
        rw [(hG0.fr hF).2.2, if_neg (by rw [n_LE (by omega) (by omega)]; omega), e0, bI_some, hw, if_neg (show ¬ ¬ bt false = (0 : Int32) from not_not_intro rfl), gd_in (by omega) (by decide), n_cl (by omega), hP.2.1 v (by omega), if_pos (by rw [n_eq (by decide) (by omega)]; exact q), show nI v + (1 : Int32) = nI (v + 1) from n_ar]
        exact y1
    · obtain ⟨s', C', I', L', G', X', no', op', tr', Q', K', y1, y2, y3⟩ := skip (fun h => by rw [hw] at h; exact Bool.noConfusion h)
      refine ⟨s', C', I', L', G', X', no', op', tr', Q', K', le_X2_findLacking_33 en _ _ _ _ _ ?_, y2, y3⟩
      rw [(hG0.fr hF).2.2, if_neg (by rw [n_LE (by omega) (by omega)]; omega), e0, bI_some, hw, if_pos (show ¬ bt true = (0 : Int32) by decide), show nI v + (1 : Int32) = nI (v + 1) from n_ar]
      exact y1
theorem x_findLacking (hH : cjH A E T M N τ) (h11 : τ.1 103 11 = 0) (hf : ∀ v, v < N → τ.1 104 v = fgV (W v) (B v) (R v) false) : ∃ (s' : qS) (K : Nat → Bool), qev en (d + 4) 26 [.ref 103, .int (bt fr)] τ = some (none, s') ∧ cjF τ s' ∧ s'.1 103 11 = 0 ∧ (∀ v, v < N → s'.1 104 v = fgV (W v) (B v) (R v) (K v)) ∧ ∀ v, v < N → (K v = true ↔ W v = false ∧ goJ A E T W M fr v) := by
  let s1 : qS := uIr τ 105 (flI (τ.1 105) 0 (ln 105))
  let s2 : qS := uIr s1 107 (flI (s1.1 107) 0 (ln 107))
  let s3 : qS := uI (uI (uI s2 103 9 0) 103 12 0) 103 10 0
  have e1 : qev en (d + 3) 435 [.ref 105, .int (0 : Int32)] τ = some (none, s1) := x_fillI (en := en) (d := d + 2) (z := 105) (v := 0) rfl (by decide)
  have e2 : qev en (d + 3) 435 [.ref 107, .int (0 : Int32)] s1 = some (none, s2) := x_fillI (en := en) (d := d + 2) (z := 107) (v := 0) rfl (by decide)
  have r3 : ∀ c, c ≠ 103 → c ≠ 105 → c ≠ 107 → s3.1 c = τ.1 c := fun c h1 h2 h3 => by
    show (uI (uI (uI s2 103 9 0) 103 12 0) 103 10 0).1 c = _
    rw [uI_ne h1, uI_ne h1, uI_ne h1]
    show (uIr s1 107 _).1 c = _
    rw [uIr_ne h3]
    show (uIr τ 105 _).1 c = _
    rw [uIr_ne h2]
  have q105 : ∀ v, v < 20000 → s3.1 105 v = 0 := fun v hv => by
    show (uI (uI (uI s2 103 9 0) 103 12 0) 103 10 0).1 105 v = _
    rw [uI_ne (by decide), uI_ne (by decide), uI_ne (by decide)]
    show (uIr s1 107 _).1 105 v = _
    rw [uIr_ne (by decide)]
    show (uIr τ 105 _).1 105 v = _
    rw [uIr_row]
    exact if_pos hv
  have q107 : ∀ v, v < 20000 → s3.1 107 v = 0 := fun v hv => by
    show (uI (uI (uI s2 103 9 0) 103 12 0) 103 10 0).1 107 v = _
    rw [uI_ne (by decide), uI_ne (by decide), uI_ne (by decide)]
    show (uIr s1 107 _).1 107 v = _
    rw [uIr_row]
    exact if_pos hv
  have hF : cjF τ s3 := ⟨fun c hc => r3 c (by omega) (by omega) (by omega), rfl⟩
  have hV : cjV A E T W B R M fr N τ s3 0 (fun _ => 0) (fun _ => 0) (fun _ => 0) (fun _ => 0) 0 (fun _ => 0) 0 (fun _ => 0) 0 (fun _ => false) := ⟨TJ.none (fun _ _ => rfl) (fun _ _ => rfl), hF, ⟨⟨rfl, rfl, h11, rfl⟩, q105, fun u hu hn => absurd rfl hn, q107, fun i hi => absurd hi (by omega), fun i hi => absurd hi (by omega)⟩, fun u hu => by rw [r3 104 (by decide) (by decide) (by decide)]; exact hf u hu, fun u hu => ⟨fun z => Bool.noConfusion z, fun z => absurd rfl z.1⟩, Nat.le_refl _⟩
  obtain ⟨s', C', I', L', G', X', no', op', tr', Q', K', y1, y2, y3⟩ := x_lackLoop (en := en) (d := d) hH N 0 s3 _ _ _ _ _ _ _ _ _ _ (by omega) hV (fun u hu => absurd hu (by omega))
  refine ⟨s', K', le_X2_findLacking en _ _ _ _ ?_, y2.2.1, y2.2.2.1.1.2.2.1, y2.2.2.2.1, fun u hu => ?_⟩
  · rw [e1, bV_some, e2, bV_some]
    exact y1
  · rw [y2.2.2.2.2.1 u hu]
    constructor
    · rintro ⟨z1, z2⟩
      exact ⟨y2.1.1.2.2.2.2 u hu (fun q => z1 (y2.1.1.2.2.2.1 u hu q)), z2⟩
    · rintro ⟨z1, z2⟩
      exact ⟨y2.1.all hu (y3 u hu z1), z2⟩
end LKT
