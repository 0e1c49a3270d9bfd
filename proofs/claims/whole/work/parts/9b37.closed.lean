/-! JUDGING, the class's side: close. -/
section CLM
variable {en : pN} {d N C no nn Q v k0 : Nat} {I L G X op tr A E T M : Nat → Nat} {s s' s'' τ : qS} {W B R K : Nat → Bool} {fr : Bool} {r : qR}
/-- what is open down to the root gets its group -/
theorem x_clPop (ho : ∀ i, i < no → op i < N) (hd : ∀ i j, i < j → j < no → op i ≠ op j) (hN : N ≤ 20000) (hno : no ≤ 20000) (hk : op k0 = v) (hv : v < 20000) :
    ∀ (m : Nat) (s : qS) (G : Nat → Nat), k0 + m < no → (∀ i, i < no → s.1 108 i = nI (op i)) → s.1 103 12 = nI (Q + 1) → (∀ u, u < 20000 → s.1 107 u = nI (G u)) → ∃ (s' : qS) (G' : Nat → Nat), (∀ r, L_X2_close_47 en d (bt fr) (nI k0) s' = some r → L_X2_close_15 en d (nI v) (bt fr) (nI (k0 + m + 1)) s = some r) ∧ (∀ c, c ≠ 107 → s'.1 c = s.1 c) ∧ s'.2 = s.2 ∧ (∀ u, u < 20000 → s'.1 107 u = nI (G' u)) ∧ (∀ i, k0 ≤ i → i < k0 + m + 1 → G' (op i) = Q + 1) ∧ ∀ u, (∀ i, k0 ≤ i → i < k0 + m + 1 → op i ≠ u) → G' u = G u := by
  intro m
  induction m with
  | zero =>
    intro s G hm h8 h12 h7
    have o := ho k0 (by omega)
    refine ⟨uI s 107 (op k0) (nI (Q + 1)), at1 G (op k0) (Q + 1), fun r hr => le_X2_close_15 en _ _ _ _ _ _ ?_, fun c hc => uI_ne hc, rfl, fun u hu => ?_, fun i h1 h2 => ?_, fun u hu => at1_n (fun q => hu k0 (Nat.le_refl _) (by omega) q.symm)⟩
    · rw [n_cm1, gd_in (by omega) (by decide), n_cl (by omega), h8 k0 (by omega), gd_in (by omega) (by decide), n_cl (by omega), h12, nm_eq, uI_ne (by decide), h8 k0 (by omega), hk]
      rw [hk] at hr
      by_cases q : k0 = 0
      · rw [if_pos (by rw [q]; decide)]; exact hr
      · rw [if_neg (by rw [n_ge (by decide) (by omega)]; omega), if_neg (not_not_intro rfl)]; exact hr
    · rw [rdU]
      by_cases q : u = op k0
      · rw [if_pos ⟨rfl, q⟩, q, at1_s]
      · rw [if_neg (fun z => q z.2), at1_n q]; exact h7 u hu
    · rw [show i = k0 by omega, at1_s]
  | succ m ih =>
    intro s G hm h8 h12 h7
    have o := ho (k0 + (m + 1)) (by omega)
    obtain ⟨s', G', e1, e2, e3, e4, e5, e6⟩ := ih (uI s 107 (op (k0 + (m + 1))) (nI (Q + 1))) (at1 G (op (k0 + (m + 1))) (Q + 1)) (by omega) (fun i hi => by rw [uI_ne (by decide)]; exact h8 i hi) (by rw [uI_ne (by decide)]; exact h12) (fun u hu => by
      rw [rdU]
      by_cases q : u = op (k0 + (m + 1))
      · rw [if_pos ⟨rfl, q⟩, q, at1_s]
      · rw [if_neg (fun z => q z.2), at1_n q]; exact h7 u hu)
    refine ⟨s', G', fun r hr => le_X2_close_15 en _ _ _ _ _ _ ?_, fun c hc => (e2 c hc).trans (uI_ne hc), e3, e4, fun i h1 h2 => ?_, fun u hu => ?_⟩
    · rw [n_cm1, gd_in (by omega) (by decide), n_cl (by omega), h8 _ (by omega), gd_in (by omega) (by decide), n_cl (by omega), h12, nm_eq, uI_ne (by decide), h8 _ (by omega), if_neg (by rw [n_ge (by decide) (by omega)]; omega), if_pos (by rw [n_EQ (by omega) (by omega), ← hk]; exact fun q => hd k0 (k0 + (m + 1)) (by omega) (by omega) q.symm)]
      exact e1 r hr
    · by_cases q : i = k0 + (m + 1)
      · rw [e6 (op i) (fun j h3 h4 => hd j i (by omega) (by omega)), q, at1_s]
      · exact e5 i h1 (by omega)
    · rw [e6 u (fun i h1 h2 => hu i h1 (by omega))]
      exact at1_n (fun q => hu (k0 + (m + 1)) (by omega) (by omega) q.symm)
/-- the flags of a group that is lacking -/
theorem x_clFlags (ho : ∀ i, i < no → op i < N) (hN : N ≤ 20000) (hno : no ≤ 20000) {v3 : Int32} {j0 : Nat} :
    ∀ (m i : Nat) (s : qS) (K : Nat → Bool), i + m = no → j0 ≤ i → s.1 103 10 = nI no → (∀ i, i < no → s.1 108 i = nI (op i)) → (∀ v, v < N → s.1 104 v = fgV (W v) (B v) (R v) (K v)) → ∃ (s' : qS) (K' : Nat → Bool), (∀ r, L_X2_close_306 en d v3 s' = some r → L_X2_close_269 en d v3 1 (nI i) s = some r) ∧ (∀ c, c ≠ 104 → s'.1 c = s.1 c) ∧ s'.2 = s.2 ∧ (∀ v, v < N → s'.1 104 v = fgV (W v) (B v) (R v) (K' v)) ∧ (∀ j, i ≤ j → j < no → K' (op j) = true) ∧ ∀ u, (∀ j, i ≤ j → j < no → op j ≠ u) → K' u = K u := by
  intro m
  induction m with
  | zero =>
    intro i s K hi hj h10 h8 hf
    refine ⟨s, K, fun r hr => le_X2_close_269 en _ _ _ _ _ _ ?_, fun _ _ => rfl, rfl, hf, fun j h1 h2 => absurd h2 (by omega), fun _ _ => rfl⟩
    rw [h10, if_pos (by rw [n_LE (by omega) (by omega)]; omega)]
    exact hr
  | succ m ih =>
    intro i s K hi hj h10 h8 hf
    have o := ho i (by omega)
    obtain ⟨s', K', e1, e2, e3, e4, e5, e6⟩ := ih (i + 1) (uI s 104 (op i) (fgV (W (op i)) (B (op i)) (R (op i)) true)) (at1 K (op i) true) (by omega) (by omega) (by rw [uI_ne (by decide)]; exact h10) (fun j hj => by rw [uI_ne (by decide)]; exact h8 j hj) (fun u hu => by
      rw [rdU]
      by_cases q : u = op i
      · rw [if_pos ⟨rfl, q⟩, q, at1_s]
      · rw [if_neg (fun z => q z.2), at1_n q]; exact hf u hu)
    refine ⟨s', K', fun r hr => le_X2_close_269 en _ _ _ _ _ _ ?_, fun c hc => (e2 c hc).trans (uI_ne hc), e3, e4, fun j h1 h2 => ?_, fun u hu => ?_⟩
    · rw [h10, if_neg (by rw [n_LE (by omega) (by omega)]; omega), if_neg (by decide), gd_in (by omega) (by decide), n_cl (by omega), h8 i (by omega), gd_in (by omega) (by decide), n_cl (by omega), hf _ o, fg_o8, nm_eq, show nI i + (1 : Int32) = nI (i + 1) from n_ar]
      exact e1 r hr
    · by_cases q : j = i
      · by_cases q' : ∀ j', i + 1 ≤ j' → j' < no → op j' ≠ op j
        · rw [e6 _ q', q, at1_s]
        · obtain ⟨j', h⟩ := Classical.not_forall.mp q'
          obtain ⟨h3, h⟩ := Classical.not_imp.mp h
          obtain ⟨h4, h⟩ := Classical.not_imp.mp h
          rw [← Classical.not_not.mp h]
          exact e5 j' h3 h4
      · exact e5 j (by omega) h2
    · rw [e6 u (fun j h1 h2 => hu j (by omega) h2)]
      exact at1_n (fun q => hu i (Nat.le_refl _) (by omega) q.symm)
/-- what makes a group lacking -/
abbrev lkG (A E T M : Nat → Nat) (K : Nat → Bool) (fr : Bool) (G' : Nat → Nat) (op : Nat → Nat) (k0 no g : Nat) : Prop := (∃ i, k0 ≤ i ∧ i < no ∧ M (op i) % 16 = 0) ∨ grE A E op k0 no (fun e => K (E e) = true) ∨ (grE A E op k0 no (fun e => G' (E e) = g) ∧ (fr = false ∨ ∀ t, t < 4 → (∃ i, k0 ≤ i ∧ i < no ∧ ¬ (M (op i)).testBit t = true) ∨ grE A E op k0 no (fun e => G' (E e) = g ∧ T e / 10 = t)))
theorem x_closeJ (hN : N ≤ 20000) (hAN : A N ≤ 200000) (hA : ∀ i j, i ≤ j → j ≤ N → A i ≤ A j) (hG : cjG A E T N s) (h : cjP s N C I L G X no op nn tr Q) (hGb : ∀ v, v < N → G v ≤ Q) (hQb : Q < 20000) (hf : ∀ v, v < N → s.1 104 v = fgV (W v) (B v) (R v) (K v)) (hM : ∀ v, v < N → s.1 93 v = nI (M v)) (hMb : ∀ v, v < N → M v < 2 ^ 30) (ho : ∀ i, i < no → op i < N) (hd : ∀ i j, i < j → j < no → op i ≠ op j) (hno : no ≤ 20000) (hk0 : k0 < no) (hk : op k0 = v) :
    ∃ (s' : qS) (G' : Nat → Nat) (bL : Bool) (K' : Nat → Bool), qev en (d + 2) 30 [.ref 103, .int (nI v), .int (bt fr)] s = some (none, s') ∧ cjF s s' ∧ cjP s' N C I L G' X k0 op nn tr (Q + 1) ∧ (∀ i, k0 ≤ i → i < no → G' (op i) = Q + 1) ∧ (∀ u, (∀ i, k0 ≤ i → i < no → op i ≠ u) → G' u = G u) ∧ (bL = true ↔ lkG A E T M K fr G' op k0 no (Q + 1)) ∧ (∀ v, v < N → s'.1 104 v = fgV (W v) (B v) (R v) (K' v)) ∧ (∀ i, k0 ≤ i → i < no → K' (op i) = (K (op i) || bL)) ∧ ∀ u, (∀ i, k0 ≤ i → i < no → op i ≠ u) → K' u = K u := by
  obtain ⟨⟨h9, h10, h11, h12⟩, hI, hL, hg, ho8, ht⟩ := h
  have hv : v < N := by rw [← hk]; exact ho k0 hk0
  let s1 : qS := uI s 103 12 (nI (Q + 1))
  have b1 : ∀ c, c ≠ 103 → s1.1 c = s.1 c := fun c hc => uI_ne hc
  obtain ⟨s2, G', e1, e2, e3, e4, e5, e6⟩ := x_clPop (en := en) (d := d + 1) (Q := Q) (fr := fr) ho hd hN hno hk (by omega) (no - 1 - k0) s1 G (by omega) (fun i hi => by rw [b1 108 (by decide)]; exact ho8 i hi) rfl (fun u hu => by rw [b1 107 (by decide)]; exact hg u hu)
  rw [show k0 + (no - 1 - k0) + 1 = no by omega] at e1 e5 e6
  have s2r : ∀ c, c ≠ 107 → c ≠ 103 → s2.1 c = s.1 c := fun c h1 h2 => (e2 c h1).trans (b1 c h2)
  have s2f : ∀ j, s2.1 103 j = if j = 12 then nI (Q + 1) else s.1 103 j := fun j => by
    rw [e2 103 (by decide)]
    show (uI s 103 12 (nI (Q + 1))).1 103 j = _
    rw [rdU]
    by_cases q : j = 12
    · rw [if_pos ⟨rfl, q⟩, if_pos q]
    · rw [if_neg (fun z => q z.2), if_neg q]
  have gIn : ∀ u, u < N → G' u ≤ Q + 1 := fun u hu => by
    by_cases q : ∀ i, k0 ≤ i → i < no → op i ≠ u
    · rw [e6 u q]; exact Nat.le_succ_of_le (hGb u hu)
    · obtain ⟨j', h⟩ := Classical.not_forall.mp q
      obtain ⟨h3, h⟩ := Classical.not_imp.mp h
      obtain ⟨h4, h⟩ := Classical.not_imp.mp h
      rw [← Classical.not_not.mp h, e5 j' h3 h4]
      exact Nat.le_refl _
  have hG2 : cjG A E T N s2 := ⟨fun i hi => by rw [s2r 92 (by decide) (by decide)]; exact hG.1 i hi, fun e he => by rw [s2r 90 (by decide) (by decide)]; exact hG.2.1 e he, by rw [s2r 83 (by decide) (by decide)]; exact hG.2.2⟩
  have hf2 : ∀ v, v < N → s2.1 104 v = fgV (W v) (B v) (R v) (K v) := fun u hu => by rw [s2r 104 (by decide) (by decide)]; exact hf u hu
  have fst : ∀ r, L_X2_close_59 en (d + 1) (bt fr) (nI k0) (bt false) (bt false) 0 (nI k0) s2 = some r → qev en (d + 2) 30 [.ref 103, .int (nI v), .int (bt fr)] s = some r := by
    intro r hr
    refine le_X2_close en _ _ _ _ _ ?_
    rw [h12, show nI Q + (1 : Int32) = nI (Q + 1) from n_ar, nm_eq, show (uI s 103 12 (nI (Q + 1))).1 103 10 = s.1 103 10 from rfl, h10]
    refine e1 r ?_
    refine le_X2_close_47 en _ _ _ _ _ ?_
    exact hr
  have h10' : s2.1 103 10 = nI no := by rw [s2f 10, if_neg (by decide)]; exact h10
  have h8' : ∀ i, i < no → s2.1 108 i = nI (op i) := fun i hi => by rw [s2r 108 (by decide) (by decide)]; exact ho8 i hi
  -- what is lacking
  obtain ⟨bL, hbL⟩ : ∃ bL : Bool, bL = true ↔ lkG A E T M K fr G' op k0 no (Q + 1) := ⟨@decide _ (Classical.propDecidable _), @decide_eq_true_iff _ (Classical.propDecidable _)⟩
  have z0 : ∀ t, ¬ bI' (0 : Int32) t := fun t h => by
    unfold bI' at h
    rw [show (0 : Int32) = nI 0 from rfl, nI_bit (by decide), Nat.zero_testBit] at h
    exact Bool.noConfusion h
  have snd : ∀ r, L_X2_close_269 en (d + 1) (nI k0) (bt bL) (nI k0) s2 = some r → L_X2_close_59 en (d + 1) (bt fr) (nI k0) (bt false) (bt false) 0 (nI k0) s2 = some r := by
    intro r hr
    refine x_clStates (K := K) (M := M) (G' := G') (Q := Q) (op := op) hN hAN hA hG2 e4 (fun u hu => Nat.le_trans (gIn u hu) (by omega)) (by rw [s2f 12, if_pos rfl]) hQb hf2 (fun u hu => by rw [s2r 93 (by decide) (by decide)]; exact hM u hu) hMb h10' (fun i hi => ⟨h8' i hi, ho i hi⟩) hno (fun b hb => ?_) (no - k0) k0 false false 0 (Nat.le_refl _) (by omega) ?_ ?_ (fun t ht => ?_)
    · rw [show b = bL from Bool.eq_iff_iff.mpr (hb.trans hbL.symm)]; exact hr
    · exact ⟨fun z => Bool.noConfusion z, fun z => z.elim (fun ⟨j, h1, h2, _⟩ => absurd h2 (by omega)) (fun ⟨j, h1, h2, _⟩ => absurd h2 (by omega))⟩
    · exact ⟨fun z => Bool.noConfusion z, fun ⟨j, h1, h2, _⟩ => absurd h2 (by omega)⟩
    · exact ⟨fun z => absurd z (z0 t), fun z => z.elim (fun ⟨j, h1, h2, _⟩ => absurd h2 (by omega)) (fun ⟨j, h1, h2, _⟩ => absurd h2 (by omega))⟩
  -- the flags
  have last : ∀ (s3 : qS) (K' : Nat → Bool), (∀ r, L_X2_close_306 en (d + 1) (nI k0) s3 = some r → L_X2_close_269 en (d + 1) (nI k0) (bt bL) (nI k0) s2 = some r) → (∀ c, c ≠ 104 → s3.1 c = s2.1 c) → s3.2 = s2.2 → (∀ v, v < N → s3.1 104 v = fgV (W v) (B v) (R v) (K' v)) → (∀ i, k0 ≤ i → i < no → K' (op i) = (K (op i) || bL)) → (∀ u, (∀ i, k0 ≤ i → i < no → op i ≠ u) → K' u = K u) → ∃ (s' : qS) (G' : Nat → Nat) (bL : Bool) (K' : Nat → Bool), qev en (d + 2) 30 [.ref 103, .int (nI v), .int (bt fr)] s = some (none, s') ∧ cjF s s' ∧ cjP s' N C I L G' X k0 op nn tr (Q + 1) ∧ (∀ i, k0 ≤ i → i < no → G' (op i) = Q + 1) ∧ (∀ u, (∀ i, k0 ≤ i → i < no → op i ≠ u) → G' u = G u) ∧ (bL = true ↔ lkG A E T M K fr G' op k0 no (Q + 1)) ∧ (∀ v, v < N → s'.1 104 v = fgV (W v) (B v) (R v) (K' v)) ∧ (∀ i, k0 ≤ i → i < no → K' (op i) = (K (op i) || bL)) ∧ ∀ u, (∀ i, k0 ≤ i → i < no → op i ≠ u) → K' u = K u := by
    intro s3 K' r1 r2 r3 r4 r5 r6
    have s3r : ∀ c, c ≠ 104 → c ≠ 107 → c ≠ 103 → s3.1 c = s.1 c := fun c x y z => (r2 c x).trans (s2r c y z)
    have s3f : ∀ j, s3.1 103 j = if j = 12 then nI (Q + 1) else s.1 103 j := fun j => by rw [r2 103 (by decide)]; exact s2f j
    let s4 : qS := uI s3 103 10 (nI k0)
    have s4r : ∀ c, c ≠ 103 → s4.1 c = s3.1 c := fun c hc => uI_ne hc
    have s4f : ∀ j, s4.1 103 j = if j = 10 then nI k0 else s3.1 103 j := fun j => by
      show (uI s3 103 10 (nI k0)).1 103 j = _
      rw [rdU]
      by_cases q : j = 10
      · rw [if_pos ⟨rfl, q⟩, if_pos q]
      · rw [if_neg (fun z => q z.2), if_neg q]
    refine ⟨s4, G', bL, K', fst _ (snd _ (r1 _ (le_X2_close_306 en _ _ _ _ rfl))), ⟨fun c hc => ?_, ?_⟩, ⟨⟨?_, ?_, ?_, ?_⟩, fun u hu => ?_, fun u hu hn => ?_, fun u hu => ?_, fun i hi => ?_, fun i hi => ?_⟩, e5, e6, hbL, fun u hu => ?_, r5, r6⟩
    · rw [s4r c (by omega), s3r c (by omega) (by omega) (by omega)]
    · show s3.2 = s.2
      rw [r3, e3]
      rfl
    · rw [s4f, if_neg (by decide), s3f, if_neg (by decide)]; exact h9
    · rw [s4f, if_pos rfl]
    · rw [s4f, if_neg (by decide), s3f, if_neg (by decide)]; exact h11
    · rw [s4f, if_neg (by decide), s3f, if_pos rfl]
    · rw [s4r 105 (by decide), s3r 105 (by decide) (by decide) (by decide)]; exact hI u hu
    · rw [s4r 106 (by decide), s3r 106 (by decide) (by decide) (by decide), s4r 110 (by decide), s3r 110 (by decide) (by decide) (by decide)]; exact hL u hu hn
    · rw [s4r 107 (by decide), r2 107 (by decide)]; exact e4 u hu
    · rw [s4r 108 (by decide), s3r 108 (by decide) (by decide) (by decide)]; exact ho8 i (by omega)
    · rw [s4r 109 (by decide), s3r 109 (by decide) (by decide) (by decide)]; exact ht i hi
    · rw [s4r 104 (by decide)]; exact r4 u hu
  cases hb : bL
  · refine last s2 K (fun r hr => ?_) (fun _ _ => rfl) rfl hf2 (fun i _ _ => by rw [hb, Bool.or_false]) (fun _ _ => rfl)
    rw [hb]
    refine le_X2_close_269 en _ _ _ _ _ _ ?_
    rw [h10', if_neg (by rw [n_LE (by omega) (by omega)]; omega), if_pos (show bt false = (0 : Int32) from rfl)]
    exact hr
  · obtain ⟨s3, K', r1, r2, r3, r4, r5, r6⟩ := x_clFlags (en := en) (d := d + 1) (v3 := nI k0) (j0 := k0) ho hN hno (no - k0) k0 s2 K (by omega) (Nat.le_refl _) h10' h8' hf2
    exact last s3 K' (fun r hr => by rw [hb]; exact r1 r hr) r2 r3 r4 (fun i h1 h2 => by rw [hb, Bool.or_true]; exact r5 i h1 h2) r6
end CLM
