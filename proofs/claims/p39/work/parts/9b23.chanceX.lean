/-! CHANCES, the class's side: the count. -/
section CHV
variable {en : pN} {d p nc nl nt n t k r m o : Nat} {P : Nat → fI} {σ σ' σ0 s : qS} {F F' F0 N G : fI} {b : Int32} {L : Nat → Nat} {X : xT} {f : Nat → Nat}
theorem row_cnt {dd : Nat} {h : Nat → Nat → Nat} (hd : 1 ≤ dd ∧ dd ≤ 3) : (if dd = 1 then smN (fun i => rowC dd k (0 + i) h) 1 else smN (fun i => rowC dd k (1 + i) h) k) = cntC dd k h := by
  unfold cntC
  by_cases d1 : dd = 1
  · rw [if_pos d1, if_pos d1]
    show 0 + rowC dd k (0 + 0) h = _
    unfold rowC
    rw [if_pos (by omega), Nat.zero_add]
  · rw [if_neg d1, if_neg d1]
    by_cases d2 : dd = 2
    · rw [if_pos d2]
      refine smN_cg fun i _ => ?_
      unfold rowC
      rw [if_pos (by omega), Nat.add_comm]
    · rw [if_neg d2]
      refine smN_cg fun i hi => ?_
      unfold rowC
      rw [if_neg (by omega), show k + 1 - (1 + i) = k - i by omega]
      exact smN_cg fun j _ => by rw [Nat.add_comm 1 i]
theorem x_c64 (hBx : MBx P nc nl nt n) (hP : PV P nc nl nt n) (hX : XV P 0 nc nl nt n X) (hin : ∀ c, c < nc → inR (P 4 c)) (ho : o < (outL P 0 nt (xS X) (xN X)).length) {dd k lone lo : Nat} (hk : k ≤ 12) (hd : 1 ≤ dd ∧ dd ≤ 3) (h1 : lone = if dd = 1 then 0 else k) (h2 : lo = if dd ≤ 2 then 0 else k) :
    ∀ (m code many : Nat) (s : qS), code + m = facN nt → drS P nc nl nt n p X σ0 F0 s → ∃ s', drS P nc nl nt n p X σ0 F0 s' ∧ L_X10_countChances_64 en (d + 7) (nI o) (nI dd) (nI (facN nt)) (nI lone) (nI lo) (nI many) (nI code) s = some (some (.int (nI (many + smN (fun i => cntC dd k (hitN P nt (fst0 P 0 nc nt (fun _ => 0)) (xS X (oK P 0 nt X o)) (arrL nt (code + i)))) m))), s') := by
  have ht4 := hP.2.2.1.2
  have hfac : facN nt ≤ 24 := by
    have : nt = 0 ∨ nt = 1 ∨ nt = 2 ∨ nt = 3 ∨ nt = 4 := by omega
    rcases this with z | z | z | z | z <;> subst z <;> decide
  intro m
  induction m with
  | zero =>
    intro code many s hj hs
    refine ⟨s, hs, le_X10_countChances_64 en _ _ _ _ _ _ _ _ _ _ ?_⟩
    rw [if_pos (by rw [n_LE (by omega) (by omega)]; omega)]
    rfl
  | succ m ih =>
    intro code many s hj hs
    have hc := row_cnt (k := k) (dd := dd) (h := hitN P nt (fst0 P 0 nc nt (fun _ => 0)) (xS X (oK P 0 nt X o)) (arrL nt code)) hd
    have inner : ∃ s1, drS P nc nl nt n p X σ0 F0 s1 ∧ ∀ r, L_X10_countChances_64 en (d + 7) (nI o) (nI dd) (nI (facN nt)) (nI lone) (nI lo) (nI (many + cntC dd k (hitN P nt (fst0 P 0 nc nt (fun _ => 0)) (xS X (oK P 0 nt X o)) (arrL nt code)))) (nI (code + 1)) s1 = some r → L_X10_countChances_64 en (d + 7) (nI o) (nI dd) (nI (facN nt)) (nI lone) (nI lo) (nI many) (nI code) s = some r := by
      by_cases d1 : dd = 1
      · rw [if_pos d1] at hc
        have hl0 : lone = 0 := by rw [h1, if_pos d1]
        obtain ⟨s1, a1, a2⟩ := x_c83 (en := en) (d := d) (q4 := nI (facN nt)) hBx hP hX hin ho (dd := dd) (k := k) (lone := lone) (lo := lo) (code := code) hk (by omega) h2 hd.2 (by omega) (Or.inl (by omega)) 1 0 many s (by omega) (Or.inl (by omega)) hs
        refine ⟨s1, a1, fun r hr => le_X10_countChances_64 en _ _ _ _ _ _ _ _ _ _ ?_⟩
        rw [if_neg (by rw [n_LE (by omega) (by omega)]; omega), if_pos (by rw [show (1 : Int32) = nI 1 from rfl, n_LE (by omega) (by omega)]; omega)]
        refine a2 r ?_
        rw [hc]
        exact hr
      · rw [if_neg d1] at hc
        have hl0 : lone = k := by rw [h1, if_neg d1]
        obtain ⟨s1, a1, a2⟩ := x_c83 (en := en) (d := d) (q4 := nI (facN nt)) hBx hP hX hin ho (dd := dd) (k := k) (lone := lone) (lo := lo) (code := code) hk (by omega) h2 hd.2 (by omega) (Or.inr hl0) k 1 many s (by omega) (Or.inr (Nat.le_refl _)) hs
        refine ⟨s1, a1, fun r hr => le_X10_countChances_64 en _ _ _ _ _ _ _ _ _ _ ?_⟩
        rw [if_neg (by rw [n_LE (by omega) (by omega)]; omega), if_neg (by rw [show (1 : Int32) = nI 1 from rfl, n_LE (by omega) (by omega)]; omega)]
        refine a2 r ?_
        rw [hc]
        exact hr
    obtain ⟨s1, hs1, hi1⟩ := inner
    obtain ⟨s2, hs2, hi2⟩ := ih (code + 1) (many + cntC dd k (hitN P nt (fst0 P 0 nc nt (fun _ => 0)) (xS X (oK P 0 nt X o)) (arrL nt code))) s1 (by omega) hs1
    refine ⟨s2, hs2, hi1 _ ?_⟩
    rw [hi2, smN_hd]
    have e : many + cntC dd k (hitN P nt (fst0 P 0 nc nt (fun _ => 0)) (xS X (oK P 0 nt X o)) (arrL nt code)) + smN (fun i => cntC dd k (hitN P nt (fst0 P 0 nc nt (fun _ => 0)) (xS X (oK P 0 nt X o)) (arrL nt (code + 1 + i)))) m = many + (cntC dd k (hitN P nt (fst0 P 0 nc nt (fun _ => 0)) (xS X (oK P 0 nt X o)) (arrL nt (code + 0))) + smN (fun i => cntC dd k (hitN P nt (fst0 P 0 nc nt (fun _ => 0)) (xS X (oK P 0 nt X o)) (arrL nt (code + (i + 1))))) m) := by
      rw [Nat.add_zero, Nat.add_assoc]
      congr 2
      exact smN_cg fun i _ => by rw [show code + 1 + i = code + (i + 1) by omega]
    rw [e]
/-- the chances of an outcome -/
noncomputable def chnN (P : Nat → fI) (nc nt : Nat) (X : xT) (o dd k : Nat) : Nat := smN (fun i => cntC dd k (hitN P nt (fst0 P 0 nc nt (fun _ => 0)) (xS X (oK P 0 nt X o)) (arrL nt i))) (facN nt)
theorem drS_22 (h : drS P nc nl nt n p X σ0 F0 s) : (p = 11 ∨ p = 36) ∧ s.2.2 71 7 = p + 1 ∧ (PV P nc nl nt n → s.1 p 11 = nI nt) := by
  obtain ⟨σ, F, N, b, G, rfl, hI, -⟩ := h
  exact ⟨hI.1.2.1, hI.1.2.2.1, fun hP => xb_nt hI.1 hP⟩
theorem x_counts (hBx : MBx P nc nl nt n) (hP : PV P nc nl nt n) (hX : XV P 0 nc nl nt n X) (hin : ∀ c, c < nc → inR (P 4 c)) (ho : o < (outL P 0 nt (xS X) (xN X)).length) {dd k : Nat} (hk : k ≤ 12) (hd : 1 ≤ dd ∧ dd ≤ 3) (hs : drS P nc nl nt n p X σ0 F0 s) : ∃ s', drS P nc nl nt n p X σ0 F0 s' ∧ qev en (d + 8) 196 [.ref 70, .int (nI o), .int (nI dd), .int (nI k)] s = some (some (.int (nI (chnN P nc nt X o dd k))), s') := by
  have ht4 := hP.2.2.1.2
  obtain ⟨hp, h22, hnt⟩ := drS_22 hs
  have hnt := hnt hP
  obtain ⟨s', a1, a2⟩ := x_c64 (en := en) (d := d) hBx hP hX hin ho (dd := dd) (k := k) hk hd rfl rfl (facN nt) 0 0 s (by omega) hs
  have e0 : 0 + smN (fun i => cntC dd k (hitN P nt (fst0 P 0 nc nt (fun _ => 0)) (xS X (oK P 0 nt X o)) (arrL nt (0 + i)))) (facN nt) = chnN P nc nt X o dd k := by
    rw [Nat.zero_add]
    exact smN_cg fun i _ => by rw [Nat.zero_add]
  rw [e0] at a2
  have l44 : ∀ x, x = (if dd = 1 then 0 else k) → L_X10_countChances_44 en (d + 7) (nI o) (nI dd) (nI k) (nI (facN nt)) (nI x) s = some (some (.int (nI (chnN P nc nt X o dd k))), s') := fun x hx => by
    refine le_X10_countChances_44 en _ _ _ _ _ _ _ _ ?_
    rw [hx]
    by_cases d2 : dd ≤ 2
    · rw [if_pos (by rw [show (2 : Int32) = nI 2 from rfl, n_LE (by omega) (by omega)]; exact d2)]
      rw [if_pos d2] at a2
      exact a2
    · rw [if_neg (by rw [show (2 : Int32) = nI 2 from rfl, n_LE (by omega) (by omega)]; exact d2)]
      rw [if_neg d2] at a2
      exact a2
  have l6 : ∀ m t, t + m = nt + 1 → 2 ≤ t → L_X10_countChances_6 en (d + 7) (nI o) (nI dd) (nI k) (nI (facN (t - 1))) (nI t) s = some (some (.int (nI (chnN P nc nt X o dd k))), s') := by
    intro m
    induction m with
    | zero =>
      intro t ht _
      refine le_X10_countChances_6 en _ _ _ _ _ _ _ _ ?_
      rw [h22, gd_true ⟨by omega, by rcases hp with z | z <;> subst z <;> rfl⟩, nm_eq, Nat.add_sub_cancel, hnt, if_pos (by rw [n_LT (by omega) (by omega)]; omega), show t - 1 = nt by omega]
      by_cases d1 : dd = 1
      · rw [if_pos (by rw [show (1 : Int32) = nI 1 from rfl, n_LE (by omega) (by omega)]; omega)]
        exact l44 0 (by rw [if_pos d1])
      · rw [if_neg (by rw [show (1 : Int32) = nI 1 from rfl, n_LE (by omega) (by omega)]; omega)]
        exact l44 k (by rw [if_neg d1])
    | succ m ih =>
      intro t ht h2
      refine le_X10_countChances_6 en _ _ _ _ _ _ _ _ ?_
      rw [h22, gd_true ⟨by omega, by rcases hp with z | z <;> subst z <;> rfl⟩, nm_eq, Nat.add_sub_cancel, hnt, if_neg (by rw [n_LT (by omega) (by omega)]; omega), n_mul, show nI t + (1 : Int32) = nI (t + 1) from n_ar]
      have e : facN (t - 1) * t = facN (t + 1 - 1) := by
        rw [Nat.add_sub_cancel]
        have e2 : t = (t - 1) + 1 := by omega
        have : facN t = t * facN (t - 1) := by
          rw [e2]; rfl
        rw [this, Nat.mul_comm]
      rw [e]
      exact ih (t + 1) (by omega) (by omega)
  refine ⟨s', a1, le_X10_countChances en _ _ _ _ _ _ ?_⟩
  by_cases q : nt = 0
  · subst q
    refine le_X10_countChances_6 en _ _ _ _ _ _ _ _ ?_
    rw [h22, gd_true ⟨by omega, by rcases hp with z | z <;> subst z <;> rfl⟩, nm_eq, Nat.add_sub_cancel, hnt, if_pos (by decide)]
    by_cases d1 : dd = 1
    · rw [if_pos (by rw [show (1 : Int32) = nI 1 from rfl, n_LE (by omega) (by omega)]; omega)]
      exact l44 0 (by rw [if_pos d1])
    · rw [if_neg (by rw [show (1 : Int32) = nI 1 from rfl, n_LE (by omega) (by omega)]; omega)]
      exact l44 k (by rw [if_neg d1])
  · exact l6 (nt - 1) 2 (by omega) (Nat.le_refl _)
end CHV

