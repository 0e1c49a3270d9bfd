/-! CHANCES, the class's side: a drawn run. -/
/-- what the class's picture needs for drawn runs -/
abbrev drI (P : Nat → fI) (nc nl nt p : Nat) (X : xT) (σ : qS) (F : fI) : Prop := XB σ 71 p P ∧ slI σ 71 F (slA P 0 nc nl nt) ∧ F 8 = nI 0 ∧ RW σ 87 84 88 89 15 (outL P 0 nt (xS X) (xN X)).length ((slO P nc nt).length / 2) 20000 (fun i => (outL P 0 nt (xS X) (xN X)).getD i 0 * ((slA P 0 nc nl nt).length / 2)) (fun i => pkR (slO P nc nt) (cnS nt (xS X ((outL P 0 nt (xS X) (xN X)).getD i 0))))
section CHY
variable {en : pN} {d p nc nl nt n t k r m o : Nat} {P : Nat → fI} {σ σ' σ'' s : qS} {F F' N G : fI} {b : Int32} {L : Nat → Nat} {X : xT}
theorem drI.fr (h : drI P nc nl nt p X σ F) (g : drF σ σ') (hF : ∀ j, j ≠ 9 → j ≠ 10 → j ≠ 11 → j ≠ 12 → F' j = F j) : drI P nc nl nt p X σ' F' := by
  obtain ⟨h1, h2, h3, h4⟩ := h
  have hp := h1.2.1
  exact ⟨xb_fr h1 (fun x hx => g.1 x (by omega)) g.2.2, ⟨by rw [hF 5 (by decide) (by decide) (by decide) (by decide)]; exact h2.1, h2.2.1, h2.2.2.1, fun i hi => by rw [g.1 (71 + 4) (by decide)]; exact h2.2.2.2.1 i hi, h2.2.2.2.2⟩, by rw [hF 8 (by decide) (by decide) (by decide) (by decide)]; exact h3, rw87m h4 (fun c hc => g.1 c (by omega)) (g.2.1 84 (by decide))⟩
theorem x_draw23 (hP : PV P nc nl nt n) (hX : XV P 0 nc nl nt n X) (ho : o < (outL P 0 nt (xS X) (xN X)).length) {one oth : Nat} (h1 : one < 2 ^ 30) (h2 : oth < 2 ^ 30) :
    ∀ (u k : Nat) (L : Nat → Nat) (σ : qS) (F N : fI) (b : Int32) (G : fI), u + k = 201 → drI P nc nl nt p X σ F → SV P 0 nc nl nt n N → N 235 = 0 → PL nt L → (∀ i, i < nt → σ.1 95 i = nI (L i)) →
    ∃ (v : Int32) (σ' : qS) (F' N' : fI) (b' : Int32) (G' : fI), L_X10_drawnOutcome_23 en (d + 6) (nI one) (nI oth) (nI k) (mS σ 71 F N b G) = some (some (.int v), mS σ' 71 F' N' b' G') ∧ drF σ σ' ∧ (∀ j, j ≠ 9 → j ≠ 10 → j ≠ 11 → j ≠ 12 → F' j = F j) ∧ SV P 0 nc nl nt n N' ∧ N' 235 = 0 ∧ (v = nI o ↔ ∃ N1, rnF P nt one oth u k L N = some N1 ∧ eqO nt (xS X (oK P 0 nt X o)) N1) := by
  have ht4 := hP.2.2.1.2
  have hlim := @lim_le 0
  have hxN := hX.1
  have hol := outL_len (P := P) (w := 0) (nt := nt) (S := xS X) (xN X)
  intro u
  induction u with
  | zero =>
    intro k L σ F N b G hk hI hS h0 hL h95
    refine ⟨-1, σ, F, N, b, G, le_X10_drawnOutcome_23 en _ _ _ _ _ _ ?_, drF.rf, fun _ _ _ _ _ => rfl, hS, h0, ?_⟩
    · rw [if_pos (by rw [show (200 : Int32) = nI 200 from rfl, n_LT (by omega) (by omega)]; omega)]
    · constructor
      · intro z
        have := n_1m (a := o) (by omega)
        rw [this] at z
        exact absurd z (fun y => y)
      · rintro ⟨N1, z, -⟩; cases z
  | succ u ih =>
    intro k L σ F N b G hk hI hS h0 hL h95
    obtain ⟨hB, hsl, h8, hRW⟩ := hI
    obtain ⟨G1, b1, e199⟩ := x_firstR (en := en) (d := d) (σ := σ) (F := F) hB hP hS h8 hL.1 h95 nt 0 b G (by omega)
    have e199 : qev en (d + 6) 199 [.ref 70] (mS σ 71 F N b G) = _ := le_X10_firstReady en _ _ _ e199
    have er : rnF P nt one oth (u + 1) k L N = match pkF (fun t => chs P 0 N t nt) L nt 0 with
      | none => some N
      | some r => rnF P nt one oth u (k + 1) (if k + 1 = one ∨ k + 1 = oth then lowF nt r L else L) (stp P 0 N (L r) 0 nt) := rfl
    have n200 : ¬ (200 : Int32) < nI k := by rw [show (200 : Int32) = nI 200 from rfl, n_LT (by omega) (by omega)]; omega
    have ek : nI k + (1 : Int32) = nI (k + 1) := n_ar
    cases hpk : pkF (fun t => chs P 0 N t nt) L nt 0 with
    | none =>
      rw [hpk] at e199 er
      obtain ⟨σ2, e38, f1, f2, f3, f4⟩ := x_pack (en := en) (d := d + 4) (a := 94) (σ := σ) (F := F) (N := N) (b := b1) (G := G1) hB hsl hP.2.2.1.1 ht4 rfl (by decide)
      have hO := slO_len hP
      have hA := slA_len (w := 0) hP
      have hrow : ∀ j, j < (slO P nc nt).length / 2 → (mS σ2 71 F (upd N 233 (nI (soS N nt))) b1 G1).2.1 94 (0 + j) = pkR (slO P nc nt) (cnS nt N) j := fun j hj => by
        show σ2.2.1 94 (0 + j) = _
        have hle : (slO P nc nt).length ≤ (slA P 0 nc nl nt).length := hA.2.2
        rw [Nat.zero_add, f4 j (by omega)]
        unfold pkR
        rw [slO_pre (by omega), slO_pre (by omega)]
        have m1 : (slO P nc nt).getD (2 * j) 0 ∈ slA P 0 nc nl nt := by
          have := getD_mem (L := slA P 0 nc nl nt) (i := 2 * j) (by omega)
          rw [slO_pre (by omega)] at this; exact this
        have m2 : (slO P nc nt).getD (2 * j + 1) 0 ∈ slA P 0 nc nl nt := by
          have := getD_mem (L := slA P 0 nc nl nt) (i := 2 * j + 1) (by omega)
          rw [slO_pre (by omega)] at this; exact this
        rw [cn_of hP h0 _ m1, cn_of hP h0 _ m2]
      have hRW2 : RW (mS σ2 71 F (upd N 233 (nI (soS N nt))) b1 G1) 87 84 88 89 15 (outL P 0 nt (xS X) (xN X)).length ((slO P nc nt).length / 2) 20000 (fun i => (outL P 0 nt (xS X) (xN X)).getD i 0 * ((slA P 0 nc nl nt).length / 2)) (fun i => pkR (slO P nc nt) (cnS nt (xS X ((outL P 0 nt (xS X) (xN X)).getD i 0)))) := RW_m (rw87m hRW (fun c _ => by rw [f1]) (f3 84 (by decide))) (by decide) (by decide) (by decide)
      have hdr : drF σ σ2 := ⟨fun c _ => by rw [f1], fun a ha => f3 a ha, f2⟩
      have hS2 : SV P 0 nc nl nt n (upd N 233 (nI (soS N nt))) := SV_t hS (svt_cg ht4 (fun j hj => pk_un (by omega)) hS.1) (fun j _ h => pk_un (by omega))
      have h02 : upd N 233 (nI (soS N nt)) 235 = 0 := by rw [pk_un (by decide)]; exact h0
      have hsm : ∀ i, i < (outL P 0 nt (xS X) (xN X)).length → (smR ((slO P nc nt).length / 2) (fun i => pkR (slO P nc nt) (cnS nt (xS X ((outL P 0 nt (xS X) (xN X)).getD i 0)))) (pkR (slO P nc nt) (cnS nt N)) i ↔ eqO nt N (xS X ((outL P 0 nt (xS X) (xN X)).getD i 0))) := fun i hi => co_sm hP hS (hX.2.1 _ (outL_lt _ _ (getD_mem hi)))
      have start : ∀ v s', qev en (d + 6) 149 [.ref 87, .ref 94, .int (0 : Int32)] (mS σ2 71 F (upd N 233 (nI (soS N nt))) b1 G1) = some (some (.int v), s') → L_X10_drawnOutcome_23 en (d + 6) (nI one) (nI oth) (nI k) (mS σ 71 F N b G) = some (some (.int v), s') := fun v s' h => by
        refine le_X10_drawnOutcome_23 en _ _ _ _ _ _ ?_
        rw [if_neg n200, e199, bI_some]
        show (if (0 : Int32) ≤ -1 then _ else _) = _
        rw [if_neg (by decide), e38, bV_some, h, bI_some]
      rcases x_numberOf (en := en) (d := d + 3) (a := 94) (f := 0) rw87 hRW2 (by omega) rfl (by show _ ≤ ln 94; have : ln 94 = 110 := rfl; omega) (by decide) hrow with ⟨i, hi, hs, e5⟩ | ⟨hno, e5⟩
      · refine ⟨nI i, σ2, F, _, b1, G1, start _ _ e5, hdr, fun _ _ _ _ _ => rfl, hS2, h02, ?_⟩
        rw [er]
        constructor
        · intro z
          have : i = o := (nI_eq (by omega) (by omega)).mp z
          subst this
          exact ⟨N, rfl, ((hsm i hi).mp hs).sy⟩
        · rintro ⟨N1, z, h⟩
          cases z
          have h1 := (hsm i hi).mp hs
          have := outL_unl (xN X) i o hi ho (h1.sy.tr h.sy)
          rw [this]
      · refine ⟨-1, σ2, F, _, b1, G1, start _ _ e5, hdr, fun _ _ _ _ _ => rfl, hS2, h02, ?_⟩
        rw [er]
        constructor
        · intro z
          have := n_1m (a := o) (by omega)
          rw [this] at z
          exact absurd z (fun y => y)
        · rintro ⟨N1, z, h⟩
          cases z
          exact absurd ((hsm o ho).mpr h.sy) (hno o ho)
    | some r =>
      rw [hpk] at e199 er
      have er : rnF P nt one oth (u + 1) k L N = rnF P nt one oth u (k + 1) (if k + 1 = one ∨ k + 1 = oth then lowF nt r L else L) (stp P 0 N (L r) 0 nt) := er
      obtain ⟨-, hr, hc, -⟩ := pkF_some nt 0 hpk
      rw [Nat.zero_add] at hr
      have hrd : rdS P 0 N (L r) 0 nt := ⟨hL.1 r hr, Or.inl hc⟩
      obtain ⟨F2, G2, b2, e52, f2, -⟩ := x_take (en := en) (d := d) (σ := σ) (F := F) (b := b1) (G := G1) hB hP hS h8 (by decide) hrd (by decide)
      have hS2 := SV_stp hP hS (by decide) hrd (by decide)
      have h02 : stp P 0 N (L r) 0 nt 235 = 0 := by rw [fh_stp hP hS (by decide) hrd (by decide) (by decide)]; exact h0
      have hI2 : drI P nc nl nt p X σ F2 := drI.fr ⟨hB, hsl, h8, hRW⟩ drF.rf f2
      have e95 : (mS σ 71 F N b1 G1).1 95 r = nI (L r) := by rw [mS_o (by decide) (by decide) (by decide) (by decide)]; exact h95 r hr
      have start : ∀ q, (if nI (k + 1) = nI one then L_X10_drawnOutcome_97 en (d + 6) (nI one) (nI oth) (nI k) (nI r) (mS σ 71 F2 (stp P 0 N (L r) 0 nt) b2 G2) else if ¬ nI (k + 1) = nI oth then L_X10_drawnOutcome_23 en (d + 6) (nI one) (nI oth) (nI (k + 1)) (mS σ 71 F2 (stp P 0 N (L r) 0 nt) b2 G2) else L_X10_drawnOutcome_97 en (d + 6) (nI one) (nI oth) (nI k) (nI r) (mS σ 71 F2 (stp P 0 N (L r) 0 nt) b2 G2)) = some q → L_X10_drawnOutcome_23 en (d + 6) (nI one) (nI oth) (nI k) (mS σ 71 F N b G) = some q := fun q h => by
        refine le_X10_drawnOutcome_23 en _ _ _ _ _ _ ?_
        have e52' : qev en (d + 6) 52 [.ref 71, .int (nI (L r)), .int (0 : Int32)] (mS σ 71 F N b1 G1) = some (none, mS σ 71 F2 (stp P 0 N (L r) 0 nt) b2 G2) := e52
        rw [if_neg n200, e199, bI_some]
        show (if (0 : Int32) ≤ nI r then _ else _) = _
        rw [if_pos (by rw [show (0 : Int32) = nI 0 from rfl, n_LE (by omega) (by omega)]; omega), gd_true (n_in (by omega) (by decide)), n_cl (by omega), e95, e52', bV_some, ek]
        exact h
      by_cases q : k + 1 = one ∨ k + 1 = oth
      · rw [if_pos q] at er
        obtain ⟨σ3, e200, g95, gdr⟩ := x_lowR (en := en) (d := d + 5) (F := F2) (N := stp P 0 N (L r) 0 nt) (b := b2) (G := G2) hB hP hr h95
        obtain ⟨v, σ', F', N', b', G', r1, r2, r3, r4, r5, r6⟩ := ih (k + 1) (lowF nt r L) σ3 F2 (stp P 0 N (L r) 0 nt) b2 G2 (by omega) (hI2.fr gdr (fun _ _ _ _ _ => rfl)) hS2 h02 (PL_low hL hr) g95
        have l97 : L_X10_drawnOutcome_97 en (d + 6) (nI one) (nI oth) (nI k) (nI r) (mS σ 71 F2 (stp P 0 N (L r) 0 nt) b2 G2) = some (some (.int v), mS σ' 71 F' N' b' G') := by
          refine le_X10_drawnOutcome_97 en _ _ _ _ _ _ _ ?_
          rw [e200, bV_some, ek]
          exact r1
        refine ⟨v, σ', F', N', b', G', start _ ?_, gdr.tr r2, fun j a1 a2 a3 a4 => (r3 j a1 a2 a3 a4).trans (f2 j a1 a2 a3 a4), r4, r5, by rw [er]; exact r6⟩
        by_cases q1 : k + 1 = one
        · rw [if_pos (by rw [q1])]; exact l97
        · rw [if_neg (by rw [n_EQ (by omega) (by omega)]; exact q1), if_neg (not_not_intro (by rw [q.resolve_left q1]))]; exact l97
      · rw [if_neg q] at er
        obtain ⟨v, σ', F', N', b', G', r1, r2, r3, r4, r5, r6⟩ := ih (k + 1) L σ F2 (stp P 0 N (L r) 0 nt) b2 G2 (by omega) hI2 hS2 h02 hL h95
        refine ⟨v, σ', F', N', b', G', start _ ?_, r2, fun j a1 a2 a3 a4 => (r3 j a1 a2 a3 a4).trans (f2 j a1 a2 a3 a4), r4, r5, by rw [er]; exact r6⟩
        rw [if_neg (by rw [n_EQ (by omega) (by omega)]; exact fun z => q (Or.inl z)), if_pos (by rw [n_EQ (by omega) (by omega)]; exact fun z => q (Or.inr z))]
        exact r1
end CHY

