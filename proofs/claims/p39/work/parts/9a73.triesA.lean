/-! ALL TURNS, the class's side: all states gone through. -/
/-- what trying all keeps -/
abbrev frTA (σ σ' : qS) : Prop := (∀ c, c < 70 ∨ 99 ≤ c → c ≠ 7 → c ≠ 10 → σ'.1 c = σ.1 c) ∧ (∀ a, a ≠ 84 → a ≠ 94 → σ'.2.1 a = σ.2.1 a) ∧ σ'.2.2 = σ.2.2 ∧ σ'.1 70 19 = σ.1 70 19
theorem frTA.tr {σ σ' σ'' : qS} (h : frTA σ σ') (g : frTA σ' σ'') : frTA σ σ'' := ⟨fun c h1 h2 h3 => (g.1 c h1 h2 h3).trans (h.1 c h1 h2 h3), fun a h1 h2 => (g.2.1 a h1 h2).trans (h.2.1 a h1 h2), g.2.2.1.trans h.2.2.1, g.2.2.2.trans h.2.2.2⟩
section TA
variable {en : pN} {d p w nc nl nt n t u k a m0 e0 : Nat} {σ σ' : qS} {P : Nat → fI} {F F' N M G g : fI} {b : Int32} {x : xT} {fw : Bool}
theorem x_fail142 {v5 : Int32} {s : qS} {r : qR} (h : L_X10_tryAll_253 en d 0 s = some r) : L_X10_tryAll_142 en d 0 v5 s = some r := by
  refine le_X10_tryAll_142 en d _ _ _ _ ?_
  by_cases q : (20000 : Int32) ≤ v5
  · rw [if_pos q]; exact h
  rw [if_neg q]
  by_cases q : s.1 83 3 ≤ v5
  · rw [if_pos q]; exact h
  rw [if_neg q, if_pos rfl]
  exact h
theorem x_fail187 {v5 v6 v7 v8 : Int32} {s : qS} {r : qR} (h : L_X10_tryAll_253 en d 0 s = some r) : L_X10_tryAll_187 en d 0 v5 v6 v7 v8 s = some r := by
  refine le_X10_tryAll_187 en d _ _ _ _ _ _ _ ?_
  by_cases q : v7 ≤ v8
  · rw [if_pos q]; exact x_fail142 h
  rw [if_neg q, if_pos rfl]
  exact x_fail142 h
theorem x_triesAll (hBx : MBx P nc nl nt n) (hP : PV P nc nl nt n) (hw2 : w ≤ 2) {S0 R : fI} {L : List Nat} {v6 : Int32} {o : Option Nat} (hL : ∀ a ∈ L, a ∈ rdl P w S0 nt nt) (hl40 : L.length ≤ 40) (ho : (o = none ∧ v6 = -1) ∨ ∃ a, a < 40 ∧ o = some a ∧ v6 = nI a) (hR : ∀ (j : Nat) (h : j < L.length), R j = nI L[j]) :
    ∀ (m j : Nat) (y : xT) (σ : qS) (F N G : fI) (b : Int32), j + m = L.length → XV P w nc nl nt n y → xcB P w nc nl nt p fw (k + 1) y σ F → k < xN y → xS y k = S0 → σ.1 74 = R → eqS (σ.1 73) S0 → σ.1 73 235 = 0 → SV P w nc nl nt n N → N 235 = 0 →
      (tryL P w nl nt (limS w) k o (L.drop j) y = none ∧ ∃ (σ' : qS) (F' N' G' : fI) (b' : Int32) (m' : Nat), (∀ r, L_X10_tryAll_253 en (d + 9) 0 (mS σ' 71 F' N' b' G') = some r → L_X10_tryAll_187 en (d + 9) 1 (nI k) v6 (nI L.length) (nI j) (mS σ 71 F N b G) = some r) ∧ frTA σ σ' ∧ σ'.1 83 3 = nI m' ∧ m' ≤ 20000) ∨
      (∃ z, tryL P w nl nt (limS w) k o (L.drop j) y = some z ∧ XV P w nc nl nt n z ∧ k < xN z ∧ ∃ (σ' : qS) (F' N' G' : fI) (b' : Int32), (∀ r, L_X10_tryAll_142 en (d + 9) 1 (nI (k + 1)) (mS σ' 71 F' N' b' G') = some r → L_X10_tryAll_187 en (d + 9) 1 (nI k) v6 (nI L.length) (nI j) (mS σ 71 F N b G) = some r) ∧ xcB P w nc nl nt p fw (k + 1) z σ' F' ∧ frTA σ σ' ∧ SV P w nc nl nt n N' ∧ N' 235 = 0) := by
  have hlim := @lim_le w
  intro m
  induction m with
  | zero =>
    intro j y σ F N G b hj hX hI hk hS0 h74 hK hK5 hN hN5
    obtain rfl : j = L.length := by omega
    right
    refine ⟨y, by rw [List.drop_length]; rfl, hX, hk, σ, F, N, G, b, fun r hh => ?_, hI, ⟨fun _ _ _ _ => rfl, fun _ _ _ => rfl, rfl, rfl⟩, hN, hN5⟩
    refine le_X10_tryAll_187 en _ _ _ _ _ _ _ _ ?_
    rw [if_pos (Int32.le_refl _), n_ar]
    exact hh
  | succ m ih =>
    intro j y σ F N G b hj hX hI hk hS0 h74 hK hK5 hN hN5
    have hjl : j < L.length := by omega
    have hyN := hX.1.2
    have haL : L[j] ∈ L := List.getElem_mem hjl
    have hard : L[j] ∈ rdl P w (xS y k) nt nt := by rw [hS0]; exact hL _ haL
    have a40 : L[j] < 40 := rdl_lt hP (hX.2.1 k hk) hard
    rw [List.drop_eq_getElem_cons hjl]
    have eL : tryL P w nl nt (limS w) k o (L[j] :: L.drop (j + 1)) y = if o = none ∨ o = some L[j] then (match tryS P w nl nt (limS w) k y L[j] with
      | none => none
      | some y => tryL P w nl nt (limS w) k o (L.drop (j + 1)) y) else tryL P w nl nt (limS w) k o (L.drop (j + 1)) y := rfl
    have e74 : (mS σ 71 F N b G).1 74 (nI j).toNatClampNeg = nI L[j] := by
      rw [mS_o (by decide) (by decide) (by decide) (by decide), h74, n_cl (by omega)]; exact hR j hjl
    have start : ∀ r, (if v6 < (0 : Int32) then L_X10_tryAll_223 en (d + 9) (nI k) v6 (nI L.length) (nI j) (nI L[j]) (mS σ 71 F N b G) else if ¬ nI L[j] = v6 then L_X10_tryAll_187 en (d + 9) (1 : Int32) (nI k) v6 (nI L.length) (nI (j + 1)) (mS σ 71 F N b G) else L_X10_tryAll_223 en (d + 9) (nI k) v6 (nI L.length) (nI j) (nI L[j]) (mS σ 71 F N b G)) = some r → L_X10_tryAll_187 en (d + 9) 1 (nI k) v6 (nI L.length) (nI j) (mS σ 71 F N b G) = some r := by
      intro r hh
      refine le_X10_tryAll_187 en _ _ _ _ _ _ _ _ ?_
      rw [if_neg (by rw [n_LE (by omega) (by omega)]; omega), if_neg (by decide), gd_true (n_in (by omega) (by decide)), nm_eq, e74, n_ar]
      exact hh
    by_cases q : o = none ∨ o = some L[j]
    · -- tried
      rw [eL, if_pos q]
      have start2 : ∀ r, L_X10_tryAll_223 en (d + 9) (nI k) v6 (nI L.length) (nI j) (nI L[j]) (mS σ 71 F N b G) = some r → L_X10_tryAll_187 en (d + 9) 1 (nI k) v6 (nI L.length) (nI j) (mS σ 71 F N b G) = some r := by
        intro r hh
        refine start r ?_
        rcases ho with ⟨o1, o2⟩ | ⟨a, a1, a2, a3⟩
        · rw [if_pos (by rw [o2]; decide)]; exact hh
        · have : a = L[j] := by
            rcases q with q | q
            · rw [a2] at q; cases q
            · rw [a2] at q; cases q; rfl
          rw [if_neg (by rw [a3]; exact nI_pos (by omega)), if_neg (fun z => z (by rw [a3, this]))]
          exact hh
      obtain ⟨hI1, hI2, hI3, hI4⟩ := hI
      rcases x_tryStep (en := en) (d := d + 1) (b := b) (G := G) (N := N) hBx hP hw2 hX hI1 hk hard (by rw [hS0]; exact hK) hK5 with ⟨t1, σ', F', N', G', b', m', t2, t3, t4, t5⟩ | ⟨y', t1, σ', F', N', G', b', t2, t3, t4, t5, t6, t7⟩
      · left
        rw [t1]
        refine ⟨rfl, σ', F', N', G', b', m', fun r hh => start2 r ?_, ⟨fun c h1 h2 h3 => t3.1 c (by omega) (by omega) (by omega) (by omega) (by omega) (by omega) (by omega) (by omega) (by omega) (by omega) h3 h2, t3.2.2.2.1, t3.2.2.2.2.2, t3.2.1 19 (by decide)⟩, t4, t5⟩
        refine le_X10_tryAll_223 en _ _ _ _ _ _ _ _ ?_
        rw [t2, bI_some, if_pos rfl]
        exact x_fail187 hh
      · obtain ⟨X1, X2, X3, X4, X5, X6⟩ := XV_try hP hw2 hX hk hard rfl t1
        have hkc : (k + 1) * ((slA P w nc nl nt).length / 2) ≤ xN y * ((slA P w nc nl nt).length / 2) := Nat.mul_le_mul_right _ hk
        have hI' : xcB P w nc nl nt p fw (k + 1) y' σ' F' := by
          refine ⟨t3, hI2.fr (fun i hi => ⟨(X3 i (by omega)).1, (X3 i (by omega)).2.2, by rw [X6]⟩) (fun c hc => t4.1 c (by omega) (by omega) (by omega) (by omega) (by omega) (by omega) (by omega) (by omega) (by omega) (by omega) (by omega) (by omega)) (fun i hi => t4.2.2.1 i (by omega)) (t4.2.1 14 (by decide)) (fun i hi => t4.2.2.2.2.1 i (by omega)) (slA_len hP).2.2, fun i h1 h2 => ?_, by rw [t4.2.1 18 (by decide)]; exact hI4⟩
          by_cases z : i < xN y
          · rw [t4.2.2.1 i z, (X3 i z).2.2]; exact hI3 i h1 z
          · exact t5 i (by omega) h2
        have f1 : frTA σ σ' := ⟨fun c h1 h2 h3 => t4.1 c (by omega) (by omega) (by omega) (by omega) (by omega) (by omega) (by omega) (by omega) (by omega) (by omega) h3 h2, t4.2.2.2.1, t4.2.2.2.2.2, t4.2.1 19 (by decide)⟩
        have step : ∀ r, L_X10_tryAll_187 en (d + 9) 1 (nI k) v6 (nI L.length) (nI (j + 1)) (mS σ' 71 F' N' b' G') = some r → L_X10_tryAll_187 en (d + 9) 1 (nI k) v6 (nI L.length) (nI j) (mS σ 71 F N b G) = some r := by
          intro r hh
          refine start2 r (le_X10_tryAll_223 en _ _ _ _ _ _ _ _ ?_)
          rw [t2, bI_some, if_neg (by decide), n_ar]
          exact hh
        rw [t1]
        rcases ih (j + 1) y' σ' F' N' G' b' (by omega) X1 hI' (by omega) ((X3 k hk).1.trans hS0) (by rw [t4.1 74 (by decide) (by decide) (by decide) (by decide) (by decide) (by decide) (by decide) (by decide) (by decide) (by decide) (by decide) (by decide)]; exact h74) (by rw [t4.1 73 (by decide) (by decide) (by decide) (by decide) (by decide) (by decide) (by decide) (by decide) (by decide) (by decide) (by decide) (by decide)]; exact hK) (by rw [t4.1 73 (by decide) (by decide) (by decide) (by decide) (by decide) (by decide) (by decide) (by decide) (by decide) (by decide) (by decide) (by decide)]; exact hK5) t7 t6 with ⟨r1, σ'', F'', N'', G'', b'', m'', r2, r3, r4⟩ | ⟨z, r1, r2, r3, σ'', F'', N'', G'', b'', r4, r5, r6, r7⟩
        · left
          exact ⟨r1, σ'', F'', N'', G'', b'', m'', fun r hh => step r (r2 r hh), f1.tr r3, r4⟩
        · right
          exact ⟨z, r1, r2, r3, σ'', F'', N'', G'', b'', fun r hh => step r (r4 r hh), r5, f1.tr r6, r7⟩
    · -- left out
      rw [eL, if_neg q]
      have step : ∀ r, L_X10_tryAll_187 en (d + 9) 1 (nI k) v6 (nI L.length) (nI (j + 1)) (mS σ 71 F N b G) = some r → L_X10_tryAll_187 en (d + 9) 1 (nI k) v6 (nI L.length) (nI j) (mS σ 71 F N b G) = some r := by
        intro r hh
        refine start r ?_
        rcases ho with ⟨o1, o2⟩ | ⟨a, a1, a2, a3⟩
        · exact absurd (Or.inl o1) q
        · rw [if_neg (by rw [a3]; exact nI_pos (by omega)), if_pos (fun z => q (Or.inr (by rw [a2]; rw [a3, n_EQ (by omega) (by omega)] at z; rw [z])))]
          exact hh
      rcases ih (j + 1) y σ F N G b (by omega) hX hI hk hS0 h74 hK hK5 hN hN5 with ⟨r1, σ'', F'', N'', G'', b'', m'', r2, r3, r4⟩ | ⟨z, r1, r2, r3, σ'', F'', N'', G'', b'', r4, r5, r6, r7⟩
      · left
        exact ⟨r1, σ'', F'', N'', G'', b'', m'', fun r hh => step r (r2 r hh), r3, r4⟩
      · right
        exact ⟨z, r1, r2, r3, σ'', F'', N'', G'', b'', fun r hh => step r (r4 r hh), r5, r6, r7⟩
end TA

