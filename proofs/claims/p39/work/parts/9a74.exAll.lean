/-! ALL TURNS, the class's side: the states one after another. -/
section TB2
variable {en : pN} {d p w nc nl nt n t u k a m0 e0 : Nat} {σ σ' : qS} {P : Nat → fI} {F F' N M G g : fI} {b : Int32} {x : xT} {fw : Bool}
theorem qtF_b : ∀ (m t a : Nat), qtF P N m t = some a → a < 10 * (m + t) := by
  intro m
  induction m with
  | zero => intro t a h; cases h
  | succ m ih =>
    intro t a h
    unfold qtF at h
    split at h
    · cases h; omega
    · have := ih (t + 1) a h; omega
theorem onlS_lt (h4 : nt ≤ 4) {a : Nat} (h : onlS P nt fw x k = some a) : a < 40 := by
  unfold onlS at h
  split at h
  · have := qtF_b nt 0 a h; omega
  · cases h
theorem x_exAll (hBx : MBx P nc nl nt n) (hP : PV P nc nl nt n) (hw2 : w ≤ 2) :
    ∀ (m k : Nat) (x : xT) (σ : qS) (F N G : fI) (b : Int32), k + m = 20000 → k ≤ xN x → XV P w nc nl nt n x → xcB P w nc nl nt p fw k x σ F → SV P w nc nl nt n N → N 235 = 0 →
      (exK P w nl nt (limS w) fw m k x = none ∧ ∃ (σ' : qS) (F' N' G' : fI) (b' : Int32) (m' : Nat), (∀ r, L_X10_tryAll_253 en (d + 10) 0 (mS σ' 71 F' N' b' G') = some r → L_X10_tryAll_142 en (d + 10) 1 (nI k) (mS σ 71 F N b G) = some r) ∧ frTA σ σ' ∧ σ'.1 83 3 = nI m' ∧ m' ≤ 20000) ∨
      (∃ z, exK P w nl nt (limS w) fw m k x = some z ∧ XV P w nc nl nt n z ∧ ∃ (σ' : qS) (F' N' G' : fI) (b' : Int32), (∀ r, L_X10_tryAll_253 en (d + 10) 1 (mS σ' 71 F' N' b' G') = some r → L_X10_tryAll_142 en (d + 10) 1 (nI k) (mS σ 71 F N b G) = some r) ∧ xcB P w nc nl nt p fw (xN z) z σ' F' ∧ frTA σ σ' ∧ SV P w nc nl nt n N' ∧ N' 235 = 0) := by
  have hlim := @lim_le w
  have ht4 := hP.2.2.1.2
  intro m
  induction m with
  | zero =>
    intro k x σ F N G b hk hkx hX hI hN hN5
    have hxN := hX.1.2
    obtain rfl : k = xN x := by omega
    right
    refine ⟨x, rfl, hX, σ, F, N, G, b, fun r hh => le_X10_tryAll_142 en _ _ _ _ _ ?_, hI, ⟨fun _ _ _ _ => rfl, fun _ _ _ => rfl, rfl, rfl⟩, hN, hN5⟩
    rw [if_pos (show (20000 : Int32) ≤ nI (xN x) by rw [show (20000 : Int32) = nI 20000 from rfl, n_LE (by omega) (by omega)]; omega)]
    exact hh
  | succ m ih =>
    intro k x σ F N G b hk hkx hX hI hN hN5
    have hxN := hX.1.2
    have e83 : (mS σ 71 F N b G).1 83 3 = nI (xN x) := by
      rw [mS_o (by decide) (by decide) (by decide) (by decide)]; exact hI.1.2.2.2.2.1.1
    have eK : exK P w nl nt (limS w) fw (m + 1) k x = if k < xN x then (match runK P w nl nt (limS w) fw x k with
      | none => none
      | some y => exK P w nl nt (limS w) fw m (k + 1) y) else some x := rfl
    have n20 : ¬ (20000 : Int32) ≤ nI k := by rw [show (20000 : Int32) = nI 20000 from rfl, n_LE (by omega) (by omega)]; omega
    by_cases q : k < xN x
    · obtain ⟨σ1, F1, N1, G1, b1, l1, l2, l3, l4, l5, l6, l7, l8, l9, l10, l11⟩ := x_lookAround (en := en) (d := d + 1) (b := b) (G := G) (F := F) hBx hP hw2 hX hI q hN hN5
      have hSk := hX.2.1 k q
      have hl40 : (rdl P w (xS x k) nt nt).length ≤ 40 := rdl_len hP hSk
      have f1 : frTA σ σ1 := ⟨l7, fun _ _ _ => by rw [l8], by rw [l8], l9 19 (by decide)⟩
      have start : ∀ r, L_X10_tryAll_187 en (d + 10) 1 (nI k) (match onlS P nt fw x k with
          | some a => nI a
          | none => -1) (nI (rdl P w (xS x k) nt nt).length) (nI 0) (mS σ1 71 F1 N1 b1 G1) = some r → L_X10_tryAll_142 en (d + 10) 1 (nI k) (mS σ 71 F N b G) = some r := by
        intro r hh
        refine le_X10_tryAll_142 en _ _ _ _ _ ?_
        rw [if_neg n20, e83, if_neg (by rw [n_LE (by omega) (by omega)]; omega), if_neg (by decide), l1, bI_some, show (mS σ1 71 F1 N1 b1 G1).1 71 3 = F1 3 from congrFun mS_m 3, l3]
        exact hh
      have hX1 : XV P w nc nl nt n (begK x k) := hX
      rw [eK, if_pos q]
      have eR : runK P w nl nt (limS w) fw x k = tryL P w nl nt (limS w) k (onlS P nt fw x k) ((rdl P w (xS x k) nt nt).drop 0) (begK x k) := rfl
      rw [eR]
      rcases x_triesAll (en := en) (d := d + 1) (p := p) (fw := fw) (k := k) (R := σ1.1 74) (L := rdl P w (xS x k) nt nt) (v6 := match onlS P nt fw x k with
          | some a => nI a
          | none => -1) (o := onlS P nt fw x k) hBx hP hw2 (S0 := xS x k) (fun a ha => ha) hl40 (by
            cases ho : onlS P nt fw x k with
            | none => exact Or.inl ⟨rfl, rfl⟩
            | some a => exact Or.inr ⟨a, onlS_lt ht4 ho, rfl, rfl⟩) l4 (rdl P w (xS x k) nt nt).length 0 (begK x k) σ1 F1 N1 G1 b1 (by omega) hX1 l2 q rfl rfl l5 l6 l10 l11 with ⟨r1, σ'', F'', N'', G'', b'', m'', r2, r3, r4, r5⟩ | ⟨z, r1, r2, r3, σ'', F'', N'', G'', b'', r4, r5, r6, r7, r8⟩
      · left
        rw [r1]
        exact ⟨rfl, σ'', F'', N'', G'', b'', m'', fun r hh => start r (r2 r hh), f1.tr r3, r4, r5⟩
      · rw [r1]
        have f2 := f1.tr r6
        rcases ih (k + 1) z σ'' F'' N'' G'' b'' (by omega) r3 r2 r5 r7 r8 with ⟨s1, τ, F3, N3, G3, b3, m3, s2, s3, s4, s5⟩ | ⟨y, s1, s2, τ, F3, N3, G3, b3, s3, s4, s5, s6, s7⟩
        · left
          exact ⟨s1, τ, F3, N3, G3, b3, m3, fun r hh => start r (r4 r (s2 r hh)), f2.tr s3, s4, s5⟩
        · right
          exact ⟨y, s1, s2, τ, F3, N3, G3, b3, fun r hh => start r (r4 r (s3 r hh)), s4, f2.tr s5, s6, s7⟩
    · obtain rfl : k = xN x := by omega
      right
      refine ⟨x, by rw [eK, if_neg q], hX, σ, F, N, G, b, fun r hh => le_X10_tryAll_142 en _ _ _ _ _ ?_, hI, ⟨fun _ _ _ _ => rfl, fun _ _ _ => rfl, rfl, rfl⟩, hN, hN5⟩
      rw [if_neg n20, e83, if_pos (Int32.le_refl _)]
      exact hh
end TB2

