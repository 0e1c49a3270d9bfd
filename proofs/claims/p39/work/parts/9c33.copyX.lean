/-! REWRITINGS: the program copied, on both sides. -/
section CPX
variable {en : pN} {d d' k i n N j r v u m nc nl nt key a x : Nat} {V cl th K : Nat → Nat} {U : Nat → Nat → Nat} {bl : Nat → List Nat} {go go' : Nat → Bool} {s s' s'' t t' t'' : qS} {P : Nat → fI} {h : Int32} {f g h2 f' g' h2' : fI}
theorem cpyI {H T : fI} (z : Nat) (hz : z < 2 ^ 31) (hk : k < z) : va_cpy H T (0 : Int32).toNatClampNeg (0 : Int32).toNatClampNeg (nI z).toNatClampNeg k = H k := by
  rw [n_cl hz]
  show (if 0 ≤ k ∧ k < 0 + z then H (0 + (k - 0)) else T k) = _
  rw [if_pos ⟨Nat.zero_le k, by omega⟩, Nat.zero_add, Nat.sub_zero]
/-- what the copy changes, what it holds -/
abbrev cpXf (s s' : qS) : Prop := (∀ c, c < 36 ∨ 60 < c → s'.1 c = s.1 c) ∧ (∀ a, a ≠ 37 → a ≠ 38 → s'.2.1 a = s.2.1 a) ∧ s'.2.2 = s.2.2
theorem x_copyL : ∀ (z v : Nat) (s : qS), v + z = 18 → ∃ s', L_X5_copy_131 en d 36 11 (nI v) s = some (none, s') ∧ (∀ c, c < 43 + v ∨ 60 < c → s'.1 c = s.1 c) ∧ s'.2 = s.2 ∧ ∀ x, v ≤ x → x < 18 → ∀ j, j < 100 → s'.1 (43 + x) j = s.1 (18 + x) j := by
  have e36 : lc 36 = 5 := rfl
  have e11 : lc 11 = 5 := rfl
  intro z
  induction z with
  | zero =>
    intro v s hv
    refine ⟨s, le_X5_copy_131 en _ _ _ _ _ _ ?_, fun _ _ => rfl, rfl, fun x h1 h2 => by omega⟩
    rw [gd_true e36, gd_true e11, if_pos (by rw [n_le (by decide) (by omega)]; omega)]
  | succ z ih =>
    intro v s hv
    let s1 : qS := uIr s (43 + v) (va_cpy (s.1 (18 + v)) (s.1 (43 + v)) (0 : Int32).toNatClampNeg (0 : Int32).toNatClampNeg (100 : Int32).toNatClampNeg)
    obtain ⟨s', h1, h2, h3, h4⟩ := ih (v + 1) s1 (by omega)
    have o1 : ∀ c, c ≠ 43 + v → s1.1 c = s.1 c := fun c hc => uIr_ne hc
    have r1 : s1.1 (43 + v) = va_cpy (s.1 (18 + v)) (s.1 (43 + v)) (0 : Int32).toNatClampNeg (0 : Int32).toNatClampNeg (100 : Int32).toNatClampNeg := uIr_row
    refine ⟨s', le_X5_copy_131 en _ _ _ _ _ _ ?_, fun c hc => (h2 c (by omega)).trans (o1 c (by omega)), h3, fun x x1 x2 j hj => ?_⟩
    · rw [gd_true e36, gd_true e11, if_neg (by rw [n_le (by decide) (by omega)]; omega), gd_in (by omega) (by decide), gd_true (show cpG (0 : Int32) (0 : Int32) (100 : Int32) 100 100 by decide), n_cl (by omega), nm_eq, show nI v + (1 : Int32) = nI (v + 1) from n_ar, show 36 + 7 + v = 43 + v by omega, show 11 + 7 + v = 18 + v by omega]
      exact h1
    · by_cases q : x = v
      · rw [q, h2 (43 + v) (by omega), r1]
        exact cpyI 100 (by decide) hj
      · rw [h4 x (by omega) x2 j hj, o1 (18 + x) (by omega)]
theorem x_copy : ∃ s', qev en (d + 1) 82 [.ref 36, .ref 11] s = some (none, s') ∧ cpXf s s' ∧ (∀ j, 7 ≤ j → j ≤ 13 → s'.1 36 j = s.1 11 j) ∧ (∀ j, j < 4 → s'.1 39 j = s.1 14 j) ∧ (∀ j, j < 8 → s'.1 40 j = s.1 15 j) ∧ (∀ j, j < 4 → s'.1 41 j = s.1 16 j) ∧ ∀ x, x < 18 → ∀ j, j < 100 → s'.1 (43 + x) j = s.1 (18 + x) j := by
  have e36 : lc 36 = 5 := rfl
  have e11 : lc 11 = 5 := rfl
  let s7 : qS := uI (uI (uI (uI (uI (uI (uI s 36 7 (s.1 11 7)) 36 8 (s.1 11 8)) 36 9 (s.1 11 9)) 36 10 (s.1 11 10)) 36 11 (s.1 11 11)) 36 12 (s.1 11 12)) 36 13 (s.1 11 13)
  have o7 : ∀ c, c ≠ 36 → s7.1 c = s.1 c := fun c hc => by
    show (uI (uI (uI (uI (uI (uI (uI s 36 7 _) 36 8 _) 36 9 _) 36 10 _) 36 11 _) 36 12 _) 36 13 _).1 c = _
    rw [uI_ne hc, uI_ne hc, uI_ne hc, uI_ne hc, uI_ne hc, uI_ne hc, uI_ne hc]
  have r7 : ∀ j, 7 ≤ j → j ≤ 13 → s7.1 36 j = s.1 11 j := fun j h1 h2 => by
    have : j = 7 ∨ j = 8 ∨ j = 9 ∨ j = 10 ∨ j = 11 ∨ j = 12 ∨ j = 13 := by omega
    show (uI (uI (uI (uI (uI (uI (uI s 36 7 _) 36 8 _) 36 9 _) 36 10 _) 36 11 _) 36 12 _) 36 13 _).1 36 j = _
    rcases this with rfl | rfl | rfl | rfl | rfl | rfl | rfl <;> simp only [rdU] <;> rfl
  let s9 : qS := uJr s7 37 (va_cpy (s7.2.1 12) (s7.2.1 37) (0 : Int32).toNatClampNeg (0 : Int32).toNatClampNeg (16 : Int32).toNatClampNeg)
  let s11 : qS := uJr s9 38 (va_cpy (s9.2.1 13) (s9.2.1 38) (0 : Int32).toNatClampNeg (0 : Int32).toNatClampNeg (24 : Int32).toNatClampNeg)
  let s13 : qS := uIr s11 39 (va_cpy (s11.1 14) (s11.1 39) (0 : Int32).toNatClampNeg (0 : Int32).toNatClampNeg (4 : Int32).toNatClampNeg)
  let s15 : qS := uIr s13 40 (va_cpy (s13.1 15) (s13.1 40) (0 : Int32).toNatClampNeg (0 : Int32).toNatClampNeg (8 : Int32).toNatClampNeg)
  let s17 : qS := uIr s15 41 (va_cpy (s15.1 16) (s15.1 41) (0 : Int32).toNatClampNeg (0 : Int32).toNatClampNeg (4 : Int32).toNatClampNeg)
  have o11 : s11.1 = s7.1 := rfl
  have o13 : ∀ c, c ≠ 39 → s13.1 c = s7.1 c := fun c hc => (uIr_ne hc).trans rfl
  have o15 : ∀ c, c ≠ 40 → s15.1 c = s13.1 c := fun c hc => uIr_ne hc
  have o17 : ∀ c, c ≠ 41 → s17.1 c = s15.1 c := fun c hc => uIr_ne hc
  have oo : ∀ c, c ≠ 36 → c ≠ 39 → c ≠ 40 → c ≠ 41 → s17.1 c = s.1 c := fun c h1 h2 h3 h4 => (o17 c h4).trans ((o15 c h3).trans ((o13 c h2).trans (o7 c h1)))
  obtain ⟨s', h1, h2, h3, h4⟩ := x_copyL (en := en) (d := d) 18 0 s17 rfl
  refine ⟨s', le_X5_copy en _ _ _ _ _ ?_, ⟨fun c hc => (h2 c (by omega)).trans (oo c (by omega) (by omega) (by omega) (by omega)), fun a a1 a2 => ?_, by rw [h3]; rfl⟩, fun j j1 j2 => ?_, fun j hj => ?_, fun j hj => ?_, fun j hj => ?_, fun x hx j hj => ?_⟩
  · rw [gd_true e36, gd_true e11, nm_eq, nm_eq, nm_eq, nm_eq, nm_eq, nm_eq, nm_eq]
    rw [uI_ne (show 11 ≠ 36 by decide), uI_ne (show 11 ≠ 36 by decide), uI_ne (show 11 ≠ 36 by decide), uI_ne (show 11 ≠ 36 by decide), uI_ne (show 11 ≠ 36 by decide), uI_ne (show 11 ≠ 36 by decide)]
    rw [gd_true (show cpG (0 : Int32) (0 : Int32) (16 : Int32) 16 16 by decide), nm_eq, gd_true (show cpG (0 : Int32) (0 : Int32) (24 : Int32) 24 24 by decide), nm_eq, gd_true (show cpG (0 : Int32) (0 : Int32) (4 : Int32) 4 4 by decide), nm_eq, gd_true (show cpG (0 : Int32) (0 : Int32) (8 : Int32) 8 8 by decide), nm_eq, gd_true (show cpG (0 : Int32) (0 : Int32) (4 : Int32) 4 4 by decide), nm_eq]
    exact h1
  · rw [h3]
    show s11.2.1 a = _
    exact (uJr_ne a2).trans (uJr_ne a1)
  · rw [h2 36 (by omega), o17 36 (by decide), o15 36 (by decide), o13 36 (by decide)]
    exact r7 j j1 j2
  · rw [h2 39 (by omega), o17 39 (by decide), o15 39 (by decide)]
    have e : s13.1 39 = va_cpy (s11.1 14) (s11.1 39) (0 : Int32).toNatClampNeg (0 : Int32).toNatClampNeg (4 : Int32).toNatClampNeg := uIr_row
    rw [e, show s11.1 14 = s.1 14 from o7 14 (by decide)]
    exact cpyI 4 (by decide) hj
  · rw [h2 40 (by omega), o17 40 (by decide)]
    have e : s15.1 40 = va_cpy (s13.1 15) (s13.1 40) (0 : Int32).toNatClampNeg (0 : Int32).toNatClampNeg (8 : Int32).toNatClampNeg := uIr_row
    rw [e, show s13.1 15 = s.1 15 from (o13 15 (by decide)).trans (o7 15 (by decide))]
    exact cpyI 8 (by decide) hj
  · rw [h2 41 (by omega)]
    have e : s17.1 41 = va_cpy (s15.1 16) (s15.1 41) (0 : Int32).toNatClampNeg (0 : Int32).toNatClampNeg (4 : Int32).toNatClampNeg := uIr_row
    rw [e, show s15.1 16 = s.1 16 from (o15 16 (by decide)).trans ((o13 16 (by decide)).trans (o7 16 (by decide)))]
    exact cpyI 4 (by decide) hj
  · rw [h4 x (Nat.zero_le x) hx j hj, oo (18 + x) (by omega) (by omega) (by omega) (by omega)]
theorem hdK_cg (h0 : ∀ u, u < nt → f' u = f u) (h1 : ∀ i, i < N → g' i = g i) (h3 : ∀ i, i < N → h2' i = h2 i) (hk : kyV nt N k) (hnt : nt ≤ 4) : hdK f' g' h2' k = hdK f g h2 k := by
  unfold hdK
  by_cases q : k < 4
  · rw [if_pos q, if_pos q]
    exact h0 k (by rcases hk with y | y <;> omega)
  · have : (k - 4) / 2 < N := by rcases hk with y | y <;> omega
    rw [if_neg q, if_neg q]
    by_cases q2 : (k - 4) % 2 = 0
    · rw [if_pos q2, if_pos q2]; exact h1 _ this
    · rw [if_neg q2, if_neg q2]; exact h3 _ this
end CPX

