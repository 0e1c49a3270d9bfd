/-! REWRITINGS: the program copied, on both sides. -/
section CPX
variable {en : pN} {d d' k i n N j r v u m nc nl nt key a x : Nat} {V cl th K : Nat → Nat} {U : Nat → Nat → Nat} {bl : Nat → List Nat} {go go' : Nat → Bool} {s s' s'' t t' t'' : qS} {P : Nat → fI} {h : Int32} {f g h2 f' g' h2' : fI}
theorem cpyI {H T : fI} (z : Nat) (hz : z < 2 ^ 31) (hk : k < z) : va_cpy H T (0 : Int32).toNatClampNeg (0 : Int32).toNatClampNeg (nI z).toNatClampNeg k = H k := by
  rw [n_cl hz]
  show (if 0 ≤ k ∧ k < 0 + z then H (0 + (k - 0)) else T k) = _
  rw [if_pos ⟨Nat.zero_le k, by omega⟩, Nat.zero_add, Nat.sub_zero]
/-- what the copy changes, what it holds -/
abbrev cpXf (s s' : qS) : Prop := (∀ c, c < 36 ∨ 60 < c → s'.1 c = s.1 c) ∧ (∀ a, a ≠ 37 → a ≠ 38 → s'.2.1 a = s.2.1 a) ∧ s'.2.2 = s.2.2
theorem x_copyL : ∀ (z v : Nat) (s : qS), v + z = 18 → ∃ s', L_X5_copy_131 en d 36 11 (nI v) s = some (none, s') ∧ (∀ c, c < 43 + v ∨ 60 < c → s'.1 c = s.1 c) ∧ s'.2 = s.2 ∧ ∀ x, v ≤ x → x < 18 → ∀ j, j < 100 → s'.1 (43 + x) j = s.1 (18 + x) j := by
  have e36 : lc 36 = 5 := rfl
  have e11 : lc 11 = 5 := rfl
  intro z
  induction z with
  | zero =>
    intro v s hv
    refine ⟨s, le_X5_copy_131 en _ _ _ _ _ _ ?_, fun _ _ => rfl, rfl, fun x h1 h2 => by omega⟩
    rw [gd_true e36, gd_true e11, if_pos (by rw [n_le (by decide) (by omega)]; omega)]
  | succ z ih =>
    intro v s hv
    let s1 : qS := uIr s (43 + v) (va_cpy (s.1 (18 + v)) (s.1 (43 + v)) (0 : Int32).toNatClampNeg (0 : Int32).toNatClampNeg (100 : Int32).toNatClampNeg)
    obtain ⟨s', h1, h2, h3, h4⟩ := ih (v + 1) s1 (by omega)
    have o1 : ∀ c, c ≠ 43 + v → s1.1 c = s.1 c := fun c hc => uIr_ne hc
    have r1 : s1.1 (43 + v) = va_cpy (s.1 (18 + v)) (s.1 (43 + v)) (0 : Int32).toNatClampNeg (0 : Int32).toNatClampNeg (100 : Int32).toNatClampNeg := uIr_row
    refine ⟨s', le_X5_copy_131 en _ _ _ _ _ _ ?_, fun c hc => (h2 c (by omega)).trans (o1 c (by omega)), h3, fun x x1 x2 j hj => ?_⟩
    · rw [gd_true e36, gd_true e11, if_neg (by rw [n_le (by decide) (by omega)]; omega), gd_in (by omega) (by decide), gd_true (show cpG (0 : Int32) (0 : Int32) (100 : Int32) 100 100 by decide), n_cl (by omega), nm_eq, show nI v + (1 : Int32) = nI (v + 1) from n_ar, show 36 + 7 + v = 43 + v by omega, show 11 + 7 + v = 18 + v by omega]
      exact h1
    · by_cases q : x = v
      · rw [q, h2 (43 + v) (by omega), r1]
        exact cpyI 100 (by decide) hj
      · rw [h4 x (by omega) x2 j hj, o1 (18 + x) (by omega)]
theorem x_copy : ∃ s', qev en (d + 1) 82 [.ref 36, .ref 11] s = some (none, s') ∧ cpXf s s' ∧ (∀ j, 7 ≤ j → j ≤ 13 → s'.1 36 j = s.1 11 j) ∧ (∀ j, j < 4 → s'.1 39 j = s.1 14 j) ∧ (∀ j, j < 8 → s'.1 40 j = s.1 15 j) ∧ (∀ j, j < 4 → s'.1 41 j = s.1 16 j) ∧ ∀ x, x < 18 → ∀ j, j < 100 → s'.1 (43 + x) j = s.1 (18 + x) j := by
  have e36 : lc 36 = 5 := rfl
  have e11 : lc 11 = 5 := rfl
  let s7 : qS := uI (uI (uI (uI (uI (uI (uI s 36 7 (s.1 11 7)) 36 8 (s.1 11 8)) 36 9 (s.1 11 9)) 36 10 (s.1 11 10)) 36 11 (s.1 11 11)) 36 12 (s.1 11 12)) 36 13 (s.1 11 13)
  have o7 : ∀ c, c ≠ 36 → s7.1 c = s.1 c := fun c hc => by
    show (uI (uI (uI (uI (uI (uI (uI s 36 7 _) 36 8 _) 36 9 _) 36 10 _) 36 11 _) 36 12 _) 36 13 _).1 c = _
    rw [uI_ne hc, uI_ne hc, uI_ne hc, uI_ne hc, uI_ne hc, uI_ne hc, uI_ne hc]
  have r7 : ∀ j, 7 ≤ j → j ≤ 13 → s7.1 36 j = s.1 11 j := fun j h1 h2 => by
    have : j = 7 ∨ j = 8 ∨ j = 9 ∨ j = 10 ∨ j = 11 ∨ j = 12 ∨ j = 13 := by omega
    show (uI (uI (uI (uI (uI (uI (uI s 36 7 _) 36 8 _) 36 9 _) 36 10 _) 36 11 _) 36 12 _) 36 13 _).1 36 j = _
    rcases this with rfl | rfl | rfl | rfl | rfl | rfl | rfl <;> simp only [rdU] <;> rfl
  let s9 : qS := uJr s7 37 (va_cpy (s7.2.1 12) (s7.2.1 37) (0 : Int32).toNatClampNeg (0 : Int32).toNatClampNeg (16 : Int32).toNatClampNeg)
  let s11 : qS := uJr s9 38 (va_cpy (s9.2.1 13) (s9.2.1 38) (0 : Int32).toNatClampNeg (0 : Int32).toNatClampNeg (24 : Int32).toNatClampNeg)
  let s13 : qS := uIr s11 39 (va_cpy (s11.1 14) (s11.1 39) (0 : Int32).toNatClampNeg (0 : Int32).toNatClampNeg (4 : Int32).toNatClampNeg)
  let s15 : qS := uIr s13 40 (va_cpy (s13.1 15) (s13.1 40) (0 : Int32).toNatClampNeg (0 : Int32).toNatClampNeg (8 : Int32).toNatClampNeg)
  let s17 : qS := uIr s15 41 (va_cpy (s15.1 16) (s15.1 41) (0 : Int32).toNatClampNeg (0 : Int32).toNatClampNeg (4 : Int32).toNatClampNeg)
  have o11 : s11.1 = s7.1 := rfl
  have o13 : ∀ c, c ≠ 39 → s13.1 c = s7.1 c := fun c hc => (uIr_ne hc).trans rfl
  have o15 : ∀ c, c ≠ 40 → s15.1 c = s13.1 c := fun c hc => uIr_ne hc
  have o17 : ∀ c, c ≠ 41 → s17.1 c = s15.1 c := fun c hc => uIr_ne hc
  have oo : ∀ c, c ≠ 36 → c ≠ 39 → c ≠ 40 → c ≠ 41 → s17.1 c = s.1 c := fun c h1 h2 h3 h4 => (o17 c h4).trans ((o15 c h3).trans ((o13 c h2).trans (o7 c h1)))
  obtain ⟨s', h1, h2, h3, h4⟩ := x_copyL (en := en) (d := d) 18 0 s17 rfl
  refine ⟨s', le_X5_copy en _ _ _ _ _ ?_, ⟨fun c hc => (h2 c (by omega)).trans (oo c (by omega) (by omega) (by omega) (by omega)), fun a a1 a2 => ?_, by rw [h3]; rfl⟩, fun j j1 j2 => ?_, fun j hj => ?_, fun j hj => ?_, fun j hj => ?_, fun x hx j hj => ?_⟩
  · rw [gd_true e36, gd_true e11, nm_eq, nm_eq, nm_eq, nm_eq, nm_eq, nm_eq, nm_eq]
    rw [uI_ne (show 11 ≠ 36 by decide), uI_ne (show 11 ≠ 36 by decide), uI_ne (show 11 ≠ 36 by decide), uI_ne (show 11 ≠ 36 by decide), uI_ne (show 11 ≠ 36 by decide), uI_ne (show 11 ≠ 36 by decide)]
    rw [gd_true (show cpG (0 : Int32) (0 : Int32) (16 : Int32) 16 16 by decide), nm_eq, gd_true (show cpG (0 : Int32) (0 : Int32) (24 : Int32) 24 24 by decide), nm_eq, gd_true (show cpG (0 : Int32) (0 : Int32) (4 : Int32) 4 4 by decide), nm_eq, gd_true (show cpG (0 : Int32) (0 : Int32) (8 : Int32) 8 8 by decide), nm_eq, gd_true (show cpG (0 : Int32) (0 : Int32) (4 : Int32) 4 4 by decide), nm_eq]
    exact h1
  · rw [h3]
    show s11.2.1 a = _
    exact (uJr_ne a2).trans (uJr_ne a1)
  · rw [h2 36 (by omega), o17 36 (by decide), o15 36 (by decide), o13 36 (by decide)]
    exact r7 j j1 j2
  · rw [h2 39 (by omega), o17 39 (by decide), o15 39 (by decide)]
    have e : s13.1 39 = va_cpy (s11.1 14) (s11.1 39) (0 : Int32).toNatClampNeg (0 : Int32).toNatClampNeg (4 : Int32).toNatClampNeg := uIr_row
    rw [e, show s11.1 14 = s.1 14 from o7 14 (by decide)]
    exact cpyI 4 (by decide) hj
  · rw [h2 40 (by omega), o17 40 (by decide)]
    have e : s15.1 40 = va_cpy (s13.1 15) (s13.1 40) (0 : Int32).toNatClampNeg (0 : Int32).toNatClampNeg (8 : Int32).toNatClampNeg := uIr_row
    rw [e, show s13.1 15 = s.1 15 from (o13 15 (by decide)).trans (o7 15 (by decide))]
    exact cpyI 8 (by decide) hj
  · rw [h2 41 (by omega)]
    have e : s17.1 41 = va_cpy (s15.1 16) (s15.1 41) (0 : Int32).toNatClampNeg (0 : Int32).toNatClampNeg (4 : Int32).toNatClampNeg := uIr_row
    rw [e, show s15.1 16 = s.1 16 from (o15 16 (by decide)).trans ((o13 16 (by decide)).trans (o7 16 (by decide)))]
    exact cpyI 4 (by decide) hj
  · rw [h4 x (Nat.zero_le x) hx j hj, oo (18 + x) (by omega) (by omega) (by omega) (by omega)]
theorem hdK_cg (h0 : ∀ u, u < nt → f' u = f u) (h1 : ∀ i, i < N → g' i = g i) (h3 : ∀ i, i < N → h2' i = h2 i) (hk : kyV nt N k) (hnt : nt ≤ 4) : hdK f' g' h2' k = hdK f g h2 k := by
  unfold hdK
  by_cases q : k < 4
  · rw [if_pos q, if_pos q]
    exact h0 k (by rcases hk with y | y <;> omega)
  · have : (k - 4) / 2 < N := by rcases hk with y | y <;> omega
    rw [if_neg q, if_neg q]
    by_cases q2 : (k - 4) % 2 = 0
    · rw [if_pos q2, if_pos q2]; exact h1 _ this
    · rw [if_neg q2, if_neg q2]; exact h3 _ this
/-- the copied program of both -/
theorem rwF_copy (hS : tpT s t V U cl nc nl nt m N th K bl) (hai : aiI s nt N) (hX : cpXf s s') (c36 : ∀ j, 7 ≤ j → j ≤ 13 → s'.1 36 j = s.1 11 j) (c39 : ∀ j, j < 4 → s'.1 39 j = s.1 14 j) (c40 : ∀ j, j < 8 → s'.1 40 j = s.1 15 j) (c41 : ∀ j, j < 4 → s'.1 41 j = s.1 16 j) (c43 : ∀ x, x < 18 → ∀ j, j < 100 → s'.1 (43 + x) j = s.1 (18 + x) j) : rwF s' (cpT (cpS t 0 1 N) 0 1 nt) nc nl nt N cl th K bl (fun _ => false) := by
  obtain ⟨f1, f2, f3⟩ := tpT_facts hS hai
  obtain ⟨⟨⟨hnc, hnl, hnt⟩, -⟩, ⟨h12, h32, hN, hel⟩, hm, hln, ⟨hG1, hG2, hG3, hG4, hG5⟩, hc, hl⟩ := hS
  obtain ⟨⟨⟨s9, -⟩, ⟨s10, -⟩, ⟨s11, -⟩, s12, -⟩, a3, a4, a5⟩ := f1
  let T : qS := cpT (cpS t 0 1 N) 0 1 nt
  have tO : ∀ c, c < 164 ∨ 181 < c → T.1 c = t.1 c := fun c hc => by
    show (cpT (cpS t 0 1 N) 0 1 nt).1 c = _
    rw [cpT_o (by omega), cpS_o (by omega)]
  have tR : ∀ c, 164 ≤ c → c ≤ 179 → ∀ j, j < N → T.1 c (100 + j) = t.1 c j := fun c h1 h2 j hj => by
    show (cpT (cpS t 0 1 N) 0 1 nt).1 c (100 + j) = _
    rw [cpT_o (by omega)]
    show (if (164 ≤ c ∧ c ≤ 179) ∧ 100 * 1 ≤ 100 + j ∧ 100 + j < 100 * 1 + N then t.1 c (100 + j - 100 * 1 + 100 * 0) else _) = _
    rw [if_pos ⟨⟨h1, h2⟩, by omega, by omega⟩, show 100 + j - 100 * 1 + 100 * 0 = j by omega]
  have tH : ∀ u, u < nt → T.1 181 (4 + u) = t.1 181 u := fun u hu => by
    show (if 181 = 181 ∧ 4 * 1 ≤ 4 + u ∧ 4 + u < 4 * 1 + nt then (cpS t 0 1 N).1 181 (4 + u - 4 * 1 + 4 * 0) else _) = _
    rw [if_pos ⟨rfl, by omega, by omega⟩, show 4 + u - 4 * 1 + 4 * 0 = u by omega, cpS_o (by omega)]
  have t180 : ∀ j, j < N → (cpT (cpS t 0 1 N) 0 1 nt).2.1 180 (100 + j) = t.2.1 180 j := fun j hj => by
    show (if 180 = 180 ∧ 100 * 1 ≤ 100 + j ∧ 100 + j < 100 * 1 + N then t.2.1 180 (100 + j - 100 * 1 + 100 * 0) else _) = _
    rw [if_pos ⟨rfl, by omega, by omega⟩, show 100 + j - 100 * 1 + 100 * 0 = j by omega]
  have e8 : s'.1 8 = s.1 8 := hX.1 8 (by omega)
  have e9 : s'.1 9 = s.1 9 := hX.1 9 (by omega)
  have w43 : ∀ x, x < 18 → ∀ j, j < N → s'.1 (36 + (7 + x)) j = s.1 (11 + (7 + x)) j := fun x hx j hj => by
    rw [show 36 + (7 + x) = 43 + x by omega, show 11 + (7 + x) = 18 + x by omega]
    exact c43 x hx j (by omega)
  have bits : ∀ j, j = 7 ∨ j = 8 ∨ j = 9 ∨ j = 10 ∨ j = 11 ∨ j = 12 → s'.1 36 j = s.1 11 j := fun j hj => c36 j (by omega) (by omega)
  refine ⟨⟨⟨⟨(bits 9 (by omega)).trans s9, hnc⟩, ⟨(bits 10 (by omega)).trans s10, hnl⟩, ⟨(bits 11 (by omega)).trans s11, hnt⟩, (bits 12 (by omega)).trans s12, hN⟩, fun u hu => ?_, fun c hc' => ?_, fun u hu => ?_⟩, fun i hi => ?_, ⟨fun k hk => ?_, fun k i hi => ?_, fun i hi _ => hG3 i hi, hG4, fun i hi => ?_, fun i hi => ?_, fun p hp hne => ?_⟩, by rw [show (cpT (cpS t 0 1 N) 0 1 nt).1 151 = t.1 151 from tO 151 (by omega)]; exact h32⟩
  · rw [show s'.1 (36 + 3) u = s.1 (11 + 3) u from c39 u (by omega)]
    exact a3 u hu
  · rw [show (cpT (cpS t 0 1 N) 0 1 nt).1 154 = t.1 154 from tO 154 (by omega), show (cpT (cpS t 0 1 N) 0 1 nt).1 155 = t.1 155 from tO 155 (by omega), bits 7 (by omega), show s'.1 (36 + 4) c = s.1 (11 + 4) c from c40 c (by omega)]
    exact a4 c hc'
  · rw [show (cpT (cpS t 0 1 N) 0 1 nt).1 158 = t.1 158 from tO 158 (by omega), bits 8 (by omega)]
    exact a5 u hu
  · obtain ⟨k, g1, g2, g3, g4, g5, g6, g7, g8, g9⟩ := f2 i hi
    have z : 100 * 0 + i = i := by omega
    have z1 : 100 * 1 + i = 100 + i := by omega
    rw [z] at g1 g3 g5 g6 g7
    have hx : ∀ {A E A' E' : Int32}, exF (lmR 11) s t (th i) A E A' E' → exF (lmR 36) s' T (th i) A E A' E' := fun h => by
      obtain ⟨a, e, y1, y2, y3, y4, y5, y6⟩ := exF_cg (s' := s') (t' := T) h (fun _ _ _ j _ _ => by rw [e8, e9]; exact ⟨rfl, rfl⟩) lmR_le (tO 161 (by omega)) (tO 162 (by omega))
      exact ⟨a, e, y1, y2, y3, Nat.le_trans y4 (by decide), y5, y6⟩
    have rg : ∀ {A E A' E' : Int32}, exF (lmR 11) s t (th i) A E A' E' → ∃ e, e ≤ 400 ∧ E = nI e := fun h => by
      obtain ⟨a, e, y1, y2, y3, y4, y5, y6⟩ := h
      exact ⟨e, y4, y2⟩
    refine ⟨⟨k, ?_⟩, ?_⟩
    · rw [z1]
      rw [show s'.1 (36 + 7) i = s.1 (11 + 7) i from w43 0 (by decide) i hi, show s'.1 (36 + 8) i = s.1 (11 + 8) i from w43 1 (by decide) i hi, show s'.1 (36 + 9) i = s.1 (11 + 9) i from w43 2 (by decide) i hi, show s'.1 (36 + 10) i = s.1 (11 + 10) i from w43 3 (by decide) i hi, show s'.1 (36 + 12) i = s.1 (11 + 12) i from w43 5 (by decide) i hi, show s'.1 (36 + 13) i = s.1 (11 + 13) i from w43 6 (by decide) i hi, show s'.1 (36 + 14) i = s.1 (11 + 14) i from w43 7 (by decide) i hi, show s'.1 (36 + 15) i = s.1 (11 + 15) i from w43 8 (by decide) i hi]
      rw [show (cpT (cpS t 0 1 N) 0 1 nt).1 164 (100 + i) = t.1 164 i from tR 164 (by decide) (by decide) i hi, show (cpT (cpS t 0 1 N) 0 1 nt).1 166 (100 + i) = t.1 166 i from tR 166 (by decide) (by decide) i hi, show (cpT (cpS t 0 1 N) 0 1 nt).1 167 (100 + i) = t.1 167 i from tR 167 (by decide) (by decide) i hi, show (cpT (cpS t 0 1 N) 0 1 nt).1 176 (100 + i) = t.1 176 i from tR 176 (by decide) (by decide) i hi, show (cpT (cpS t 0 1 N) 0 1 nt).1 177 (100 + i) = t.1 177 i from tR 177 (by decide) (by decide) i hi, show (cpT (cpS t 0 1 N) 0 1 nt).1 178 (100 + i) = t.1 178 i from tR 178 (by decide) (by decide) i hi, show (cpT (cpS t 0 1 N) 0 1 nt).1 179 (100 + i) = t.1 179 i from tR 179 (by decide) (by decide) i hi]
      exact ⟨g1, g2, g3, g4, g5, hx g6, hx g7, g8, g9⟩
    · unfold rgF
      rw [show s'.1 49 i = s.1 (11 + 13) i from w43 6 (by decide) i hi, show s'.1 51 i = s.1 (11 + 15) i from w43 8 (by decide) i hi]
      refine ⟨Or.inl (rg g6), rg g7, fun y => ?_⟩
      obtain ⟨kb, ⟨kb1, kb2, -⟩, -, -, -, -, -, -, -, -, -, -, kb3, -⟩ := hln i hi
      rw [show s'.1 52 i = s.1 (11 + 16) i from w43 9 (by decide) i hi, t180 i hi]
      have y1 : nI kb = nI 15 := kb2.symm.trans ((w43 0 (by decide) i hi).symm.trans y)
      rw [n_EQ (by omega) (by decide)] at y1
      exact kb3 y1
  · obtain ⟨b1, b2⟩ := hG1 k hk
    have hlt : ∀ x, x ∈ bl k → x < N := fun x hx => (hG2 k x hx).1
    rw [hdK_cg (f' := s'.1 41) (g' := s'.1 56) (h2' := s'.1 57) (f := s.1 16) (g := s.1 31) (h2 := s.1 32) (fun u hu => c41 u (by omega)) (fun i hi => w43 13 (by decide) i hi) (fun i hi => w43 14 (by decide) i hi) hk hnt]
    rw [hdK_cg (f' := fun j => T.1 181 (4 + j)) (g' := fun j => T.1 172 (100 + j)) (h2' := fun j => T.1 173 (100 + j)) (f := t.1 181) (g := t.1 172) (h2 := t.1 173) tH (fun i hi => tR 172 (by decide) (by decide) i hi) (fun i hi => tR 173 (by decide) (by decide) i hi) hk hnt]
    exact ⟨lkd_cg _ _ b1 (fun a ha => w43 10 (by decide) a (hlt a ha)), lkd_cg _ _ b2 (fun a ha => tR 171 (by decide) (by decide) a (hlt a ha))⟩
  · obtain ⟨b1, b2⟩ := hG2 k i hi
    exact ⟨b1, b2, rfl⟩
  · rw [show s'.1 44 i = s.1 19 i from w43 1 (by decide) i hi, show s'.1 54 i = s.1 29 i from w43 11 (by decide) i hi, show s'.1 55 i = s.1 30 i from w43 12 (by decide) i hi, show (cpT (cpS t 0 1 N) 0 1 nt).1 165 (100 + i) = t.1 165 i from tR 165 (by decide) (by decide) i hi, show (cpT (cpS t 0 1 N) 0 1 nt).1 169 (100 + i) = t.1 169 i from tR 169 (by decide) (by decide) i hi, show (cpT (cpS t 0 1 N) 0 1 nt).1 170 (100 + i) = t.1 170 i from tR 170 (by decide) (by decide) i hi]
    obtain ⟨⟨y1, y2⟩, y3⟩ := hG5 i hi
    obtain ⟨k, -, ⟨-, -, y4⟩, -⟩ := hln i hi
    exact ⟨⟨y1, y2, y4⟩, y3⟩
  · obtain ⟨k, -, -, -, -, -, -, ⟨y1, y2⟩, -⟩ := hln i hi
    rw [show s'.1 60 i = s.1 35 i from w43 17 (by decide) i hi, show (cpT (cpS t 0 1 N) 0 1 nt).1 175 (100 + i) = t.1 175 i from tR 175 (by decide) (by decide) i hi]
    exact ⟨y1, y2, fun y => by cases y⟩
  · rw [show (cpT (cpS t 0 1 N) 0 1 nt).1 164 (100 + p) = t.1 164 p from tR 164 (by decide) (by decide) p hp]
    exact hel p (Nat.zero_le p) hp hne
end CPX
