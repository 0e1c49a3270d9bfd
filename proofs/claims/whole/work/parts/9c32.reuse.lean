/-! REWRITINGS: a value read before is used again, on both sides. -/
/-- the places of a line's expressions in the class's nodes -/
abbrev rgF (s t : qS) (i : Nat) : Prop := ((∃ e, e ≤ 400 ∧ s.1 49 i = nI e) ∨ (s.1 48 i = nI (400 + i) ∧ s.1 49 i = nI (400 + i + 1))) ∧ (∃ e, e ≤ 400 ∧ s.1 51 i = nI e) ∧ (s.1 43 i = nI 15 → wdR (s.1 52 i) (t.2.1 180 (100 + i)))
/-- what a rewriting changes -/
abbrev chX (s s' : qS) : Prop := (∀ c, c < 36 ∨ 60 < c → c ≠ 8 → c ≠ 9 → s'.1 c = s.1 c) ∧ (∀ j, j < 400 → s'.1 8 j = s.1 8 j ∧ s'.1 9 j = s.1 9 j) ∧ (∀ c, c = 36 ∨ c = 39 ∨ c = 40 → s'.1 c = s.1 c) ∧ s'.2 = s.2
abbrev chM (t t' : qS) : Prop := (∀ c, c < 164 ∨ 181 < c → t'.1 c = t.1 c) ∧ (∀ c, 164 ≤ c → c ≤ 180 → ∀ j, j < 100 ∨ 200 ≤ j → t'.1 c j = t.1 c j) ∧ (∀ j, j < 4 ∨ 8 ≤ j → t'.1 181 j = t.1 181 j) ∧ t'.2 = t.2
/-- the rewritten program of both -/
abbrev rwF (s t : qS) (nc nl nt N : Nat) (cl th K : Nat → Nat) (bl : Nat → List Nat) (go : Nat → Bool) : Prop := cnF 36 s t nc nl nt N cl ∧ (∀ i, i < N → lnF 36 1 s t nc nl nt cl th i ∧ rgF s t i) ∧ TG s t nt N K th bl go ∧ t.1 151 32 = nI N
section REU
variable {en : pN} {d d' k i n N j r v u m nc nl nt key a : Nat} {cl th K : Nat → Nat} {bl : Nat → List Nat} {go go' : Nat → Bool} {s s' s'' t t' t'' : qS} {A C L' : List Nat} {z zM y E A' E' : Int32} {lo : Option Nat} {O Q O' Q' : fI} {W : Nat}
theorem dpk_cg9 : ∀ (n i top : Nat), (∀ j, i ≤ j → j < i + n → O' j = O j ∧ Q' j = Q j) → dpk O Q W n i top → dpk O' Q' W n i top
  | 0, _, _, _, _ => trivial
  | n + 1, i, top, h, g => by
    obtain ⟨h1, h2⟩ := h i (Nat.le_refl i) (by omega)
    unfold dpk at g ⊢
    rw [h1, h2]
    exact ⟨g.1, dpk_cg9 n (i + 1) _ (fun j j1 j2 => h j (by omega) (by omega)) g.2⟩
theorem exF_cg (h : exF m s t u y E A' E') (hE : ∀ e, E = nI e → e ≤ m → ∀ j, clp y ≤ j → j < e → s'.1 8 j = s.1 8 j ∧ s'.1 9 j = s.1 9 j) (hm : m ≤ 500) (g1 : t'.1 161 = t.1 161) (g2 : t'.1 162 = t.1 162) : exF m s' t' u y E A' E' := by
  obtain ⟨a, e, h1, h2, h3, h4, h5, h6⟩ := h
  have e0 : clp y = a := by rw [h1]; exact n_clp (by omega)
  have hj := hE e h2 h4
  rw [e0] at hj
  refine ⟨a, e, h1, h2, h3, h4, dpk_cg9 _ _ _ (fun j j1 j2 => hj j j1 (by omega)) h5, ?_⟩
  rcases h6 with h6 | ⟨y1, y2, y3, y4, y5⟩ | ⟨y1, y2, k, y3, y4, y5, y6⟩
  · exact Or.inl h6
  · refine Or.inr (Or.inl ⟨y1, y2, y3, fun j j1 j2 k hk hk2 => ?_, fun j j1 j2 => by rw [g1]; exact y5 j j1 j2⟩)
    rw [(hj j j1 j2).1] at hk
    rw [(hj j j1 j2).2, g1, g2]
    exact y4 j j1 j2 k hk hk2
  · obtain ⟨q1, q2⟩ := hj a (Nat.le_refl a) (by omega)
    exact Or.inr (Or.inr ⟨y1, y2, k, y3, q1.trans y4, q2.trans y5, y6⟩)
theorem chX_rw (h : rwX s s') : chX s s' ∧ s'.1 60 = s'.1 60 := ⟨⟨fun c h1 h2 h3 => h.1 c (by omega) (by omega) (by omega) (by omega) (by omega), fun j _ => ⟨by rw [h.1 8 (by decide) (by decide) (by decide) (by decide) (by decide)], by rw [h.1 9 (by decide) (by decide) (by decide) (by decide) (by decide)]⟩, fun c hc => h.1 c (by omega) (by omega) (by omega) (by omega) (by omega), h.2⟩, rfl⟩
theorem chM_rw (h : rwM t t') : chM t t' := ⟨fun c h1 => h.1 c (by omega) (by omega) (by omega) (by omega) (by omega), fun c h1 h2 j hj => by
  by_cases q : c = 171 ∨ c = 172 ∨ c = 173 ∨ c = 175
  · exact h.2.1 c q j hj
  · rw [h.1 c (by omega) (by omega) (by omega) (by omega) (by omega)], h.2.2.1, h.2.2.2⟩
theorem cnF_ch (h : cnF 36 s t nc nl nt N cl) (h1 : ∀ c, c = 36 ∨ c = 39 ∨ c = 40 → s'.1 c = s.1 c) (h2 : ∀ c, c = 154 ∨ c = 155 ∨ c = 158 → t'.1 c = t.1 c) : cnF 36 s' t' nc nl nt N cl := by
  obtain ⟨c1, c2, c3, c4⟩ := h
  have e36 := h1 36 (by omega)
  refine ⟨by rw [e36]; exact c1, fun u hu => by rw [show s'.1 (36 + 3) = s.1 (36 + 3) from h1 39 (by omega)]; exact c2 u hu, fun c hc => ?_, fun u hu => ?_⟩
  · rw [h2 154 (by omega), h2 155 (by omega), e36, show s'.1 (36 + 4) = s.1 (36 + 4) from h1 40 (by omega)]
    exact c3 c hc
  · rw [h2 158 (by omega), e36]
    exact c4 u hu
/-- a change of the tree only -/
theorem rwF_rw (h : rwF s t nc nl nt N cl th K bl go) (hX : rwX s s') (hM : rwM t t') {bl' : Nat → List Nat} (hG : TG s' t' nt N K th bl' go') : rwF s' t' nc nl nt N cl th K bl' go' := by
  obtain ⟨h1, h2, h3, h4⟩ := h
  have eX : ∀ c, c ≠ 41 → c ≠ 53 → c ≠ 56 → c ≠ 57 → c ≠ 60 → s'.1 c = s.1 c := hX.1
  have eM : ∀ c, c ≠ 171 → c ≠ 172 → c ≠ 173 → c ≠ 175 → c ≠ 181 → t'.1 c = t.1 c := hM.1
  refine ⟨cnF_ch h1 (fun c hc => eX c (by omega) (by omega) (by omega) (by omega) (by omega)) (fun c hc => eM c (by omega) (by omega) (by omega) (by omega) (by omega)), fun i hi => ?_, hG, by rw [eM 151 (by decide) (by decide) (by decide) (by decide) (by decide)]; exact h4⟩
  obtain ⟨⟨k, g1, g2, g3, g4, g5, g6, g7, g8, g9⟩, g10⟩ := h2 i hi
  have e43 : s'.1 (36 + 7) = s.1 (36 + 7) := eX 43 (by decide) (by decide) (by decide) (by decide) (by decide)
  have e44 : s'.1 (36 + 8) = s.1 (36 + 8) := eX 44 (by decide) (by decide) (by decide) (by decide) (by decide)
  have e45 : s'.1 (36 + 9) = s.1 (36 + 9) := eX 45 (by decide) (by decide) (by decide) (by decide) (by decide)
  have e46 : s'.1 (36 + 10) = s.1 (36 + 10) := eX 46 (by decide) (by decide) (by decide) (by decide) (by decide)
  have e48 : s'.1 (36 + 12) = s.1 (36 + 12) := eX 48 (by decide) (by decide) (by decide) (by decide) (by decide)
  have e49 : s'.1 (36 + 13) = s.1 (36 + 13) := eX 49 (by decide) (by decide) (by decide) (by decide) (by decide)
  have e50 : s'.1 (36 + 14) = s.1 (36 + 14) := eX 50 (by decide) (by decide) (by decide) (by decide) (by decide)
  have e51 : s'.1 (36 + 15) = s.1 (36 + 15) := eX 51 (by decide) (by decide) (by decide) (by decide) (by decide)
  have e8 := eX 8 (by decide) (by decide) (by decide) (by decide) (by decide)
  have e9 := eX 9 (by decide) (by decide) (by decide) (by decide) (by decide)
  have m161 := eM 161 (by decide) (by decide) (by decide) (by decide) (by decide)
  have m162 := eM 162 (by decide) (by decide) (by decide) (by decide) (by decide)
  have hlm : lmR 36 ≤ 500 := lmR_le
  refine ⟨⟨k, by rw [e43, eM 164 (by decide) (by decide) (by decide) (by decide) (by decide)]; exact g1, by rw [e44]; exact g2, by rw [e45, eM 166 (by decide) (by decide) (by decide) (by decide) (by decide)]; exact g3, by rw [e45]; exact g4, by rw [e46, eM 167 (by decide) (by decide) (by decide) (by decide) (by decide)]; exact g5, ?_, ?_, by rw [e48, e49]; exact g8, by rw [e50, e51]; exact g9⟩, ?_⟩
  · rw [e48, e49, eM 176 (by decide) (by decide) (by decide) (by decide) (by decide), eM 177 (by decide) (by decide) (by decide) (by decide) (by decide)]
    exact exF_cg g6 (fun _ _ _ j _ _ => by rw [e8, e9]; exact ⟨rfl, rfl⟩) hlm m161 m162
  · rw [e50, e51, eM 178 (by decide) (by decide) (by decide) (by decide) (by decide), eM 179 (by decide) (by decide) (by decide) (by decide) (by decide)]
    exact exF_cg g7 (fun _ _ _ j _ _ => by rw [e8, e9]; exact ⟨rfl, rfl⟩) hlm m161 m162
  · unfold rgF
    rw [show s'.1 43 = s.1 43 from e43, show s'.1 48 = s.1 48 from e48, show s'.1 49 = s.1 49 from e49, show s'.1 51 = s.1 51 from e51, eX 52 (by decide) (by decide) (by decide) (by decide) (by decide), hM.2.2.2]
    exact g10
def ruX (s : qS) (i : Nat) (w : Int32) : qS := uI (uI (uI (uI (uI (uI s 8 (400 + i) 2) 9 (400 + i) w) 43 i 0) 45 i (-2)) 48 i (nI (400 + i))) 49 i (nI (400 + i + 1))
def ruM (t : qS) (i : Nat) (w : Int32) : qS := uI (uI (uI t 164 (100 + i) 0) 176 (100 + i) w) 166 (100 + i) (-2)
theorem ruX_o (h : a ≠ 8) (h1 : a ≠ 9) (h2 : a ≠ 43) (h3 : a ≠ 45) (h4 : a ≠ 48) (h5 : a ≠ 49) : (ruX s i z).1 a = s.1 a := by
  unfold ruX
  rw [uI_ne h5, uI_ne h4, uI_ne h3, uI_ne h2, uI_ne h1, uI_ne h]
theorem ruX_89 : ((ruX s i z).1 8 j = if j = 400 + i then 2 else s.1 8 j) ∧ ((ruX s i z).1 9 j = if j = 400 + i then z else s.1 9 j) := by
  unfold ruX
  constructor
  · rw [uI_ne (by decide), uI_ne (by decide), uI_ne (by decide), uI_ne (by decide), uI_ne (by decide), rdU]
    by_cases q : j = 400 + i
    · rw [if_pos ⟨rfl, q⟩, if_pos q]
    · rw [if_neg (fun y => q y.2), if_neg q]
  · rw [uI_ne (by decide), uI_ne (by decide), uI_ne (by decide), uI_ne (by decide), rdU]
    by_cases q : j = 400 + i
    · rw [if_pos ⟨rfl, q⟩, if_pos q]
    · rw [if_neg (fun y => q y.2), if_neg q, uI_ne (by decide)]
theorem ruX_n (h : j ≠ i) (ha : a = 43 ∨ a = 45 ∨ a = 48 ∨ a = 49) : (ruX s i z).1 a j = s.1 a j := by
  unfold ruX
  rw [rdU, if_neg (fun y => h y.2), rdU, if_neg (fun y => h y.2), rdU, if_neg (fun y => h y.2), rdU, if_neg (fun y => h y.2), uI_ne (by omega), uI_ne (by omega)]
theorem ruX_i : (ruX s i z).1 43 i = 0 ∧ (ruX s i z).1 45 i = -2 ∧ (ruX s i z).1 48 i = nI (400 + i) ∧ (ruX s i z).1 49 i = nI (400 + i + 1) := by
  unfold ruX
  refine ⟨?_, ?_, ?_, ?_⟩
  · rw [uI_ne (by decide), uI_ne (by decide), uI_ne (by decide), rdU, if_pos ⟨rfl, rfl⟩]
  · rw [uI_ne (by decide), uI_ne (by decide), rdU, if_pos ⟨rfl, rfl⟩]
  · rw [uI_ne (by decide), rdU, if_pos ⟨rfl, rfl⟩]
  · rw [rdU, if_pos ⟨rfl, rfl⟩]
theorem ruM_o (h : a ≠ 164) (h1 : a ≠ 166) (h2 : a ≠ 176) : (ruM t i z).1 a = t.1 a := by
  unfold ruM
  rw [uI_ne h1, uI_ne h2, uI_ne h]
theorem ruM_n (h : j ≠ 100 + i) : (ruM t i z).1 a j = t.1 a j := by
  unfold ruM
  rw [rdU, if_neg (fun y => h y.2), rdU, if_neg (fun y => h y.2), rdU, if_neg (fun y => h y.2)]
theorem ruM_i : (ruM t i z).1 164 (100 + i) = 0 ∧ (ruM t i z).1 176 (100 + i) = z ∧ (ruM t i z).1 166 (100 + i) = -2 := by
  unfold ruM
  refine ⟨?_, ?_, ?_⟩
  · rw [uI_ne (by decide), uI_ne (by decide), rdU, if_pos ⟨rfl, rfl⟩]
  · rw [uI_ne (by decide), rdU, if_pos ⟨rfl, rfl⟩]
  · rw [rdU, if_pos ⟨rfl, rfl⟩]
theorem rwF_ru (h : rwF s t nc nl nt N cl th K bl go) (hi : i < N) (hN : N ≤ 100) (hnt : nt ≤ 4) (h1 : t.1 164 (100 + i) = 1) (hk : k < 6) : rwF (ruX s i (nI (16 + th i * 6 + k))) (ruM t i (-1 - nI k)) nc nl nt N cl th K bl go ∧ chX s (ruX s i (nI (16 + th i * 6 + k))) ∧ chM t (ruM t i (-1 - nI k)) := by
  obtain ⟨p1, p2, p3, p4⟩ := h
  let S : qS := ruX s i (nI (16 + th i * 6 + k))
  let T : qS := ruM t i (-1 - nI k)
  have hlm : lmR 36 ≤ 500 := lmR_le
  have e500 : lmR 36 = 500 := rfl
  have oX : ∀ c, c ≠ 8 → c ≠ 9 → c ≠ 43 → c ≠ 45 → c ≠ 48 → c ≠ 49 → S.1 c = s.1 c := fun c a b c' d e f => ruX_o a b c' d e f
  have oM : ∀ c, c ≠ 164 → c ≠ 166 → c ≠ 176 → T.1 c = t.1 c := fun c a b c' => ruM_o a b c'
  have o89 : ∀ j, j ≠ 400 + i → S.1 8 j = s.1 8 j ∧ S.1 9 j = s.1 9 j := fun j hj => ⟨by rw [show S.1 8 j = _ from ruX_89.1, if_neg hj], by rw [show S.1 9 j = _ from ruX_89.2, if_neg hj]⟩
  refine ⟨⟨cnF_ch p1 (fun c hc => oX c (by omega) (by omega) (by omega) (by omega) (by omega) (by omega)) (fun c hc => oM c (by omega) (by omega) (by omega)), fun j hj => ?_, ?_, by rw [oM 151 (by decide) (by decide) (by decide)]; exact p4⟩, ⟨fun c a b c' => oX c (by omega) (by omega) (by omega) (by omega) (by omega) (by omega), fun j hj => o89 j (by omega), fun c hc => oX c (by omega) (by omega) (by omega) (by omega) (by omega) (by omega), rfl⟩, ⟨fun c hc => oM c (by omega) (by omega) (by omega), fun c _ _ j hj => ruM_n (by omega), fun j hj => by rw [oM 181 (by decide) (by decide) (by decide)], rfl⟩⟩
  · obtain ⟨⟨k', g1, g2, g3, g4, g5, g6, g7, g8, g9⟩, g10, g11, g12⟩ := p2 j hj
    have e52 : S.1 52 = s.1 52 := oX 52 (by decide) (by decide) (by decide) (by decide) (by decide) (by decide)
    have x2 : exF (lmR 36) S T (th j) (S.1 (36 + 14) j) (S.1 (36 + 15) j) (T.1 178 (100 * 1 + j)) (T.1 179 (100 * 1 + j)) := by
      rw [show S.1 (36 + 14) = s.1 (36 + 14) from oX 50 (by decide) (by decide) (by decide) (by decide) (by decide) (by decide), show S.1 (36 + 15) = s.1 (36 + 15) from oX 51 (by decide) (by decide) (by decide) (by decide) (by decide) (by decide), oM 178 (by decide) (by decide) (by decide), oM 179 (by decide) (by decide) (by decide)]
      refine exF_cg g7 (fun e he hl q _ hq => o89 q ?_) hlm (oM 161 (by decide) (by decide) (by decide)) (oM 162 (by decide) (by decide) (by decide))
      obtain ⟨e', y1, y2⟩ := g11
      have y3 : nI e = nI e' := he.symm.trans y2
      rw [n_EQ (by omega) (by omega)] at y3
      omega
    have r2 : ∃ e, e ≤ 400 ∧ S.1 51 j = nI e := by rw [oX 51 (by decide) (by decide) (by decide) (by decide) (by decide) (by decide)]; exact g11
    have e44 : S.1 (36 + 8) = s.1 (36 + 8) := oX 44 (by decide) (by decide) (by decide) (by decide) (by decide) (by decide)
    have e46 : S.1 (36 + 10) = s.1 (36 + 10) := oX 46 (by decide) (by decide) (by decide) (by decide) (by decide) (by decide)
    have e50 : S.1 (36 + 14) = s.1 (36 + 14) := oX 50 (by decide) (by decide) (by decide) (by decide) (by decide) (by decide)
    have e51 : S.1 (36 + 15) = s.1 (36 + 15) := oX 51 (by decide) (by decide) (by decide) (by decide) (by decide) (by decide)
    by_cases q : j = i
    · subst q
      obtain ⟨i1, i2, i3, i4⟩ := @ruX_i j s (nI (16 + th j * 6 + k))
      obtain ⟨m1, m2, m3⟩ := @ruM_i j t (-1 - nI k)
      have k1 : k' = 1 := by
        have y : nI k' = nI 1 := g1.2.2.symm.trans h1
        rw [n_EQ (by omega) (by decide)] at y
        exact y
      refine ⟨⟨0, ⟨by decide, i1, m1⟩, by rw [e44]; exact g2, m3.trans i2.symm, ⟨fun y => absurd y (by decide), fun y => absurd y (by decide), fun y => by omega⟩, ?_, ?_, x2, fun y => by omega, fun _ => by rw [e50, e51]; exact g9 (by omega)⟩, Or.inr ⟨i3, i4⟩, r2, fun y => absurd (i1.symm.trans y) (by decide)⟩
      · rw [e46, oM 167 (by decide) (by decide) (by decide)]
        exact ⟨g5.1, by
          rcases g5.2 with ⟨-, y⟩ | y
          · exact absurd k1 y
          · exact Or.inr y⟩
      · have n8 : S.1 8 (400 + j) = nI 2 := by rw [show S.1 8 (400 + j) = _ from ruX_89.1, if_pos rfl]; rfl
        have n9 : S.1 9 (400 + j) = nI (16 + th j * 6 + k) := by rw [show S.1 9 (400 + j) = _ from ruX_89.2, if_pos rfl]
        have hth : th j < 4 := by have := g2.1; omega
        refine ⟨400 + j, 400 + j + 1, i3, i4, by omega, by omega, ?_, Or.inr (Or.inr ⟨rfl, by omega, k, hk, n8, n9, m2⟩)⟩
        rw [show 400 + j + 1 - (400 + j) = 1 by omega]
        exact ⟨⟨2, by decide, n8, by decide, fun _ => ⟨_, n9, by omega⟩, fun y => absurd y (by decide)⟩, trivial⟩
    · have e43 : S.1 (36 + 7) j = s.1 (36 + 7) j := ruX_n q (by omega)
      have e45 : S.1 (36 + 9) j = s.1 (36 + 9) j := ruX_n q (by omega)
      have e48 : S.1 (36 + 12) j = s.1 (36 + 12) j := ruX_n q (by omega)
      have e49 : S.1 (36 + 13) j = s.1 (36 + 13) j := ruX_n q (by omega)
      have eT : ∀ c, T.1 c (100 * 1 + j) = t.1 c (100 * 1 + j) := fun c => ruM_n (by omega)
      refine ⟨⟨k', by rw [e43, eT]; exact g1, by rw [e44]; exact g2, by rw [e45, eT]; exact g3, by rw [e45]; exact g4, by rw [e46, eT]; exact g5, ?_, x2, by rw [e48, e49]; exact g8, by rw [e50, e51]; exact g9⟩, ?_, r2, fun y => by rw [e52]; exact g12 (e43.symm.trans y)⟩
      · rw [e48, e49, eT, eT]
        refine exF_cg g6 (fun e he hl x hx1 hx2 => o89 x ?_) hlm (oM 161 (by decide) (by decide) (by decide)) (oM 162 (by decide) (by decide) (by decide))
        rcases g10 with ⟨e', y1, y2⟩ | ⟨y1, y2⟩
        · have y3 : nI e = nI e' := he.symm.trans y2
          rw [n_EQ (by omega) (by omega)] at y3
          omega
        · have y3 : nI e = nI (400 + j + 1) := he.symm.trans y2
          rw [n_EQ (by omega) (by omega)] at y3
          have y4 : clp (s.1 (36 + 12) j) = 400 + j := by rw [show s.1 (36 + 12) j = nI (400 + j) from y1]; exact n_clp (by omega)
          omega
      · rw [show S.1 48 j = s.1 48 j from e48, show S.1 49 j = s.1 49 j from e49]
        exact g10
  · obtain ⟨q1, q2, q3, q4, q5, q6, q7⟩ := p3
    have f41 := oX 41 (by decide) (by decide) (by decide) (by decide) (by decide) (by decide)
    have f44 := oX 44 (by decide) (by decide) (by decide) (by decide) (by decide) (by decide)
    have f53 := oX 53 (by decide) (by decide) (by decide) (by decide) (by decide) (by decide)
    have f54 := oX 54 (by decide) (by decide) (by decide) (by decide) (by decide) (by decide)
    have f55 := oX 55 (by decide) (by decide) (by decide) (by decide) (by decide) (by decide)
    have f56 := oX 56 (by decide) (by decide) (by decide) (by decide) (by decide) (by decide)
    have f57 := oX 57 (by decide) (by decide) (by decide) (by decide) (by decide) (by decide)
    have f60 := oX 60 (by decide) (by decide) (by decide) (by decide) (by decide) (by decide)
    refine ⟨fun k hk => ?_, q2, q3, q4, fun j hj => ?_, fun j hj => ?_, fun p hp hne => ?_⟩
    · rw [f53, f41, f56, f57, oM 171 (by decide) (by decide) (by decide), oM 181 (by decide) (by decide) (by decide), oM 172 (by decide) (by decide) (by decide), oM 173 (by decide) (by decide) (by decide)]
      exact q1 k hk
    · rw [f44, f54, f55, oM 165 (by decide) (by decide) (by decide), oM 169 (by decide) (by decide) (by decide), oM 170 (by decide) (by decide) (by decide)]
      exact q5 j hj
    · rw [f60, f53, oM 175 (by decide) (by decide) (by decide), oM 171 (by decide) (by decide) (by decide)]
      exact q6 j hj
    · have := q7 p hp hne
      have hpi : p ≠ i := fun y => by rw [y, h1] at this; exact absurd this (by decide)
      rw [show T.1 164 (100 + p) = t.1 164 (100 + p) from ruM_n (by omega)]
      exact this
theorem x_reuse (h : rwF s t nc nl nt N cl th K bl go) (hN : N ≤ 100) (hnt : nt ≤ 4) (hi : i < N) (hg : go i = false) : (qev en (d + 2) 111 [.ref 36, .int (nI i)] s = some (some (.int 0), s) ∧ qev en (d' + 2) 403 [.ref 151, .int (nI (100 + i))] t = some (some (.int 0), t)) ∨ (∃ s' t', qev en (d + 2) 111 [.ref 36, .int (nI i)] s = some (some (.int 1), s') ∧ qev en (d' + 2) 403 [.ref 151, .int (nI (100 + i))] t = some (some (.int 1), t') ∧ chX s s' ∧ chM t t' ∧ rwF s' t' nc nl nt N cl th K bl go) := by
  have e36 : lc 36 = 5 := rfl
  obtain ⟨p1, p2, hG, h32⟩ := id h
  obtain ⟨A, C, hL⟩ := TG_at hG hi hg
  have eA := x_ahead (en := en) (d := d) hG hN hnt hi hL
  have eM := m_lineBefore (en := en) (d := d') hG hN hnt hi hL h32
  have hlt : ∀ x, x ∈ bl (K i) → x < N := fun x hx => (hG.2.1 _ x hx).1
  obtain ⟨⟨ki, g1, g2, g3, -⟩, -⟩ := p2 i hi
  have kk : t.1 164 (100 + i) = s.1 43 i := by
    have y1 : t.1 164 (100 + i) = nI ki := g1.2.2
    have y2 : s.1 43 i = nI ki := g1.2.1
    rw [y1, y2]
  have mA : ∀ l, A.getLast? = some l → l < N := fun l hl => hlt l (by rw [hL]; exact List.mem_append_left _ (List.mem_of_getLast? hl))
  have eX : ∀ l, A.getLast? = some l → lstX A (-1) = nI l ∧ lstX A (-2) = nI l := fun l hl => by
    unfold lstX; rw [hl]; exact ⟨rfl, rfl⟩
  cases hq : A.getLast? with
  | none =>
    have e1 : lstX A (-1) = -1 ∧ lstX A (-2) = -2 := by unfold lstX; rw [hq]; exact ⟨rfl, rfl⟩
    refine Or.inl ⟨le_X5_reuse en _ _ _ _ _ ?_, le_X12_copyLoad en _ _ _ _ ?_⟩
    · rw [gd_true e36, eA, bI_some, e1.1, if_pos (by decide)]
    · rw [eM, bI_some, e1.2, if_pos rfl]
  | some l =>
    have hl := mA l hq
    obtain ⟨e1, e2⟩ := eX l hq
    obtain ⟨⟨kl, l1, l2, l3, -, l5, -⟩, -⟩ := p2 l hl
    have kl' : t.1 164 (100 + l) = s.1 43 l := by
      have y1 : t.1 164 (100 + l) = nI kl := l1.2.2
      have y2 : s.1 43 l = nI kl := l1.2.1
      rw [y1, y2]
    have x0 : ∀ R, (if ¬ (s.1 43 i) = (1 : Int32) then some (some (.int (0 : Int32)), s) else if ¬ (s.1 43 l) = (1 : Int32) then some (some (.int (0 : Int32)), s) else if (s.1 45 i) = (s.1 45 l) then bI (qev en (d + 1) 32 [.int (s.1 44 i), .int (s.1 46 l)] s) (fun w10 s11 => bV (qev en (d + 1) 77 [.ref 7, .int ((400 : Int32) + nI i), .int (2 : Int32), .int w10] s11) (fun s14 => nm (uI s14 43 i (0 : Int32)) (fun s16 => nm (uI s16 45 i (-2 : Int32)) (fun s17 => nm (uI s17 48 i ((400 : Int32) + nI i)) (fun s18 => nm (uI s18 49 i (((400 : Int32) + nI i) + (1 : Int32))) (fun s19 => some (some (.int (1 : Int32)), s19))))))) else some (some (.int (0 : Int32)), s)) = some R → qev en (d + 2) 111 [.ref 36, .int (nI i)] s = some R := fun R hR => by
      refine le_X5_reuse en _ _ _ _ _ ?_
      rw [gd_true e36, eA, bI_some, e1, if_neg (by rw [n_gt (by decide) (by omega)]; omega), gd_in (by omega) (by decide), n_cl (by omega), gd_in (by omega) (by decide), n_cl (by omega)]
      exact hR
    have m0 : ∀ R, (if ¬ (t.1 164 (100 + i)) = (1 : Int32) then some (some (.int (0 : Int32)), t) else if ¬ (t.1 164 (100 + l)) = (1 : Int32) then some (some (.int (0 : Int32)), t) else if (t.1 166 (100 + l)) = (t.1 166 (100 + i)) then nm (uI t 164 (100 + i) (0 : Int32)) (fun s10 => nm (uI s10 176 (100 + i) ((-1 : Int32) - (s10.1 167 (100 + l)))) (fun s11 => nm (uI s11 166 (100 + i) (-2 : Int32)) (fun s12 => some (some (.int (1 : Int32)), s12)))) else some (some (.int (0 : Int32)), t)) = some R → qev en (d' + 2) 403 [.ref 151, .int (nI (100 + i))] t = some R := fun R hR => by
      refine le_X12_copyLoad en _ _ _ _ ?_
      rw [eM, bI_some, e2, if_neg (fun y => (n_m2 (by omega)).mp y), gd_in (by omega) (by decide), n_cl (by omega), show (100 : Int32) + nI l = nI (100 + l) from n_al, gd_in (by omega) (by decide), n_cl (by omega)]
      exact hR
    by_cases q1 : s.1 43 i = 1
    · by_cases q2 : s.1 43 l = 1
      · by_cases q3 : s.1 45 i = s.1 45 l
        · right
          have kl1 : kl = 1 := by
            have y : nI kl = nI 1 := l1.2.1.symm.trans q2
            rw [n_EQ (by omega) (by decide)] at y
            exact y
          obtain ⟨x, x1, x2⟩ : ∃ x, x < cl (th l) ∧ s.1 46 l = nI x := by
            rcases l5.2 with ⟨-, y⟩ | y
            · exact absurd kl1 y
            · exact y
          have hx6 : x < 6 := by have := (p1.2.1 (th l) l2.1).2; omega
          have hth : th i < 4 := by have := g2.1; omega
          obtain ⟨w1, w2, w3⟩ := rwF_ru (i := i) (k := x) h hi hN hnt (by rw [kk]; exact q1) hx6
          refine ⟨_, _, x0 _ ?_, m0 _ ?_, w2, w3, w1⟩
          · rw [if_neg (not_not_intro q1), if_neg (not_not_intro q2), if_pos q3, show s.1 44 i = nI (th i) from g2.2, x2, x_local hth, bI_some]
            have e77 : qev en (d + 1) 77 [.ref 7, .int ((400 : Int32) + nI i), .int (2 : Int32), .int (nI (16 + th i * 6 + x))] s = some (none, uI (uI s 8 (400 + i) 2) 9 (400 + i) (nI (16 + th i * 6 + x))) := by
              refine le_X4_set en _ _ _ _ _ _ _ ?_
              rw [show (400 : Int32) + nI i = nI (400 + i) from n_al, gd_true (show lc 7 = 4 from rfl), gd_in (show 400 + i < ln 8 by rw [show ln 8 = 500 from rfl]; omega) (by decide), n_cl (by omega), nm_eq, gd_in (show 400 + i < ln 9 by rw [show ln 9 = 500 from rfl]; omega) (by decide), nm_eq]
            rw [e77, bV_some, nm_eq, nm_eq, nm_eq, nm_eq, show (400 : Int32) + nI i = nI (400 + i) from n_al, show nI (400 + i) + (1 : Int32) = nI (400 + i + 1) from n_ar]
            rfl
          · have e167 : t.1 167 (100 + l) = nI x := by
              have y : t.1 167 (100 * 1 + l) = s.1 (36 + 10) l := l5.1
              rw [show 100 * 1 + l = 100 + l by omega] at y
              exact y.trans x2
            rw [if_neg (not_not_intro (kk.trans q1)), if_neg (not_not_intro (kl'.trans q2)), if_pos, nm_eq, nm_eq, nm_eq, uI_ne (by decide), e167]
            · rfl
            · have y1 : t.1 166 (100 * 1 + l) = s.1 45 l := l3
              have y2 : t.1 166 (100 * 1 + i) = s.1 45 i := g3
              rw [show 100 * 1 + l = 100 + l by omega] at y1
              rw [show 100 * 1 + i = 100 + i by omega] at y2
              rw [y1, y2, q3]
        · refine Or.inl ⟨x0 _ ?_, m0 _ ?_⟩
          · rw [if_neg (not_not_intro q1), if_neg (not_not_intro q2), if_neg q3]
          · rw [if_neg (not_not_intro (kk.trans q1)), if_neg (not_not_intro (kl'.trans q2)), if_neg]
            have y1 : t.1 166 (100 * 1 + l) = s.1 45 l := l3
            have y2 : t.1 166 (100 * 1 + i) = s.1 45 i := g3
            rw [show 100 * 1 + l = 100 + l by omega] at y1
            rw [show 100 * 1 + i = 100 + i by omega] at y2
            rw [y1, y2]
            exact fun y => q3 y.symm
      · refine Or.inl ⟨x0 _ ?_, m0 _ ?_⟩
        · rw [if_neg (not_not_intro q1), if_pos q2]
        · rw [if_neg (not_not_intro (kk.trans q1)), if_pos (by rw [kl']; exact q2)]
    · refine Or.inl ⟨x0 _ ?_, m0 _ ?_⟩
      · rw [if_pos q1]
      · rw [if_pos (by rw [kk]; exact q1)]
end REU
