/-! REWRITINGS: a value read before is used again, on both sides. -/
/-- what a rewriting changes -/
abbrev chX (s s' : qS) : Prop := (∀ c, c < 36 ∨ 60 < c → c ≠ 8 → c ≠ 9 → s'.1 c = s.1 c) ∧ (∀ j, j < 400 → s'.1 8 j = s.1 8 j ∧ s'.1 9 j = s.1 9 j) ∧ (∀ c, c = 36 ∨ c = 39 ∨ c = 40 → s'.1 c = s.1 c) ∧ s'.2 = s.2
abbrev chM (t t' : qS) : Prop := (∀ c, c < 164 ∨ 181 < c → t'.1 c = t.1 c) ∧ (∀ c, 164 ≤ c → c ≤ 180 → ∀ j, j < 100 ∨ 200 ≤ j → t'.1 c j = t.1 c j) ∧ (∀ j, j < 4 ∨ 8 ≤ j → t'.1 181 j = t.1 181 j) ∧ t'.2 = t.2
section REU
variable {en : pN} {d d' k i n N j r v u m nc nl nt key a : Nat} {cl th K : Nat → Nat} {bl : Nat → List Nat} {go go' : Nat → Bool} {s s' s'' t t' t'' : qS} {A C L' : List Nat} {z zM y E A' E' : Int32} {lo : Option Nat} {O Q O' Q' : fI} {W : Nat}
theorem dpk_cg9 : ∀ (n i top : Nat), (∀ j, i ≤ j → j < i + n → O' j = O j ∧ Q' j = Q j) → dpk O Q W n i top → dpk O' Q' W n i top
  | 0, _, _, _, _ => trivial
  | n + 1, i, top, h, g => by
    obtain ⟨h1, h2⟩ := h i (Nat.le_refl i) (by omega)
    unfold dpk at g ⊢
    rw [h1, h2]
    exact ⟨g.1, dpk_cg9 n (i + 1) _ (fun j j1 j2 => h j (by omega) (by omega)) g.2⟩
theorem chX_rw (h : rwX s s') : chX s s' ∧ s'.1 60 = s'.1 60 := ⟨⟨fun c h1 h2 h3 => h.1 c (by omega) (by omega) (by omega) (by omega) (by omega), fun j _ => ⟨by rw [h.1 8 (by decide) (by decide) (by decide) (by decide) (by decide)], by rw [h.1 9 (by decide) (by decide) (by decide) (by decide) (by decide)]⟩, fun c hc => h.1 c (by omega) (by omega) (by omega) (by omega) (by omega), h.2⟩, rfl⟩
theorem chM_rw (h : rwM t t') : chM t t' := ⟨fun c h1 => h.1 c (by omega) (by omega) (by omega) (by omega) (by omega), fun c h1 h2 j hj => by
  by_cases q : c = 171 ∨ c = 172 ∨ c = 173 ∨ c = 175
  · exact h.2.1 c q j hj
  · rw [h.1 c (by omega) (by omega) (by omega) (by omega) (by omega)], h.2.2.1, h.2.2.2⟩
theorem cnF_ch (h : cnF 36 s t nc nl nt N cl) (h1 : ∀ c, c = 36 ∨ c = 39 ∨ c = 40 → s'.1 c = s.1 c) (h2 : ∀ c, c = 154 ∨ c = 155 ∨ c = 158 → t'.1 c = t.1 c) : cnF 36 s' t' nc nl nt N cl := by
  obtain ⟨c1, c2, c3, c4⟩ := h
  have e36 := h1 36 (by omega)
  refine ⟨by rw [e36]; exact c1, fun u hu => by rw [show s'.1 (36 + 3) = s.1 (36 + 3) from h1 39 (by omega)]; exact c2 u hu, fun c hc => ?_, fun u hu => ?_⟩
  · rw [h2 154 (by omega), h2 155 (by omega), e36, show s'.1 (36 + 4) = s.1 (36 + 4) from h1 40 (by omega)]
    exact c3 c hc
  · rw [h2 158 (by omega), e36]
    exact c4 u hu
def ruX (s : qS) (i : Nat) (w : Int32) : qS := uI (uI (uI (uI (uI (uI s 8 (400 + i) 2) 9 (400 + i) w) 43 i 0) 45 i (-2)) 48 i (nI (400 + i))) 49 i (nI (400 + i + 1))
def ruM (t : qS) (i : Nat) (w : Int32) : qS := uI (uI (uI t 164 (100 + i) 0) 176 (100 + i) w) 166 (100 + i) (-2)
theorem ruX_o (h : a ≠ 8) (h1 : a ≠ 9) (h2 : a ≠ 43) (h3 : a ≠ 45) (h4 : a ≠ 48) (h5 : a ≠ 49) : (ruX s i z).1 a = s.1 a := by
  unfold ruX
  rw [uI_ne h5, uI_ne h4, uI_ne h3, uI_ne h2, uI_ne h1, uI_ne h]
theorem ruX_89 : ((ruX s i z).1 8 j = if j = 400 + i then 2 else s.1 8 j) ∧ ((ruX s i z).1 9 j = if j = 400 + i then z else s.1 9 j) := by
  unfold ruX
  constructor
  · rw [uI_ne (by decide), uI_ne (by decide), uI_ne (by decide), uI_ne (by decide), uI_ne (by decide), rdU]
    by_cases q : j = 400 + i
    · rw [if_pos ⟨rfl, q⟩, if_pos q]
    · rw [if_neg (fun y => q y.2), if_neg q]
  · rw [uI_ne (by decide), uI_ne (by decide), uI_ne (by decide), uI_ne (by decide), rdU]
    by_cases q : j = 400 + i
    · rw [if_pos ⟨rfl, q⟩, if_pos q]
    · rw [if_neg (fun y => q y.2), if_neg q, uI_ne (by decide)]
theorem ruX_n (h : j ≠ i) (ha : a = 43 ∨ a = 45 ∨ a = 48 ∨ a = 49) : (ruX s i z).1 a j = s.1 a j := by
  unfold ruX
  rw [rdU, if_neg (fun y => h y.2), rdU, if_neg (fun y => h y.2), rdU, if_neg (fun y => h y.2), rdU, if_neg (fun y => h y.2), uI_ne (by omega), uI_ne (by omega)]
theorem ruX_i : (ruX s i z).1 43 i = 0 ∧ (ruX s i z).1 45 i = -2 ∧ (ruX s i z).1 48 i = nI (400 + i) ∧ (ruX s i z).1 49 i = nI (400 + i + 1) := by
  unfold ruX
  refine ⟨?_, ?_, ?_, ?_⟩
  · rw [uI_ne (by decide), uI_ne (by decide), uI_ne (by decide), rdU, if_pos ⟨rfl, rfl⟩]
  · rw [uI_ne (by decide), uI_ne (by decide), rdU, if_pos ⟨rfl, rfl⟩]
  · rw [uI_ne (by decide), rdU, if_pos ⟨rfl, rfl⟩]
  · rw [rdU, if_pos ⟨rfl, rfl⟩]
theorem ruM_o (h : a ≠ 164) (h1 : a ≠ 166) (h2 : a ≠ 176) : (ruM t i z).1 a = t.1 a := by
  unfold ruM
  rw [uI_ne h1, uI_ne h2, uI_ne h]
theorem ruM_n (h : j ≠ 100 + i) : (ruM t i z).1 a j = t.1 a j := by
  unfold ruM
  rw [rdU, if_neg (fun y => h y.2), rdU, if_neg (fun y => h y.2), rdU, if_neg (fun y => h y.2)]
theorem ruM_i : (ruM t i z).1 164 (100 + i) = 0 ∧ (ruM t i z).1 176 (100 + i) = z ∧ (ruM t i z).1 166 (100 + i) = -2 := by
  unfold ruM
  refine ⟨?_, ?_, ?_⟩
  · rw [uI_ne (by decide), uI_ne (by decide), rdU, if_pos ⟨rfl, rfl⟩]
  · rw [uI_ne (by decide), rdU, if_pos ⟨rfl, rfl⟩]
  · rw [rdU, if_pos ⟨rfl, rfl⟩]
end REU

