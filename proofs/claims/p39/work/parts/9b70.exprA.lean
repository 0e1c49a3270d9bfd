/-! THE READER: expressions on both sides: what a node is, what is kept. -/
/-- a node of both -/
abbrev nd1 (lw : Bool) (u : Nat) (O Q M V : Int32) : Prop := ∃ k K : Nat, k ∈ opL ∧ O = nI k ∧ M = nI K ∧ ndR u k Q K V ∧ (lw = false → K ≤ 14)
/-- nodes of both from a to z -/
abbrev ndZ (lw : Bool) (u : Nat) (s t : qS) (q bs a z : Nat) : Prop := ∀ j, a ≤ j → j < z → nd1 lw u (s.1 (q + 1) j) (s.1 (q + 2) j) (t.1 161 (bs + j)) (t.1 162 (bs + j))
/-- the nodes from a to b come to one value -/
def gw (O Q : fI) (a b : Nat) : Prop := a ≤ b ∧ ∀ O' Q' : fI, (∀ j, a ≤ j → j < b → O' j = O j ∧ Q' j = Q j) → ∀ n top, dpk O' Q' 236 n b (top + 1) → dpk O' Q' 236 (b - a + n) a top
/-- what reading an expression changes of the class -/
abbrev rxF (lw : Bool) (q m : Nat) (s s' : qS) : Prop := (∀ a, a ≠ 1 → (a ≠ 14 ∨ lw = true) → a ≠ q → a ≠ q + 1 → a ≠ q + 2 → a ≠ 65 → s'.1 a = s.1 a) ∧ (∀ j, j ≠ 8 → j ≠ 9 → j ≠ 10 → s'.1 1 j = s.1 1 j) ∧ (∀ j, j ≠ 3 → s'.1 q j = s.1 q j) ∧ (∀ j, j < m → s'.1 (q + 1) j = s.1 (q + 1) j ∧ s'.1 (q + 2) j = s.1 (q + 2) j) ∧ (∀ j, j ≠ 11 → j ≠ 12 → j ≠ 13 → s'.1 65 j = s.1 65 j) ∧ (∀ a, a ≠ 1 → (a ≠ 13 ∨ lw = true) → s'.2.1 a = s.2.1 a) ∧ s'.2.2 = s.2.2
def mvJ (j : Nat) : Bool := [2, 3, 4, 6, 7, 8, 25, 28, 31].contains j
section EXA
variable {en : pN} {d d' k K q bs u n i i' ct m m' c c' nc nl nt a b z : Nat} {lw : Bool} {V cl : Nat → Nat} {U : Nat → Nat → Nat} {pl : Nat → Nat} {s s' s'' t t' t'' : qS} {B : Nat → Nat} {O Q O' Q' : fI} {v w : Int32}
theorem ndR_op (h : ndR u k v K w) : k ∈ opL := by
  unfold ndR at h
  rcases h with h | h | h | h | h | h | h | h | h | h | h | h | h | h | h | h | h | h | h | h | h | h <;> (rw [h.1]; decide)
theorem ndR_bin (h : ndR 0 k 0 K 0) (h4 : 4 ≤ K) (h14 : K ≤ 14) : ar k = 2 ∧ k ≠ 2 ∧ k ≠ 3 ∧ ∀ u v w, ndR u k v K w := by
  unfold ndR at h
  rcases h with ⟨h1, h2, _⟩ | ⟨h1, h2, _⟩ | ⟨h1, h2⟩ | ⟨h1, h2⟩ | ⟨h1, h2⟩ | ⟨h1, h2⟩ | ⟨h1, h2⟩ | ⟨h1, h2⟩ | ⟨h1, h2⟩ | ⟨h1, h2⟩ | ⟨h1, h2⟩ | ⟨h1, h2⟩ | ⟨h1, h2⟩ | ⟨h1, h2⟩ | ⟨h1, h2⟩ | ⟨h1, h2, _⟩ | ⟨h1, h2, _⟩ | ⟨h1, h2, _⟩ | ⟨h1, h2, _⟩ | ⟨h1, h2, _⟩ | ⟨h1, h2, _⟩ | ⟨h1, h2, _⟩ <;> first | omega | (subst h1; subst h2; exact ⟨rfl, by decide, by decide, fun u v w => by unfold ndR; simp⟩)
/-- values -/
theorem gw_one (hk : k ∈ opL) (ha : ar k = 0) (hO : O m = nI k) (h2 : k = 2 → ∃ q, Q m = nI q ∧ q < 236) (h3 : k = 3 → ∃ q, Q m = nI q ∧ q / 8 < 236) : gw O Q m (m + 1) := by
  refine ⟨by omega, fun O' Q' h n top hd => ?_⟩
  obtain ⟨e1, e2⟩ := h m (by omega) (by omega)
  rw [show m + 1 - m + n = n + 1 by omega]
  have hlt := op_lt k hk
  refine ⟨⟨k, hk, e1.trans hO, by omega, fun z => by rw [e2]; exact h2 z, fun z => by rw [e2]; exact h3 z⟩, ?_⟩
  rw [e1, hO, n_cl (by omega), ha]
  exact hd
theorem gw_pre (h : gw O Q a m) (hk : k ∈ opL) (ha : ar k = 1) (h23 : k ≠ 2 ∧ k ≠ 3) (hO : O m = nI k) : gw O Q a (m + 1) := by
  obtain ⟨h1, h2⟩ := h
  refine ⟨by omega, fun O' Q' h n top hd => ?_⟩
  obtain ⟨e1, e2⟩ := h m (by omega) (by omega)
  rw [show m + 1 - a + n = m - a + (n + 1) by omega]
  have hlt := op_lt k hk
  refine h2 O' Q' (fun j j1 j2 => h j j1 (by omega)) (n + 1) top ⟨⟨k, hk, e1.trans hO, by omega, fun z => absurd z h23.1, fun z => absurd z h23.2⟩, ?_⟩
  rw [e1, hO, n_cl (by omega), ha]
  exact hd
theorem gw_bin (h : gw O Q a m) (g : gw O Q m z) (hk : k ∈ opL) (ha : ar k = 2) (h23 : k ≠ 2 ∧ k ≠ 3) (hO : O z = nI k) : gw O Q a (z + 1) := by
  obtain ⟨h1, h2⟩ := h
  obtain ⟨g1, g2⟩ := g
  refine ⟨by omega, fun O' Q' h n top hd => ?_⟩
  obtain ⟨e1, e2⟩ := h z (by omega) (by omega)
  rw [show z + 1 - a + n = m - a + (z - m + (n + 1)) by omega]
  have hlt := op_lt k hk
  refine h2 O' Q' (fun j j1 j2 => h j j1 (by omega)) _ top (g2 O' Q' (fun j j1 j2 => h j (by omega) (by omega)) (n + 1) (top + 1) ⟨⟨k, hk, e1.trans hO, by omega, fun z => absurd z h23.1, fun z => absurd z h23.2⟩, ?_⟩)
  rw [e1, hO, n_cl (by omega), ha]
  exact hd
theorem gw_ag (h : gw O Q a b) (e : ∀ j, a ≤ j → j < b → O' j = O j ∧ Q' j = Q j) : gw O' Q' a b := ⟨h.1, fun O2 Q2 h2 => h.2 O2 Q2 (fun j j1 j2 => ⟨(h2 j j1 j2).1.trans (e j j1 j2).1, (h2 j j1 j2).2.trans (e j j1 j2).2⟩)⟩
theorem gw_dpk (h : gw O Q a b) : dpk O Q 236 (b - a) a 0 := h.2 O Q (fun _ _ _ => ⟨rfl, rfl⟩) 0 0 trivial
/-! frames -/
theorem rxF.rf : rxF lw q m s s := ⟨fun _ _ _ _ _ _ _ => rfl, fun _ _ _ _ => rfl, fun _ _ => rfl, fun _ _ => ⟨rfl, rfl⟩, fun _ _ _ _ => rfl, fun _ _ _ => rfl, rfl⟩
theorem rxF.tr (h : rxF lw q m s s') (g : rxF lw q m' s' s'') (hm : m ≤ m') : rxF lw q m s s'' := ⟨fun a h1 h2 h3 h4 h5 h6 => (g.1 a h1 h2 h3 h4 h5 h6).trans (h.1 a h1 h2 h3 h4 h5 h6), fun j h1 h2 h3 => (g.2.1 j h1 h2 h3).trans (h.2.1 j h1 h2 h3), fun j h1 => (g.2.2.1 j h1).trans (h.2.2.1 j h1), fun j h1 => ⟨(g.2.2.2.1 j (by omega)).1.trans (h.2.2.2.1 j h1).1, (g.2.2.2.1 j (by omega)).2.trans (h.2.2.2.1 j h1).2⟩, fun j h1 h2 h3 => (g.2.2.2.2.1 j h1 h2 h3).trans (h.2.2.2.2.1 j h1 h2 h3), fun a h1 h2 => (g.2.2.2.2.2.1 a h1 h2).trans (h.2.2.2.2.2.1 a h1 h2), g.2.2.2.2.2.2.trans h.2.2.2.2.2.2⟩
theorem rxF.wk (h : rxF true q m s s') : rxF lw q m s s' := ⟨fun a h1 _ h3 h4 h5 h6 => h.1 a h1 (Or.inr rfl) h3 h4 h5 h6, h.2.1, h.2.2.1, h.2.2.2.1, h.2.2.2.2.1, fun a h1 _ => h.2.2.2.2.2.1 a h1 (Or.inr rfl), h.2.2.2.2.2.2⟩
theorem rxF.ad (h : adF s s') (hq : q = 7 ∨ q = 61) : rxF lw q m s s' := by
  have e : ∀ c, c ≠ 1 → s'.1 c = s.1 c := h.1
  refine ⟨fun a h1 _ _ _ _ _ => e a h1, h.2.1, fun j _ => by rw [e q (by omega)], fun j _ => ⟨by rw [e (q + 1) (by omega)], by rw [e (q + 2) (by omega)]⟩, fun j _ _ _ => by rw [e 65 (by decide)], fun a h1 _ => h.2.2.1 a h1, h.2.2.2⟩
theorem rxF.bm (h : bmF s s') (hq : q = 7 ∨ q = 61) : rxF lw q m s s' := by
  have e : ∀ c, c ≠ 1 → c ≠ 65 → s'.1 c = s.1 c := h.1
  refine ⟨fun a h1 _ _ _ _ h6 => e a h1 h6, fun j _ h2 _ => h.2.1 j h2, fun j _ => by rw [e q (by omega) (by omega)], fun j _ => ⟨by rw [e (q + 1) (by omega) (by omega)], by rw [e (q + 2) (by omega) (by omega)]⟩, fun j h1 h2 _ => h.2.2.1 j h1 h2, fun a _ _ => by rw [h.2.2.2], by rw [h.2.2.2]⟩
theorem rxF.pt (h : ptF q m' s s') (hq : q = 7 ∨ q = 61) (hm : m ≤ m') : rxF lw q m s s' := by
  have e : ∀ c, c ≠ q → c ≠ q + 1 → c ≠ q + 2 → s'.1 c = s.1 c := h.1
  refine ⟨fun a _ _ h3 h4 h5 _ => e a h3 h4 h5, fun j _ _ _ => by rw [e 1 (by omega) (by omega) (by omega)], h.2.1, fun j hj => h.2.2.1 j (by omega), fun j _ _ _ => by rw [e 65 (by omega) (by omega) (by omega)], fun a _ _ => by rw [h.2.2.2], by rw [h.2.2.2]⟩
theorem rxF.cu (hq : q = 7 ∨ q = 61) : rxF lw q m s (uI s 65 13 v) := by
  have e : ∀ c, c ≠ 65 → (uI s 65 13 v).1 c = s.1 c := fun c hc => uI_ne hc
  refine ⟨fun a _ _ _ _ _ h6 => e a h6, fun j _ _ _ => by rw [e 1 (by decide)], fun j _ => by rw [e q (by omega)], fun j _ => ⟨by rw [e (q + 1) (by omega)], by rw [e (q + 2) (by omega)]⟩, fun j _ _ h3 => by rw [rdU, if_neg (fun z => h3 z.2)], fun a _ _ => rfl, rfl⟩
theorem rxF.lc (h1 : ∀ a, a ≠ 14 → s'.1 a = s.1 a) (h2 : ∀ a, a ≠ 13 → s'.2.1 a = s.2.1 a) (h3 : s'.2.2 = s.2.2) (hq : q = 7 ∨ q = 61) : rxF false q m s s' := ⟨fun a _ g _ _ _ _ => h1 a (g.resolve_right (by decide)), fun j _ _ _ => by rw [h1 1 (by decide)], fun j _ => by rw [h1 q (by omega)], fun j _ => ⟨by rw [h1 (q + 1) (by omega)], by rw [h1 (q + 2) (by omega)]⟩, fun j _ _ _ => by rw [h1 65 (by decide)], fun a _ g => h2 a (g.resolve_right (by decide)), h3⟩
/-! what stands under a frame -/
theorem cL_fr (h : cL s B n i) (h1 : ∀ j, j = 6 ∨ j = 8 ∨ j = 9 ∨ j = 10 → s'.1 1 j = s.1 1 j) (h4 : s'.1 4 = s.1 4) (h5 : s'.1 5 = s.1 5) (g1 : s'.2.1 1 11 = s.2.1 1 11) (g3 : s'.2.1 3 = s.2.1 3) (g6 : s'.2.1 6 = s.2.1 6) (h11 : ∀ j, j = 11 ∨ j = 12 → s'.1 65 j = s.1 65 j) : cL s' B n i := by
  obtain ⟨⟨c1, c2, c3, c4⟩, ⟨hi, t1, t2, t3, t4⟩, hK, h0, hn⟩ := h
  refine ⟨?_, ?_, by rw [g3]; exact hK, ⟨by rw [h11 11 (Or.inl rfl)]; exact h0.1, by rw [h11 12 (Or.inr rfl)]; exact h0.2⟩, hn⟩
  · rw [g3]
    refine ⟨by rw [h1 6 (by decide)]; exact c1, fun j t ht => ?_, c3, c4⟩
    rw [h4, h5, g6]
    exact c2 j t ht
  · rw [g3]
    exact ⟨hi, by rw [h1 8 (by decide)]; exact t1, by rw [h1 9 (by decide)]; exact t2, by rw [h1 10 (by decide)]; exact t3, by rw [g1]; exact t4⟩
end EXA

